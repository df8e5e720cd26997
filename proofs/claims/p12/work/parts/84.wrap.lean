theorem tw_733 : (Jvm.Cond.methodLink "MarshBellsLaw" (7 : Nat) ({ cls := "MarshBells", name := "house", desc := "(I)I" } : Jvm.MethodName)) ∈ lw_tbl := tk_4 (List.mem_of_getElem? (i := 13) rfl)
theorem tw_736 : (Jvm.Cond.code ({ cls := "MarshBells", name := "house", desc := "(I)I" } : Jvm.MethodName) prog_1_method_3_code (3 : Nat) (Option.some Jvm.ClassFile.FieldType.int)) ∈ lw_tbl := tk_4 (List.mem_of_getElem? (i := 16) rfl)
theorem tw_734 : (Jvm.Cond.instanceMethod ({ cls := "MarshBells", name := "house", desc := "(I)I" } : Jvm.MethodName)) ∈ lw_tbl := tk_4 (List.mem_of_getElem? (i := 14) rfl)
theorem tw_735 : (Jvm.Cond.selects "MarshBells" ({ cls := "MarshBells", name := "house", desc := "(I)I" } : Jvm.MethodName) ({ cls := "MarshBells", name := "house", desc := "(I)I" } : Jvm.MethodName)) ∈ lw_tbl := tk_4 (List.mem_of_getElem? (i := 15) rfl)
theorem li_L_7 : kLV RL 7 RX11 yX11_house cX11_house 3 (some .int) 1 := ⟨tw_733, tw_734, tw_735, tw_736, tw_1, by decide +kernel⟩
theorem dL_house_0 : decode cL_house 0 = .ok (.aload_n 2, 1) := by decide +kernel
theorem dL_house_1 : decode cL_house 1 = .ok (.iconst 0, 1) := by decide +kernel
theorem dL_house_2 : decode cL_house 2 = .ok (.aload_n 0, 1) := by decide +kernel
theorem dL_house_3 : decode cL_house 3 = .ok (.iload_n 1, 1) := by decide +kernel
theorem dL_house_4 : decode cL_house 4 = .ok (.invokevirtual 7, 3) := by decide +kernel
theorem tw_732 : (Jvm.Cond.classLink "MarshBellsLaw" (13 : Nat) "java/lang/IllegalArgumentException") ∈ lw_tbl := tk_4 (List.mem_of_getElem? (i := 12) rfl)
theorem tw_739 : (Jvm.Cond.castable "java/lang/IllegalArgumentException" "java/lang/IllegalArgumentException") ∈ lw_tbl := tk_4 (List.mem_of_getElem? (i := 19) rfl)
theorem dL_house_12 : decode cL_house 12 = .ok (.astore_n 3, 1) := by decide +kernel
theorem dL_house_13 : decode cL_house 13 = .ok (.iconst 1, 1) := by decide +kernel
theorem dL_house_14 : decode cL_house 14 = .ok (.ireturn, 1) := by decide +kernel
theorem dL_house_7 : decode cL_house 7 = .ok (.i2l, 1) := by decide +kernel
theorem dL_house_8 : decode cL_house 8 = .ok (.lastore, 1) := by decide +kernel
theorem dL_house_9 : decode cL_house 9 = .ok (.goto 6, 3) := by decide +kernel
theorem dL_house_15 : decode cL_house 15 = .ok (.iconst 0, 1) := by decide +kernel
theorem dL_house_16 : decode cL_house 16 = .ok (.ireturn, 1) := by decide +kernel
theorem tw_993 : (Jvm.Cond.methodLink "MarshBellsLaw" (15 : Nat) ({ cls := "MarshBells", name := "count", desc := "(I)I" } : Jvm.MethodName)) ∈ lw_tbl := tk_5 (List.mem_of_getElem? (i := 33) rfl)
theorem tw_996 : (Jvm.Cond.code ({ cls := "MarshBells", name := "count", desc := "(I)I" } : Jvm.MethodName) prog_1_method_5_code (2 : Nat) (Option.some Jvm.ClassFile.FieldType.int)) ∈ lw_tbl := tk_5 (List.mem_of_getElem? (i := 36) rfl)
theorem tw_994 : (Jvm.Cond.instanceMethod ({ cls := "MarshBells", name := "count", desc := "(I)I" } : Jvm.MethodName)) ∈ lw_tbl := tk_5 (List.mem_of_getElem? (i := 34) rfl)
theorem tw_995 : (Jvm.Cond.selects "MarshBells" ({ cls := "MarshBells", name := "count", desc := "(I)I" } : Jvm.MethodName) ({ cls := "MarshBells", name := "count", desc := "(I)I" } : Jvm.MethodName)) ∈ lw_tbl := tk_5 (List.mem_of_getElem? (i := 35) rfl)
theorem li_L_15 : kLV RL 15 RX11 yX11_count cX11_count 2 (some .int) 1 := ⟨tw_993, tw_994, tw_995, tw_996, tw_1, by decide +kernel⟩
theorem dL_count_0 : decode cL_count 0 = .ok (.aload_n 2, 1) := by decide +kernel
theorem dL_count_1 : decode cL_count 1 = .ok (.iconst 0, 1) := by decide +kernel
theorem dL_count_2 : decode cL_count 2 = .ok (.aload_n 0, 1) := by decide +kernel
theorem dL_count_3 : decode cL_count 3 = .ok (.iload_n 1, 1) := by decide +kernel
theorem dL_count_4 : decode cL_count 4 = .ok (.invokevirtual 15, 3) := by decide +kernel
theorem tw_992 : (Jvm.Cond.classLink "MarshBellsLaw" (18 : Nat) "java/util/NoSuchElementException") ∈ lw_tbl := tk_5 (List.mem_of_getElem? (i := 32) rfl)
theorem tw_1002 : (Jvm.Cond.castable "java/util/NoSuchElementException" "java/util/NoSuchElementException") ∈ lw_tbl := tk_5 (List.mem_of_getElem? (i := 42) rfl)
theorem dL_count_12 : decode cL_count 12 = .ok (.astore_n 3, 1) := by decide +kernel
theorem dL_count_13 : decode cL_count 13 = .ok (.iconst 1, 1) := by decide +kernel
theorem dL_count_14 : decode cL_count 14 = .ok (.ireturn, 1) := by decide +kernel
theorem dL_count_7 : decode cL_count 7 = .ok (.i2l, 1) := by decide +kernel
theorem dL_count_8 : decode cL_count 8 = .ok (.lastore, 1) := by decide +kernel
theorem dL_count_9 : decode cL_count 9 = .ok (.goto 6, 3) := by decide +kernel
theorem dL_count_15 : decode cL_count 15 = .ok (.iconst 0, 1) := by decide +kernel
theorem dL_count_16 : decode cL_count 16 = .ok (.ireturn, 1) := by decide +kernel
theorem tw_1035 : (Jvm.Cond.methodLink "MarshBellsLaw" (20 : Nat) ({ cls := "MarshBells", name := "lesson", desc := "(II)I" } : Jvm.MethodName)) ∈ lw_tbl := tk_5 (List.mem_of_getElem? (i := 75) rfl)
theorem tw_1038 : (Jvm.Cond.code ({ cls := "MarshBells", name := "lesson", desc := "(II)I" } : Jvm.MethodName) prog_1_method_6_code (4 : Nat) (Option.some Jvm.ClassFile.FieldType.int)) ∈ lw_tbl := tk_5 (List.mem_of_getElem? (i := 78) rfl)
theorem tw_1036 : (Jvm.Cond.instanceMethod ({ cls := "MarshBells", name := "lesson", desc := "(II)I" } : Jvm.MethodName)) ∈ lw_tbl := tk_5 (List.mem_of_getElem? (i := 76) rfl)
theorem tw_1037 : (Jvm.Cond.selects "MarshBells" ({ cls := "MarshBells", name := "lesson", desc := "(II)I" } : Jvm.MethodName) ({ cls := "MarshBells", name := "lesson", desc := "(II)I" } : Jvm.MethodName)) ∈ lw_tbl := tk_5 (List.mem_of_getElem? (i := 77) rfl)
theorem li_L_20 : kLV RL 20 RX11 yX11_lesson cX11_lesson 4 (some .int) 2 := ⟨tw_1035, tw_1036, tw_1037, tw_1038, tw_1, by decide +kernel⟩
theorem dL_lesson_0 : decode cL_lesson 0 = .ok (.aload_n 3, 1) := by decide +kernel
theorem dL_lesson_1 : decode cL_lesson 1 = .ok (.iconst 0, 1) := by decide +kernel
theorem dL_lesson_2 : decode cL_lesson 2 = .ok (.aload_n 0, 1) := by decide +kernel
theorem dL_lesson_3 : decode cL_lesson 3 = .ok (.iload_n 1, 1) := by decide +kernel
theorem dL_lesson_4 : decode cL_lesson 4 = .ok (.iload_n 2, 1) := by decide +kernel
theorem dL_lesson_5 : decode cL_lesson 5 = .ok (.invokevirtual 20, 3) := by decide +kernel
theorem dL_lesson_13 : decode cL_lesson 13 = .ok (.astore 4, 2) := by decide +kernel
theorem dL_lesson_15 : decode cL_lesson 15 = .ok (.iconst 1, 1) := by decide +kernel
theorem dL_lesson_16 : decode cL_lesson 16 = .ok (.ireturn, 1) := by decide +kernel
theorem dL_lesson_8 : decode cL_lesson 8 = .ok (.i2l, 1) := by decide +kernel
theorem dL_lesson_9 : decode cL_lesson 9 = .ok (.lastore, 1) := by decide +kernel
theorem dL_lesson_10 : decode cL_lesson 10 = .ok (.goto 7, 3) := by decide +kernel
theorem dL_lesson_17 : decode cL_lesson 17 = .ok (.iconst 0, 1) := by decide +kernel
theorem dL_lesson_18 : decode cL_lesson 18 = .ok (.ireturn, 1) := by decide +kernel
theorem tw_1046 : (Jvm.Cond.methodLink "MarshBellsLaw" (24 : Nat) ({ cls := "MarshBells", name := "day", desc := "(II)I" } : Jvm.MethodName)) ∈ lw_tbl := tk_5 (List.mem_of_getElem? (i := 86) rfl)
theorem tw_1049 : (Jvm.Cond.code ({ cls := "MarshBells", name := "day", desc := "(II)I" } : Jvm.MethodName) prog_1_method_7_code (3 : Nat) (Option.some Jvm.ClassFile.FieldType.int)) ∈ lw_tbl := tk_5 (List.mem_of_getElem? (i := 89) rfl)
theorem tw_1047 : (Jvm.Cond.instanceMethod ({ cls := "MarshBells", name := "day", desc := "(II)I" } : Jvm.MethodName)) ∈ lw_tbl := tk_5 (List.mem_of_getElem? (i := 87) rfl)
theorem tw_1048 : (Jvm.Cond.selects "MarshBells" ({ cls := "MarshBells", name := "day", desc := "(II)I" } : Jvm.MethodName) ({ cls := "MarshBells", name := "day", desc := "(II)I" } : Jvm.MethodName)) ∈ lw_tbl := tk_5 (List.mem_of_getElem? (i := 88) rfl)
theorem li_L_24 : kLV RL 24 RX11 yX11_day cX11_day 3 (some .int) 2 := ⟨tw_1046, tw_1047, tw_1048, tw_1049, tw_1, by decide +kernel⟩
theorem dL_day_0 : decode cL_day 0 = .ok (.aload_n 3, 1) := by decide +kernel
theorem dL_day_1 : decode cL_day 1 = .ok (.iconst 0, 1) := by decide +kernel
theorem dL_day_2 : decode cL_day 2 = .ok (.aload_n 0, 1) := by decide +kernel
theorem dL_day_3 : decode cL_day 3 = .ok (.iload_n 1, 1) := by decide +kernel
theorem dL_day_4 : decode cL_day 4 = .ok (.iload_n 2, 1) := by decide +kernel
theorem dL_day_5 : decode cL_day 5 = .ok (.invokevirtual 24, 3) := by decide +kernel
theorem dL_day_13 : decode cL_day 13 = .ok (.astore 4, 2) := by decide +kernel
theorem dL_day_15 : decode cL_day 15 = .ok (.iconst 1, 1) := by decide +kernel
theorem dL_day_16 : decode cL_day 16 = .ok (.ireturn, 1) := by decide +kernel
theorem dL_day_8 : decode cL_day 8 = .ok (.i2l, 1) := by decide +kernel
theorem dL_day_9 : decode cL_day 9 = .ok (.lastore, 1) := by decide +kernel
theorem dL_day_10 : decode cL_day 10 = .ok (.goto 7, 3) := by decide +kernel
theorem dL_day_17 : decode cL_day 17 = .ok (.iconst 0, 1) := by decide +kernel
theorem dL_day_18 : decode cL_day 18 = .ok (.ireturn, 1) := by decide +kernel
theorem tw_1054 : (Jvm.Cond.methodLink "MarshBellsLaw" (27 : Nat) ({ cls := "MarshBells", name := "chain", desc := "(II)I" } : Jvm.MethodName)) ∈ lw_tbl := tk_5 (List.mem_of_getElem? (i := 94) rfl)
theorem tw_1057 : (Jvm.Cond.code ({ cls := "MarshBells", name := "chain", desc := "(II)I" } : Jvm.MethodName) prog_1_method_8_code (5 : Nat) (Option.some Jvm.ClassFile.FieldType.int)) ∈ lw_tbl := tk_5 (List.mem_of_getElem? (i := 97) rfl)
theorem tw_1055 : (Jvm.Cond.instanceMethod ({ cls := "MarshBells", name := "chain", desc := "(II)I" } : Jvm.MethodName)) ∈ lw_tbl := tk_5 (List.mem_of_getElem? (i := 95) rfl)
theorem tw_1056 : (Jvm.Cond.selects "MarshBells" ({ cls := "MarshBells", name := "chain", desc := "(II)I" } : Jvm.MethodName) ({ cls := "MarshBells", name := "chain", desc := "(II)I" } : Jvm.MethodName)) ∈ lw_tbl := tk_5 (List.mem_of_getElem? (i := 96) rfl)
theorem li_L_27 : kLV RL 27 RX11 yX11_chain cX11_chain 5 (some .int) 2 := ⟨tw_1054, tw_1055, tw_1056, tw_1057, tw_1, by decide +kernel⟩
theorem dL_chain_0 : decode cL_chain 0 = .ok (.aload_n 3, 1) := by decide +kernel
theorem dL_chain_1 : decode cL_chain 1 = .ok (.iconst 0, 1) := by decide +kernel
theorem dL_chain_2 : decode cL_chain 2 = .ok (.aload_n 0, 1) := by decide +kernel
theorem dL_chain_3 : decode cL_chain 3 = .ok (.iload_n 1, 1) := by decide +kernel
theorem dL_chain_4 : decode cL_chain 4 = .ok (.iload_n 2, 1) := by decide +kernel
theorem dL_chain_5 : decode cL_chain 5 = .ok (.invokevirtual 27, 3) := by decide +kernel
theorem dL_chain_13 : decode cL_chain 13 = .ok (.astore 4, 2) := by decide +kernel
theorem dL_chain_15 : decode cL_chain 15 = .ok (.iconst 1, 1) := by decide +kernel
theorem dL_chain_16 : decode cL_chain 16 = .ok (.ireturn, 1) := by decide +kernel
theorem dL_chain_8 : decode cL_chain 8 = .ok (.i2l, 1) := by decide +kernel
theorem dL_chain_9 : decode cL_chain 9 = .ok (.lastore, 1) := by decide +kernel
theorem dL_chain_10 : decode cL_chain 10 = .ok (.goto 7, 3) := by decide +kernel
theorem dL_chain_17 : decode cL_chain 17 = .ok (.iconst 0, 1) := by decide +kernel
theorem dL_chain_18 : decode cL_chain 18 = .ok (.ireturn, 1) := by decide +kernel
theorem tw_1061 : (Jvm.Cond.methodLink "MarshBellsLaw" (30 : Nat) ({ cls := "MarshBells", name := "become", desc := "(III)I" } : Jvm.MethodName)) ∈ lw_tbl := tk_5 (List.mem_of_getElem? (i := 101) rfl)
theorem tw_1064 : (Jvm.Cond.code ({ cls := "MarshBells", name := "become", desc := "(III)I" } : Jvm.MethodName) prog_1_method_9_code (5 : Nat) (Option.some Jvm.ClassFile.FieldType.int)) ∈ lw_tbl := tk_5 (List.mem_of_getElem? (i := 104) rfl)
theorem tw_1062 : (Jvm.Cond.instanceMethod ({ cls := "MarshBells", name := "become", desc := "(III)I" } : Jvm.MethodName)) ∈ lw_tbl := tk_5 (List.mem_of_getElem? (i := 102) rfl)
theorem tw_1063 : (Jvm.Cond.selects "MarshBells" ({ cls := "MarshBells", name := "become", desc := "(III)I" } : Jvm.MethodName) ({ cls := "MarshBells", name := "become", desc := "(III)I" } : Jvm.MethodName)) ∈ lw_tbl := tk_5 (List.mem_of_getElem? (i := 103) rfl)
theorem li_L_30 : kLV RL 30 RX11 yX11_become cX11_become 5 (some .int) 3 := ⟨tw_1061, tw_1062, tw_1063, tw_1064, tw_1, by decide +kernel⟩
theorem dL_become_0 : decode cL_become 0 = .ok (.aload 4, 2) := by decide +kernel
theorem dL_become_2 : decode cL_become 2 = .ok (.iconst 0, 1) := by decide +kernel
theorem dL_become_3 : decode cL_become 3 = .ok (.aload_n 0, 1) := by decide +kernel
theorem dL_become_4 : decode cL_become 4 = .ok (.iload_n 1, 1) := by decide +kernel
theorem dL_become_5 : decode cL_become 5 = .ok (.iload_n 2, 1) := by decide +kernel
theorem dL_become_6 : decode cL_become 6 = .ok (.iload_n 3, 1) := by decide +kernel
theorem dL_become_7 : decode cL_become 7 = .ok (.invokevirtual 30, 3) := by decide +kernel
theorem dL_become_15 : decode cL_become 15 = .ok (.astore 5, 2) := by decide +kernel
theorem dL_become_17 : decode cL_become 17 = .ok (.iconst 1, 1) := by decide +kernel
theorem dL_become_18 : decode cL_become 18 = .ok (.ireturn, 1) := by decide +kernel
theorem dL_become_10 : decode cL_become 10 = .ok (.i2l, 1) := by decide +kernel
theorem dL_become_11 : decode cL_become 11 = .ok (.lastore, 1) := by decide +kernel
theorem dL_become_12 : decode cL_become 12 = .ok (.goto 7, 3) := by decide +kernel
theorem dL_become_19 : decode cL_become 19 = .ok (.iconst 0, 1) := by decide +kernel
theorem dL_become_20 : decode cL_become 20 = .ok (.ireturn, 1) := by decide +kernel
theorem tw_1076 : (Jvm.Cond.methodLink "MarshBellsLaw" (34 : Nat) ({ cls := "MarshBells", name := "far", desc := "(III)I" } : Jvm.MethodName)) ∈ lw_tbl := tk_5 (List.mem_of_getElem? (i := 116) rfl)
theorem tw_1079 : (Jvm.Cond.code ({ cls := "MarshBells", name := "far", desc := "(III)I" } : Jvm.MethodName) prog_1_method_12_code (4 : Nat) (Option.some Jvm.ClassFile.FieldType.int)) ∈ lw_tbl := tk_5 (List.mem_of_getElem? (i := 119) rfl)
theorem tw_1077 : (Jvm.Cond.instanceMethod ({ cls := "MarshBells", name := "far", desc := "(III)I" } : Jvm.MethodName)) ∈ lw_tbl := tk_5 (List.mem_of_getElem? (i := 117) rfl)
theorem tw_1078 : (Jvm.Cond.selects "MarshBells" ({ cls := "MarshBells", name := "far", desc := "(III)I" } : Jvm.MethodName) ({ cls := "MarshBells", name := "far", desc := "(III)I" } : Jvm.MethodName)) ∈ lw_tbl := tk_5 (List.mem_of_getElem? (i := 118) rfl)
theorem li_L_34 : kLV RL 34 RX11 yX11_far cX11_far 4 (some .int) 3 := ⟨tw_1076, tw_1077, tw_1078, tw_1079, tw_1, by decide +kernel⟩
theorem dL_far_0 : decode cL_far 0 = .ok (.aload 4, 2) := by decide +kernel
theorem dL_far_2 : decode cL_far 2 = .ok (.iconst 0, 1) := by decide +kernel
theorem dL_far_3 : decode cL_far 3 = .ok (.aload_n 0, 1) := by decide +kernel
theorem dL_far_4 : decode cL_far 4 = .ok (.iload_n 1, 1) := by decide +kernel
theorem dL_far_5 : decode cL_far 5 = .ok (.iload_n 2, 1) := by decide +kernel
theorem dL_far_6 : decode cL_far 6 = .ok (.iload_n 3, 1) := by decide +kernel
theorem dL_far_7 : decode cL_far 7 = .ok (.invokevirtual 34, 3) := by decide +kernel
theorem dL_far_15 : decode cL_far 15 = .ok (.astore 5, 2) := by decide +kernel
theorem dL_far_17 : decode cL_far 17 = .ok (.iconst 1, 1) := by decide +kernel
theorem dL_far_18 : decode cL_far 18 = .ok (.ireturn, 1) := by decide +kernel
theorem dL_far_19 : decode cL_far 19 = .ok (.astore 5, 2) := by decide +kernel
theorem dL_far_21 : decode cL_far 21 = .ok (.iconst 2, 1) := by decide +kernel
theorem dL_far_22 : decode cL_far 22 = .ok (.ireturn, 1) := by decide +kernel
theorem dL_far_10 : decode cL_far 10 = .ok (.i2l, 1) := by decide +kernel
theorem dL_far_11 : decode cL_far 11 = .ok (.lastore, 1) := by decide +kernel
theorem dL_far_12 : decode cL_far 12 = .ok (.goto 11, 3) := by decide +kernel
theorem dL_far_23 : decode cL_far 23 = .ok (.iconst 0, 1) := by decide +kernel
theorem dL_far_24 : decode cL_far 24 = .ok (.ireturn, 1) := by decide +kernel
theorem tw_1104 : (Jvm.Cond.methodLink "MarshBellsLaw" (37 : Nat) ({ cls := "MarshBells", name := "reaches", desc := "(II)I" } : Jvm.MethodName)) ∈ lw_tbl := tk_5 (List.mem_of_getElem? (i := 144) rfl)
theorem tw_1107 : (Jvm.Cond.code ({ cls := "MarshBells", name := "reaches", desc := "(II)I" } : Jvm.MethodName) prog_1_method_13_code (3 : Nat) (Option.some Jvm.ClassFile.FieldType.int)) ∈ lw_tbl := tk_5 (List.mem_of_getElem? (i := 147) rfl)
theorem tw_1105 : (Jvm.Cond.instanceMethod ({ cls := "MarshBells", name := "reaches", desc := "(II)I" } : Jvm.MethodName)) ∈ lw_tbl := tk_5 (List.mem_of_getElem? (i := 145) rfl)
theorem tw_1106 : (Jvm.Cond.selects "MarshBells" ({ cls := "MarshBells", name := "reaches", desc := "(II)I" } : Jvm.MethodName) ({ cls := "MarshBells", name := "reaches", desc := "(II)I" } : Jvm.MethodName)) ∈ lw_tbl := tk_5 (List.mem_of_getElem? (i := 146) rfl)
theorem li_L_37 : kLV RL 37 RX11 yX11_reaches cX11_reaches 3 (some .int) 2 := ⟨tw_1104, tw_1105, tw_1106, tw_1107, tw_1, by decide +kernel⟩
theorem dL_reaches_0 : decode cL_reaches 0 = .ok (.aload_n 3, 1) := by decide +kernel
theorem dL_reaches_1 : decode cL_reaches 1 = .ok (.iconst 0, 1) := by decide +kernel
theorem dL_reaches_2 : decode cL_reaches 2 = .ok (.aload_n 0, 1) := by decide +kernel
theorem dL_reaches_3 : decode cL_reaches 3 = .ok (.iload_n 1, 1) := by decide +kernel
theorem dL_reaches_4 : decode cL_reaches 4 = .ok (.iload_n 2, 1) := by decide +kernel
theorem dL_reaches_5 : decode cL_reaches 5 = .ok (.invokevirtual 37, 3) := by decide +kernel
theorem dL_reaches_13 : decode cL_reaches 13 = .ok (.astore 4, 2) := by decide +kernel
theorem dL_reaches_15 : decode cL_reaches 15 = .ok (.iconst 1, 1) := by decide +kernel
theorem dL_reaches_16 : decode cL_reaches 16 = .ok (.ireturn, 1) := by decide +kernel
theorem dL_reaches_17 : decode cL_reaches 17 = .ok (.astore 4, 2) := by decide +kernel
theorem dL_reaches_19 : decode cL_reaches 19 = .ok (.iconst 2, 1) := by decide +kernel
theorem dL_reaches_20 : decode cL_reaches 20 = .ok (.ireturn, 1) := by decide +kernel
theorem dL_reaches_8 : decode cL_reaches 8 = .ok (.i2l, 1) := by decide +kernel
theorem dL_reaches_9 : decode cL_reaches 9 = .ok (.lastore, 1) := by decide +kernel
theorem dL_reaches_10 : decode cL_reaches 10 = .ok (.goto 11, 3) := by decide +kernel
theorem dL_reaches_21 : decode cL_reaches 21 = .ok (.iconst 0, 1) := by decide +kernel
theorem dL_reaches_22 : decode cL_reaches 22 = .ok (.ireturn, 1) := by decide +kernel
theorem tw_1117 : (Jvm.Cond.methodLink "MarshBellsLaw" (40 : Nat) ({ cls := "MarshBells", name := "slack", desc := "(I)I" } : Jvm.MethodName)) ∈ lw_tbl := tk_5 (List.mem_of_getElem? (i := 157) rfl)
theorem tw_1120 : (Jvm.Cond.code ({ cls := "MarshBells", name := "slack", desc := "(I)I" } : Jvm.MethodName) prog_1_method_14_code (2 : Nat) (Option.some Jvm.ClassFile.FieldType.int)) ∈ lw_tbl := tk_5 (List.mem_of_getElem? (i := 160) rfl)
theorem tw_1118 : (Jvm.Cond.instanceMethod ({ cls := "MarshBells", name := "slack", desc := "(I)I" } : Jvm.MethodName)) ∈ lw_tbl := tk_5 (List.mem_of_getElem? (i := 158) rfl)
theorem tw_1119 : (Jvm.Cond.selects "MarshBells" ({ cls := "MarshBells", name := "slack", desc := "(I)I" } : Jvm.MethodName) ({ cls := "MarshBells", name := "slack", desc := "(I)I" } : Jvm.MethodName)) ∈ lw_tbl := tk_5 (List.mem_of_getElem? (i := 159) rfl)
theorem li_L_40 : kLV RL 40 RX11 yX11_slack cX11_slack 2 (some .int) 1 := ⟨tw_1117, tw_1118, tw_1119, tw_1120, tw_1, by decide +kernel⟩
theorem dL_slack_0 : decode cL_slack 0 = .ok (.aload_n 2, 1) := by decide +kernel
theorem dL_slack_1 : decode cL_slack 1 = .ok (.iconst 0, 1) := by decide +kernel
theorem dL_slack_2 : decode cL_slack 2 = .ok (.aload_n 0, 1) := by decide +kernel
theorem dL_slack_3 : decode cL_slack 3 = .ok (.iload_n 1, 1) := by decide +kernel
theorem dL_slack_4 : decode cL_slack 4 = .ok (.invokevirtual 40, 3) := by decide +kernel
theorem dL_slack_12 : decode cL_slack 12 = .ok (.astore_n 3, 1) := by decide +kernel
theorem dL_slack_13 : decode cL_slack 13 = .ok (.iconst 1, 1) := by decide +kernel
theorem dL_slack_14 : decode cL_slack 14 = .ok (.ireturn, 1) := by decide +kernel
theorem dL_slack_7 : decode cL_slack 7 = .ok (.i2l, 1) := by decide +kernel
theorem dL_slack_8 : decode cL_slack 8 = .ok (.lastore, 1) := by decide +kernel
theorem dL_slack_9 : decode cL_slack 9 = .ok (.goto 6, 3) := by decide +kernel
theorem dL_slack_15 : decode cL_slack 15 = .ok (.iconst 0, 1) := by decide +kernel
theorem dL_slack_16 : decode cL_slack 16 = .ok (.ireturn, 1) := by decide +kernel
theorem tw_1129 : (Jvm.Cond.methodLink "MarshBellsLaw" (43 : Nat) ({ cls := "MarshBells", name := "gaps", desc := "(III)I" } : Jvm.MethodName)) ∈ lw_tbl := tk_5 (List.mem_of_getElem? (i := 169) rfl)
theorem tw_1132 : (Jvm.Cond.code ({ cls := "MarshBells", name := "gaps", desc := "(III)I" } : Jvm.MethodName) prog_1_method_15_code (5 : Nat) (Option.some Jvm.ClassFile.FieldType.int)) ∈ lw_tbl := tk_5 (List.mem_of_getElem? (i := 172) rfl)
theorem tw_1130 : (Jvm.Cond.instanceMethod ({ cls := "MarshBells", name := "gaps", desc := "(III)I" } : Jvm.MethodName)) ∈ lw_tbl := tk_5 (List.mem_of_getElem? (i := 170) rfl)
theorem tw_1131 : (Jvm.Cond.selects "MarshBells" ({ cls := "MarshBells", name := "gaps", desc := "(III)I" } : Jvm.MethodName) ({ cls := "MarshBells", name := "gaps", desc := "(III)I" } : Jvm.MethodName)) ∈ lw_tbl := tk_5 (List.mem_of_getElem? (i := 171) rfl)
theorem li_L_43 : kLV RL 43 RX11 yX11_gaps cX11_gaps 5 (some .int) 3 := ⟨tw_1129, tw_1130, tw_1131, tw_1132, tw_1, by decide +kernel⟩
theorem dL_gaps_0 : decode cL_gaps 0 = .ok (.aload 4, 2) := by decide +kernel
theorem dL_gaps_2 : decode cL_gaps 2 = .ok (.iconst 0, 1) := by decide +kernel
theorem dL_gaps_3 : decode cL_gaps 3 = .ok (.aload_n 0, 1) := by decide +kernel
theorem dL_gaps_4 : decode cL_gaps 4 = .ok (.iload_n 1, 1) := by decide +kernel
theorem dL_gaps_5 : decode cL_gaps 5 = .ok (.iload_n 2, 1) := by decide +kernel
theorem dL_gaps_6 : decode cL_gaps 6 = .ok (.iload_n 3, 1) := by decide +kernel
theorem dL_gaps_7 : decode cL_gaps 7 = .ok (.invokevirtual 43, 3) := by decide +kernel
theorem dL_gaps_15 : decode cL_gaps 15 = .ok (.astore 5, 2) := by decide +kernel
theorem dL_gaps_17 : decode cL_gaps 17 = .ok (.iconst 1, 1) := by decide +kernel
theorem dL_gaps_18 : decode cL_gaps 18 = .ok (.ireturn, 1) := by decide +kernel
theorem dL_gaps_19 : decode cL_gaps 19 = .ok (.astore 5, 2) := by decide +kernel
theorem dL_gaps_21 : decode cL_gaps 21 = .ok (.iconst 2, 1) := by decide +kernel
theorem dL_gaps_22 : decode cL_gaps 22 = .ok (.ireturn, 1) := by decide +kernel
theorem dL_gaps_10 : decode cL_gaps 10 = .ok (.i2l, 1) := by decide +kernel
theorem dL_gaps_11 : decode cL_gaps 11 = .ok (.lastore, 1) := by decide +kernel
theorem dL_gaps_12 : decode cL_gaps 12 = .ok (.goto 11, 3) := by decide +kernel
theorem dL_gaps_23 : decode cL_gaps 23 = .ok (.iconst 0, 1) := by decide +kernel
theorem dL_gaps_24 : decode cL_gaps 24 = .ok (.ireturn, 1) := by decide +kernel
theorem tw_1169 : (Jvm.Cond.methodLink "MarshBellsLaw" (46 : Nat) ({ cls := "MarshBells", name := "gap", desc := "(I)I" } : Jvm.MethodName)) ∈ lw_tbl := tk_5 (List.mem_of_getElem? (i := 209) rfl)
theorem tw_1172 : (Jvm.Cond.code ({ cls := "MarshBells", name := "gap", desc := "(I)I" } : Jvm.MethodName) prog_1_method_16_code (2 : Nat) (Option.some Jvm.ClassFile.FieldType.int)) ∈ lw_tbl := tk_5 (List.mem_of_getElem? (i := 212) rfl)
theorem tw_1170 : (Jvm.Cond.instanceMethod ({ cls := "MarshBells", name := "gap", desc := "(I)I" } : Jvm.MethodName)) ∈ lw_tbl := tk_5 (List.mem_of_getElem? (i := 210) rfl)
theorem tw_1171 : (Jvm.Cond.selects "MarshBells" ({ cls := "MarshBells", name := "gap", desc := "(I)I" } : Jvm.MethodName) ({ cls := "MarshBells", name := "gap", desc := "(I)I" } : Jvm.MethodName)) ∈ lw_tbl := tk_5 (List.mem_of_getElem? (i := 211) rfl)
theorem li_L_46 : kLV RL 46 RX11 yX11_gap cX11_gap 2 (some .int) 1 := ⟨tw_1169, tw_1170, tw_1171, tw_1172, tw_1, by decide +kernel⟩
theorem dL_gap_0 : decode cL_gap 0 = .ok (.aload_n 2, 1) := by decide +kernel
theorem dL_gap_1 : decode cL_gap 1 = .ok (.iconst 0, 1) := by decide +kernel
theorem dL_gap_2 : decode cL_gap 2 = .ok (.aload_n 0, 1) := by decide +kernel
theorem dL_gap_3 : decode cL_gap 3 = .ok (.iload_n 1, 1) := by decide +kernel
theorem dL_gap_4 : decode cL_gap 4 = .ok (.invokevirtual 46, 3) := by decide +kernel
theorem dL_gap_12 : decode cL_gap 12 = .ok (.astore_n 3, 1) := by decide +kernel
theorem dL_gap_13 : decode cL_gap 13 = .ok (.iconst 1, 1) := by decide +kernel
theorem dL_gap_14 : decode cL_gap 14 = .ok (.ireturn, 1) := by decide +kernel
theorem dL_gap_7 : decode cL_gap 7 = .ok (.i2l, 1) := by decide +kernel
theorem dL_gap_8 : decode cL_gap 8 = .ok (.lastore, 1) := by decide +kernel
theorem dL_gap_9 : decode cL_gap 9 = .ok (.goto 6, 3) := by decide +kernel
theorem dL_gap_15 : decode cL_gap 15 = .ok (.iconst 0, 1) := by decide +kernel
theorem dL_gap_16 : decode cL_gap 16 = .ok (.ireturn, 1) := by decide +kernel
theorem tw_1176 : (Jvm.Cond.methodLink "MarshBellsLaw" (49 : Nat) ({ cls := "MarshBells", name := "chance", desc := "(III)J" } : Jvm.MethodName)) ∈ lw_tbl := tk_5 (List.mem_of_getElem? (i := 216) rfl)
theorem tw_1179 : (Jvm.Cond.code ({ cls := "MarshBells", name := "chance", desc := "(III)J" } : Jvm.MethodName) prog_1_method_17_code (4 : Nat) (Option.some Jvm.ClassFile.FieldType.long)) ∈ lw_tbl := tk_5 (List.mem_of_getElem? (i := 219) rfl)
theorem tw_1177 : (Jvm.Cond.instanceMethod ({ cls := "MarshBells", name := "chance", desc := "(III)J" } : Jvm.MethodName)) ∈ lw_tbl := tk_5 (List.mem_of_getElem? (i := 217) rfl)
theorem tw_1178 : (Jvm.Cond.selects "MarshBells" ({ cls := "MarshBells", name := "chance", desc := "(III)J" } : Jvm.MethodName) ({ cls := "MarshBells", name := "chance", desc := "(III)J" } : Jvm.MethodName)) ∈ lw_tbl := tk_5 (List.mem_of_getElem? (i := 218) rfl)
theorem li_L_49 : kLV RL 49 RX11 yX11_chance cX11_chance 4 (some .long) 3 := ⟨tw_1176, tw_1177, tw_1178, tw_1179, tw_1, by decide +kernel⟩
theorem dL_chance_0 : decode cL_chance 0 = .ok (.aload 4, 2) := by decide +kernel
theorem dL_chance_2 : decode cL_chance 2 = .ok (.iconst 0, 1) := by decide +kernel
theorem dL_chance_3 : decode cL_chance 3 = .ok (.aload_n 0, 1) := by decide +kernel
theorem dL_chance_4 : decode cL_chance 4 = .ok (.iload_n 1, 1) := by decide +kernel
theorem dL_chance_5 : decode cL_chance 5 = .ok (.iload_n 2, 1) := by decide +kernel
theorem dL_chance_6 : decode cL_chance 6 = .ok (.iload_n 3, 1) := by decide +kernel
theorem dL_chance_7 : decode cL_chance 7 = .ok (.invokevirtual 49, 3) := by decide +kernel
theorem dL_chance_14 : decode cL_chance 14 = .ok (.astore 5, 2) := by decide +kernel
theorem dL_chance_16 : decode cL_chance 16 = .ok (.iconst 1, 1) := by decide +kernel
theorem dL_chance_17 : decode cL_chance 17 = .ok (.ireturn, 1) := by decide +kernel
theorem dL_chance_18 : decode cL_chance 18 = .ok (.astore 5, 2) := by decide +kernel
theorem dL_chance_20 : decode cL_chance 20 = .ok (.iconst 2, 1) := by decide +kernel
theorem dL_chance_21 : decode cL_chance 21 = .ok (.ireturn, 1) := by decide +kernel
theorem dL_chance_10 : decode cL_chance 10 = .ok (.lastore, 1) := by decide +kernel
theorem dL_chance_11 : decode cL_chance 11 = .ok (.goto 11, 3) := by decide +kernel
theorem dL_chance_22 : decode cL_chance 22 = .ok (.iconst 0, 1) := by decide +kernel
theorem dL_chance_23 : decode cL_chance 23 = .ok (.ireturn, 1) := by decide +kernel
theorem tw_1206 : (Jvm.Cond.methodLink "MarshBellsLaw" (53 : Nat) ({ cls := "MarshBells", name := "mean", desc := "(II)J" } : Jvm.MethodName)) ∈ lw_tbl := tk_6 (List.mem_of_getElem? (i := 6) rfl)
theorem tw_1209 : (Jvm.Cond.code ({ cls := "MarshBells", name := "mean", desc := "(II)J" } : Jvm.MethodName) prog_1_method_18_code (3 : Nat) (Option.some Jvm.ClassFile.FieldType.long)) ∈ lw_tbl := tk_6 (List.mem_of_getElem? (i := 9) rfl)
theorem tw_1207 : (Jvm.Cond.instanceMethod ({ cls := "MarshBells", name := "mean", desc := "(II)J" } : Jvm.MethodName)) ∈ lw_tbl := tk_6 (List.mem_of_getElem? (i := 7) rfl)
theorem tw_1208 : (Jvm.Cond.selects "MarshBells" ({ cls := "MarshBells", name := "mean", desc := "(II)J" } : Jvm.MethodName) ({ cls := "MarshBells", name := "mean", desc := "(II)J" } : Jvm.MethodName)) ∈ lw_tbl := tk_6 (List.mem_of_getElem? (i := 8) rfl)
theorem li_L_53 : kLV RL 53 RX11 yX11_mean cX11_mean 3 (some .long) 2 := ⟨tw_1206, tw_1207, tw_1208, tw_1209, tw_1, by decide +kernel⟩
theorem dL_mean_0 : decode cL_mean 0 = .ok (.aload_n 3, 1) := by decide +kernel
theorem dL_mean_1 : decode cL_mean 1 = .ok (.iconst 0, 1) := by decide +kernel
theorem dL_mean_2 : decode cL_mean 2 = .ok (.aload_n 0, 1) := by decide +kernel
theorem dL_mean_3 : decode cL_mean 3 = .ok (.iload_n 1, 1) := by decide +kernel
theorem dL_mean_4 : decode cL_mean 4 = .ok (.iload_n 2, 1) := by decide +kernel
theorem dL_mean_5 : decode cL_mean 5 = .ok (.invokevirtual 53, 3) := by decide +kernel
theorem dL_mean_12 : decode cL_mean 12 = .ok (.astore 4, 2) := by decide +kernel
theorem dL_mean_14 : decode cL_mean 14 = .ok (.iconst 1, 1) := by decide +kernel
theorem dL_mean_15 : decode cL_mean 15 = .ok (.ireturn, 1) := by decide +kernel
theorem dL_mean_8 : decode cL_mean 8 = .ok (.lastore, 1) := by decide +kernel
theorem dL_mean_9 : decode cL_mean 9 = .ok (.goto 7, 3) := by decide +kernel
theorem dL_mean_16 : decode cL_mean 16 = .ok (.iconst 0, 1) := by decide +kernel
theorem dL_mean_17 : decode cL_mean 17 = .ok (.ireturn, 1) := by decide +kernel
theorem tw_1217 : (Jvm.Cond.methodLink "MarshBellsLaw" (57 : Nat) ({ cls := "MarshBells", name := "swap", desc := "(I)I" } : Jvm.MethodName)) ∈ lw_tbl := tk_6 (List.mem_of_getElem? (i := 17) rfl)
theorem tw_1220 : (Jvm.Cond.code ({ cls := "MarshBells", name := "swap", desc := "(I)I" } : Jvm.MethodName) prog_1_method_19_code (2 : Nat) (Option.some Jvm.ClassFile.FieldType.int)) ∈ lw_tbl := tk_6 (List.mem_of_getElem? (i := 20) rfl)
theorem tw_1218 : (Jvm.Cond.instanceMethod ({ cls := "MarshBells", name := "swap", desc := "(I)I" } : Jvm.MethodName)) ∈ lw_tbl := tk_6 (List.mem_of_getElem? (i := 18) rfl)
theorem tw_1219 : (Jvm.Cond.selects "MarshBells" ({ cls := "MarshBells", name := "swap", desc := "(I)I" } : Jvm.MethodName) ({ cls := "MarshBells", name := "swap", desc := "(I)I" } : Jvm.MethodName)) ∈ lw_tbl := tk_6 (List.mem_of_getElem? (i := 19) rfl)
theorem li_L_57 : kLV RL 57 RX11 yX11_swap cX11_swap 2 (some .int) 1 := ⟨tw_1217, tw_1218, tw_1219, tw_1220, tw_1, by decide +kernel⟩
theorem dL_swap_0 : decode cL_swap 0 = .ok (.aload_n 2, 1) := by decide +kernel
theorem dL_swap_1 : decode cL_swap 1 = .ok (.iconst 0, 1) := by decide +kernel
theorem dL_swap_2 : decode cL_swap 2 = .ok (.aload_n 0, 1) := by decide +kernel
theorem dL_swap_3 : decode cL_swap 3 = .ok (.iload_n 1, 1) := by decide +kernel
theorem dL_swap_4 : decode cL_swap 4 = .ok (.invokevirtual 57, 3) := by decide +kernel
theorem dL_swap_12 : decode cL_swap 12 = .ok (.astore_n 3, 1) := by decide +kernel
theorem dL_swap_13 : decode cL_swap 13 = .ok (.iconst 1, 1) := by decide +kernel
theorem dL_swap_14 : decode cL_swap 14 = .ok (.ireturn, 1) := by decide +kernel
theorem dL_swap_7 : decode cL_swap 7 = .ok (.i2l, 1) := by decide +kernel
theorem dL_swap_8 : decode cL_swap 8 = .ok (.lastore, 1) := by decide +kernel
theorem dL_swap_9 : decode cL_swap 9 = .ok (.goto 6, 3) := by decide +kernel
theorem dL_swap_15 : decode cL_swap 15 = .ok (.iconst 0, 1) := by decide +kernel
theorem dL_swap_16 : decode cL_swap 16 = .ok (.ireturn, 1) := by decide +kernel
theorem tw_1232 : (Jvm.Cond.methodLink "MarshBellsLaw" (60 : Nat) ({ cls := "MarshBells", name := "room", desc := "(II)I" } : Jvm.MethodName)) ∈ lw_tbl := tk_6 (List.mem_of_getElem? (i := 32) rfl)
theorem tw_1235 : (Jvm.Cond.code ({ cls := "MarshBells", name := "room", desc := "(II)I" } : Jvm.MethodName) prog_1_method_20_code (3 : Nat) (Option.some Jvm.ClassFile.FieldType.int)) ∈ lw_tbl := tk_6 (List.mem_of_getElem? (i := 35) rfl)
theorem tw_1233 : (Jvm.Cond.instanceMethod ({ cls := "MarshBells", name := "room", desc := "(II)I" } : Jvm.MethodName)) ∈ lw_tbl := tk_6 (List.mem_of_getElem? (i := 33) rfl)
theorem tw_1234 : (Jvm.Cond.selects "MarshBells" ({ cls := "MarshBells", name := "room", desc := "(II)I" } : Jvm.MethodName) ({ cls := "MarshBells", name := "room", desc := "(II)I" } : Jvm.MethodName)) ∈ lw_tbl := tk_6 (List.mem_of_getElem? (i := 34) rfl)
theorem li_L_60 : kLV RL 60 RX11 yX11_room cX11_room 3 (some .int) 2 := ⟨tw_1232, tw_1233, tw_1234, tw_1235, tw_1, by decide +kernel⟩
theorem dL_room_0 : decode cL_room 0 = .ok (.aload_n 3, 1) := by decide +kernel
theorem dL_room_1 : decode cL_room 1 = .ok (.iconst 0, 1) := by decide +kernel
theorem dL_room_2 : decode cL_room 2 = .ok (.aload_n 0, 1) := by decide +kernel
theorem dL_room_3 : decode cL_room 3 = .ok (.iload_n 1, 1) := by decide +kernel
theorem dL_room_4 : decode cL_room 4 = .ok (.iload_n 2, 1) := by decide +kernel
theorem dL_room_5 : decode cL_room 5 = .ok (.invokevirtual 60, 3) := by decide +kernel
theorem dL_room_13 : decode cL_room 13 = .ok (.astore 4, 2) := by decide +kernel
theorem dL_room_15 : decode cL_room 15 = .ok (.iconst 1, 1) := by decide +kernel
theorem dL_room_16 : decode cL_room 16 = .ok (.ireturn, 1) := by decide +kernel
theorem dL_room_8 : decode cL_room 8 = .ok (.i2l, 1) := by decide +kernel
theorem dL_room_9 : decode cL_room 9 = .ok (.lastore, 1) := by decide +kernel
theorem dL_room_10 : decode cL_room 10 = .ok (.goto 7, 3) := by decide +kernel
theorem dL_room_17 : decode cL_room 17 = .ok (.iconst 0, 1) := by decide +kernel
theorem dL_room_18 : decode cL_room 18 = .ok (.ireturn, 1) := by decide +kernel
theorem tw_1246 : (Jvm.Cond.methodLink "MarshBellsLaw" (63 : Nat) ({ cls := "MarshBells", name := "limit", desc := "(II)I" } : Jvm.MethodName)) ∈ lw_tbl := tk_6 (List.mem_of_getElem? (i := 46) rfl)
theorem tw_1249 : (Jvm.Cond.code ({ cls := "MarshBells", name := "limit", desc := "(II)I" } : Jvm.MethodName) prog_1_method_21_code (3 : Nat) (Option.some Jvm.ClassFile.FieldType.int)) ∈ lw_tbl := tk_6 (List.mem_of_getElem? (i := 49) rfl)
theorem tw_1247 : (Jvm.Cond.instanceMethod ({ cls := "MarshBells", name := "limit", desc := "(II)I" } : Jvm.MethodName)) ∈ lw_tbl := tk_6 (List.mem_of_getElem? (i := 47) rfl)
theorem tw_1248 : (Jvm.Cond.selects "MarshBells" ({ cls := "MarshBells", name := "limit", desc := "(II)I" } : Jvm.MethodName) ({ cls := "MarshBells", name := "limit", desc := "(II)I" } : Jvm.MethodName)) ∈ lw_tbl := tk_6 (List.mem_of_getElem? (i := 48) rfl)
theorem li_L_63 : kLV RL 63 RX11 yX11_limit cX11_limit 3 (some .int) 2 := ⟨tw_1246, tw_1247, tw_1248, tw_1249, tw_1, by decide +kernel⟩
theorem dL_limit_0 : decode cL_limit 0 = .ok (.aload_n 3, 1) := by decide +kernel
theorem dL_limit_1 : decode cL_limit 1 = .ok (.iconst 0, 1) := by decide +kernel
theorem dL_limit_2 : decode cL_limit 2 = .ok (.aload_n 0, 1) := by decide +kernel
theorem dL_limit_3 : decode cL_limit 3 = .ok (.iload_n 1, 1) := by decide +kernel
theorem dL_limit_4 : decode cL_limit 4 = .ok (.iload_n 2, 1) := by decide +kernel
theorem dL_limit_5 : decode cL_limit 5 = .ok (.invokevirtual 63, 3) := by decide +kernel
theorem dL_limit_13 : decode cL_limit 13 = .ok (.astore 4, 2) := by decide +kernel
theorem dL_limit_15 : decode cL_limit 15 = .ok (.iconst 1, 1) := by decide +kernel
theorem dL_limit_16 : decode cL_limit 16 = .ok (.ireturn, 1) := by decide +kernel
theorem dL_limit_8 : decode cL_limit 8 = .ok (.i2l, 1) := by decide +kernel
theorem dL_limit_9 : decode cL_limit 9 = .ok (.lastore, 1) := by decide +kernel
theorem dL_limit_10 : decode cL_limit 10 = .ok (.goto 7, 3) := by decide +kernel
theorem dL_limit_17 : decode cL_limit 17 = .ok (.iconst 0, 1) := by decide +kernel
theorem dL_limit_18 : decode cL_limit 18 = .ok (.ireturn, 1) := by decide +kernel
theorem tw_1253 : (Jvm.Cond.methodLink "MarshBellsLaw" (66 : Nat) ({ cls := "MarshBells", name := "compare", desc := "(I)I" } : Jvm.MethodName)) ∈ lw_tbl := tk_6 (List.mem_of_getElem? (i := 53) rfl)
theorem tw_1256 : (Jvm.Cond.code ({ cls := "MarshBells", name := "compare", desc := "(I)I" } : Jvm.MethodName) prog_1_method_23_code (2 : Nat) (Option.some Jvm.ClassFile.FieldType.int)) ∈ lw_tbl := tk_6 (List.mem_of_getElem? (i := 56) rfl)
theorem tw_1254 : (Jvm.Cond.instanceMethod ({ cls := "MarshBells", name := "compare", desc := "(I)I" } : Jvm.MethodName)) ∈ lw_tbl := tk_6 (List.mem_of_getElem? (i := 54) rfl)
theorem tw_1255 : (Jvm.Cond.selects "MarshBells" ({ cls := "MarshBells", name := "compare", desc := "(I)I" } : Jvm.MethodName) ({ cls := "MarshBells", name := "compare", desc := "(I)I" } : Jvm.MethodName)) ∈ lw_tbl := tk_6 (List.mem_of_getElem? (i := 55) rfl)
theorem li_L_66 : kLV RL 66 RX11 yX11_compare cX11_compare 2 (some .int) 1 := ⟨tw_1253, tw_1254, tw_1255, tw_1256, tw_1, by decide +kernel⟩
theorem dL_compare_0 : decode cL_compare 0 = .ok (.aload_n 2, 1) := by decide +kernel
theorem dL_compare_1 : decode cL_compare 1 = .ok (.iconst 0, 1) := by decide +kernel
theorem dL_compare_2 : decode cL_compare 2 = .ok (.aload_n 0, 1) := by decide +kernel
theorem dL_compare_3 : decode cL_compare 3 = .ok (.iload_n 1, 1) := by decide +kernel
theorem dL_compare_4 : decode cL_compare 4 = .ok (.invokevirtual 66, 3) := by decide +kernel
theorem dL_compare_12 : decode cL_compare 12 = .ok (.astore_n 3, 1) := by decide +kernel
theorem dL_compare_13 : decode cL_compare 13 = .ok (.iconst 1, 1) := by decide +kernel
theorem dL_compare_14 : decode cL_compare 14 = .ok (.ireturn, 1) := by decide +kernel
theorem dL_compare_7 : decode cL_compare 7 = .ok (.i2l, 1) := by decide +kernel
theorem dL_compare_8 : decode cL_compare 8 = .ok (.lastore, 1) := by decide +kernel
theorem dL_compare_9 : decode cL_compare 9 = .ok (.goto 6, 3) := by decide +kernel
theorem dL_compare_15 : decode cL_compare 15 = .ok (.iconst 0, 1) := by decide +kernel
theorem dL_compare_16 : decode cL_compare 16 = .ok (.ireturn, 1) := by decide +kernel
theorem tw_1261 : (Jvm.Cond.methodLink "MarshBellsLaw" (69 : Nat) ({ cls := "MarshBells", name := "bell", desc := "(I)I" } : Jvm.MethodName)) ∈ lw_tbl := tk_6 (List.mem_of_getElem? (i := 61) rfl)
theorem tw_1264 : (Jvm.Cond.code ({ cls := "MarshBells", name := "bell", desc := "(I)I" } : Jvm.MethodName) prog_1_method_25_code (2 : Nat) (Option.some Jvm.ClassFile.FieldType.int)) ∈ lw_tbl := tk_6 (List.mem_of_getElem? (i := 64) rfl)
theorem tw_1262 : (Jvm.Cond.instanceMethod ({ cls := "MarshBells", name := "bell", desc := "(I)I" } : Jvm.MethodName)) ∈ lw_tbl := tk_6 (List.mem_of_getElem? (i := 62) rfl)
theorem tw_1263 : (Jvm.Cond.selects "MarshBells" ({ cls := "MarshBells", name := "bell", desc := "(I)I" } : Jvm.MethodName) ({ cls := "MarshBells", name := "bell", desc := "(I)I" } : Jvm.MethodName)) ∈ lw_tbl := tk_6 (List.mem_of_getElem? (i := 63) rfl)
theorem li_L_69 : kLV RL 69 RX11 yX11_bell cX11_bell 2 (some .int) 1 := ⟨tw_1261, tw_1262, tw_1263, tw_1264, tw_1, by decide +kernel⟩
theorem dL_bell_0 : decode cL_bell 0 = .ok (.aload_n 2, 1) := by decide +kernel
theorem dL_bell_1 : decode cL_bell 1 = .ok (.iconst 0, 1) := by decide +kernel
theorem dL_bell_2 : decode cL_bell 2 = .ok (.aload_n 0, 1) := by decide +kernel
theorem dL_bell_3 : decode cL_bell 3 = .ok (.iload_n 1, 1) := by decide +kernel
theorem dL_bell_4 : decode cL_bell 4 = .ok (.invokevirtual 69, 3) := by decide +kernel
theorem dL_bell_12 : decode cL_bell 12 = .ok (.astore_n 3, 1) := by decide +kernel
theorem dL_bell_13 : decode cL_bell 13 = .ok (.iconst 1, 1) := by decide +kernel
theorem dL_bell_14 : decode cL_bell 14 = .ok (.ireturn, 1) := by decide +kernel
theorem dL_bell_7 : decode cL_bell 7 = .ok (.i2l, 1) := by decide +kernel
theorem dL_bell_8 : decode cL_bell 8 = .ok (.lastore, 1) := by decide +kernel
theorem dL_bell_9 : decode cL_bell 9 = .ok (.goto 6, 3) := by decide +kernel
theorem dL_bell_15 : decode cL_bell 15 = .ok (.iconst 0, 1) := by decide +kernel
theorem dL_bell_16 : decode cL_bell 16 = .ok (.ireturn, 1) := by decide +kernel
theorem tw_1273 : (Jvm.Cond.methodLink "MarshBellsLaw" (72 : Nat) ({ cls := "MarshBells", name := "see", desc := "(II)I" } : Jvm.MethodName)) ∈ lw_tbl := tk_6 (List.mem_of_getElem? (i := 73) rfl)
theorem tw_1276 : (Jvm.Cond.code ({ cls := "MarshBells", name := "see", desc := "(II)I" } : Jvm.MethodName) prog_1_method_26_code (3 : Nat) (Option.some Jvm.ClassFile.FieldType.int)) ∈ lw_tbl := tk_6 (List.mem_of_getElem? (i := 76) rfl)
theorem tw_1274 : (Jvm.Cond.instanceMethod ({ cls := "MarshBells", name := "see", desc := "(II)I" } : Jvm.MethodName)) ∈ lw_tbl := tk_6 (List.mem_of_getElem? (i := 74) rfl)
theorem tw_1275 : (Jvm.Cond.selects "MarshBells" ({ cls := "MarshBells", name := "see", desc := "(II)I" } : Jvm.MethodName) ({ cls := "MarshBells", name := "see", desc := "(II)I" } : Jvm.MethodName)) ∈ lw_tbl := tk_6 (List.mem_of_getElem? (i := 75) rfl)
theorem li_L_72 : kLV RL 72 RX11 yX11_see cX11_see 3 (some .int) 2 := ⟨tw_1273, tw_1274, tw_1275, tw_1276, tw_1, by decide +kernel⟩
theorem dL_see_0 : decode cL_see 0 = .ok (.aload_n 3, 1) := by decide +kernel
theorem dL_see_1 : decode cL_see 1 = .ok (.iconst 0, 1) := by decide +kernel
theorem dL_see_2 : decode cL_see 2 = .ok (.aload_n 0, 1) := by decide +kernel
theorem dL_see_3 : decode cL_see 3 = .ok (.iload_n 1, 1) := by decide +kernel
theorem dL_see_4 : decode cL_see 4 = .ok (.iload_n 2, 1) := by decide +kernel
theorem dL_see_5 : decode cL_see 5 = .ok (.invokevirtual 72, 3) := by decide +kernel
theorem dL_see_13 : decode cL_see 13 = .ok (.astore 4, 2) := by decide +kernel
theorem dL_see_15 : decode cL_see 15 = .ok (.iconst 1, 1) := by decide +kernel
theorem dL_see_16 : decode cL_see 16 = .ok (.ireturn, 1) := by decide +kernel
theorem dL_see_8 : decode cL_see 8 = .ok (.i2l, 1) := by decide +kernel
theorem dL_see_9 : decode cL_see 9 = .ok (.lastore, 1) := by decide +kernel
theorem dL_see_10 : decode cL_see 10 = .ok (.goto 7, 3) := by decide +kernel
theorem dL_see_17 : decode cL_see 17 = .ok (.iconst 0, 1) := by decide +kernel
theorem dL_see_18 : decode cL_see 18 = .ok (.ireturn, 1) := by decide +kernel
theorem tw_1284 : (Jvm.Cond.methodLink "MarshBellsLaw" (75 : Nat) ({ cls := "MarshBells", name := "fits", desc := "(I)I" } : Jvm.MethodName)) ∈ lw_tbl := tk_6 (List.mem_of_getElem? (i := 84) rfl)
theorem tw_1287 : (Jvm.Cond.code ({ cls := "MarshBells", name := "fits", desc := "(I)I" } : Jvm.MethodName) prog_1_method_28_code (2 : Nat) (Option.some Jvm.ClassFile.FieldType.int)) ∈ lw_tbl := tk_6 (List.mem_of_getElem? (i := 87) rfl)
theorem tw_1285 : (Jvm.Cond.instanceMethod ({ cls := "MarshBells", name := "fits", desc := "(I)I" } : Jvm.MethodName)) ∈ lw_tbl := tk_6 (List.mem_of_getElem? (i := 85) rfl)
theorem tw_1286 : (Jvm.Cond.selects "MarshBells" ({ cls := "MarshBells", name := "fits", desc := "(I)I" } : Jvm.MethodName) ({ cls := "MarshBells", name := "fits", desc := "(I)I" } : Jvm.MethodName)) ∈ lw_tbl := tk_6 (List.mem_of_getElem? (i := 86) rfl)
theorem li_L_75 : kLV RL 75 RX11 yX11_fits cX11_fits 2 (some .int) 1 := ⟨tw_1284, tw_1285, tw_1286, tw_1287, tw_1, by decide +kernel⟩
theorem dL_fits_0 : decode cL_fits 0 = .ok (.aload_n 2, 1) := by decide +kernel
theorem dL_fits_1 : decode cL_fits 1 = .ok (.iconst 0, 1) := by decide +kernel
theorem dL_fits_2 : decode cL_fits 2 = .ok (.aload_n 0, 1) := by decide +kernel
theorem dL_fits_3 : decode cL_fits 3 = .ok (.iload_n 1, 1) := by decide +kernel
theorem dL_fits_4 : decode cL_fits 4 = .ok (.invokevirtual 75, 3) := by decide +kernel
theorem dL_fits_12 : decode cL_fits 12 = .ok (.astore_n 3, 1) := by decide +kernel
theorem dL_fits_13 : decode cL_fits 13 = .ok (.iconst 1, 1) := by decide +kernel
theorem dL_fits_14 : decode cL_fits 14 = .ok (.ireturn, 1) := by decide +kernel
theorem dL_fits_7 : decode cL_fits 7 = .ok (.i2l, 1) := by decide +kernel
theorem dL_fits_8 : decode cL_fits 8 = .ok (.lastore, 1) := by decide +kernel
theorem dL_fits_9 : decode cL_fits 9 = .ok (.goto 6, 3) := by decide +kernel
theorem dL_fits_15 : decode cL_fits 15 = .ok (.iconst 0, 1) := by decide +kernel
theorem dL_fits_16 : decode cL_fits 16 = .ok (.ireturn, 1) := by decide +kernel
theorem tw_1304 : (Jvm.Cond.methodLink "MarshBellsLaw" (78 : Nat) ({ cls := "MarshBells", name := "term", desc := "(IIII)I" } : Jvm.MethodName)) ∈ lw_tbl := tk_6 (List.mem_of_getElem? (i := 104) rfl)
theorem tw_1307 : (Jvm.Cond.code ({ cls := "MarshBells", name := "term", desc := "(IIII)I" } : Jvm.MethodName) prog_1_method_30_code (5 : Nat) (Option.some Jvm.ClassFile.FieldType.int)) ∈ lw_tbl := tk_6 (List.mem_of_getElem? (i := 107) rfl)
theorem tw_1305 : (Jvm.Cond.instanceMethod ({ cls := "MarshBells", name := "term", desc := "(IIII)I" } : Jvm.MethodName)) ∈ lw_tbl := tk_6 (List.mem_of_getElem? (i := 105) rfl)
theorem tw_1306 : (Jvm.Cond.selects "MarshBells" ({ cls := "MarshBells", name := "term", desc := "(IIII)I" } : Jvm.MethodName) ({ cls := "MarshBells", name := "term", desc := "(IIII)I" } : Jvm.MethodName)) ∈ lw_tbl := tk_6 (List.mem_of_getElem? (i := 106) rfl)
theorem li_L_78 : kLV RL 78 RX11 yX11_term cX11_term 5 (some .int) 4 := ⟨tw_1304, tw_1305, tw_1306, tw_1307, tw_1, by decide +kernel⟩
theorem dL_term_0 : decode cL_term 0 = .ok (.aload 5, 2) := by decide +kernel
theorem dL_term_2 : decode cL_term 2 = .ok (.iconst 0, 1) := by decide +kernel
theorem dL_term_3 : decode cL_term 3 = .ok (.aload_n 0, 1) := by decide +kernel
theorem dL_term_4 : decode cL_term 4 = .ok (.iload_n 1, 1) := by decide +kernel
theorem dL_term_5 : decode cL_term 5 = .ok (.iload_n 2, 1) := by decide +kernel
theorem dL_term_6 : decode cL_term 6 = .ok (.iload_n 3, 1) := by decide +kernel
theorem dL_term_7 : decode cL_term 7 = .ok (.iload 4, 2) := by decide +kernel
theorem dL_term_9 : decode cL_term 9 = .ok (.invokevirtual 78, 3) := by decide +kernel
theorem dL_term_17 : decode cL_term 17 = .ok (.astore 6, 2) := by decide +kernel
theorem dL_term_19 : decode cL_term 19 = .ok (.iconst 1, 1) := by decide +kernel
theorem dL_term_20 : decode cL_term 20 = .ok (.ireturn, 1) := by decide +kernel
theorem dL_term_21 : decode cL_term 21 = .ok (.astore 6, 2) := by decide +kernel
theorem dL_term_23 : decode cL_term 23 = .ok (.iconst 2, 1) := by decide +kernel
theorem dL_term_24 : decode cL_term 24 = .ok (.ireturn, 1) := by decide +kernel
theorem dL_term_12 : decode cL_term 12 = .ok (.i2l, 1) := by decide +kernel
theorem dL_term_13 : decode cL_term 13 = .ok (.lastore, 1) := by decide +kernel
theorem dL_term_14 : decode cL_term 14 = .ok (.goto 11, 3) := by decide +kernel
theorem dL_term_25 : decode cL_term 25 = .ok (.iconst 0, 1) := by decide +kernel
theorem dL_term_26 : decode cL_term 26 = .ok (.ireturn, 1) := by decide +kernel
theorem tw_1326 : (Jvm.Cond.methodLink "MarshBellsLaw" (82 : Nat) ({ cls := "MarshBells", name := "on", desc := "(II)I" } : Jvm.MethodName)) ∈ lw_tbl := tk_6 (List.mem_of_getElem? (i := 126) rfl)
theorem tw_1329 : (Jvm.Cond.code ({ cls := "MarshBells", name := "on", desc := "(II)I" } : Jvm.MethodName) prog_1_method_31_code (3 : Nat) (Option.some Jvm.ClassFile.FieldType.int)) ∈ lw_tbl := tk_6 (List.mem_of_getElem? (i := 129) rfl)
theorem tw_1327 : (Jvm.Cond.instanceMethod ({ cls := "MarshBells", name := "on", desc := "(II)I" } : Jvm.MethodName)) ∈ lw_tbl := tk_6 (List.mem_of_getElem? (i := 127) rfl)
theorem tw_1328 : (Jvm.Cond.selects "MarshBells" ({ cls := "MarshBells", name := "on", desc := "(II)I" } : Jvm.MethodName) ({ cls := "MarshBells", name := "on", desc := "(II)I" } : Jvm.MethodName)) ∈ lw_tbl := tk_6 (List.mem_of_getElem? (i := 128) rfl)
theorem li_L_82 : kLV RL 82 RX11 yX11_on cX11_on 3 (some .int) 2 := ⟨tw_1326, tw_1327, tw_1328, tw_1329, tw_1, by decide +kernel⟩
theorem dL_on_0 : decode cL_on 0 = .ok (.aload_n 3, 1) := by decide +kernel
theorem dL_on_1 : decode cL_on 1 = .ok (.iconst 0, 1) := by decide +kernel
theorem dL_on_2 : decode cL_on 2 = .ok (.aload_n 0, 1) := by decide +kernel
theorem dL_on_3 : decode cL_on 3 = .ok (.iload_n 1, 1) := by decide +kernel
theorem dL_on_4 : decode cL_on 4 = .ok (.iload_n 2, 1) := by decide +kernel
theorem dL_on_5 : decode cL_on 5 = .ok (.invokevirtual 82, 3) := by decide +kernel
theorem dL_on_13 : decode cL_on 13 = .ok (.astore 4, 2) := by decide +kernel
theorem dL_on_15 : decode cL_on 15 = .ok (.iconst 1, 1) := by decide +kernel
theorem dL_on_16 : decode cL_on 16 = .ok (.ireturn, 1) := by decide +kernel
theorem dL_on_17 : decode cL_on 17 = .ok (.astore 4, 2) := by decide +kernel
theorem dL_on_19 : decode cL_on 19 = .ok (.iconst 2, 1) := by decide +kernel
theorem dL_on_20 : decode cL_on 20 = .ok (.ireturn, 1) := by decide +kernel
theorem dL_on_8 : decode cL_on 8 = .ok (.i2l, 1) := by decide +kernel
theorem dL_on_9 : decode cL_on 9 = .ok (.lastore, 1) := by decide +kernel
theorem dL_on_10 : decode cL_on 10 = .ok (.goto 11, 3) := by decide +kernel
theorem dL_on_21 : decode cL_on 21 = .ok (.iconst 0, 1) := by decide +kernel
theorem dL_on_22 : decode cL_on 22 = .ok (.ireturn, 1) := by decide +kernel
theorem tw_1341 : (Jvm.Cond.methodLink "MarshBellsLaw" (85 : Nat) ({ cls := "MarshBells", name := "clash", desc := "(I)I" } : Jvm.MethodName)) ∈ lw_tbl := tk_6 (List.mem_of_getElem? (i := 141) rfl)
theorem tw_1344 : (Jvm.Cond.code ({ cls := "MarshBells", name := "clash", desc := "(I)I" } : Jvm.MethodName) prog_1_method_32_code (2 : Nat) (Option.some Jvm.ClassFile.FieldType.int)) ∈ lw_tbl := tk_6 (List.mem_of_getElem? (i := 144) rfl)
theorem tw_1342 : (Jvm.Cond.instanceMethod ({ cls := "MarshBells", name := "clash", desc := "(I)I" } : Jvm.MethodName)) ∈ lw_tbl := tk_6 (List.mem_of_getElem? (i := 142) rfl)
theorem tw_1343 : (Jvm.Cond.selects "MarshBells" ({ cls := "MarshBells", name := "clash", desc := "(I)I" } : Jvm.MethodName) ({ cls := "MarshBells", name := "clash", desc := "(I)I" } : Jvm.MethodName)) ∈ lw_tbl := tk_6 (List.mem_of_getElem? (i := 143) rfl)
theorem li_L_85 : kLV RL 85 RX11 yX11_clash cX11_clash 2 (some .int) 1 := ⟨tw_1341, tw_1342, tw_1343, tw_1344, tw_1, by decide +kernel⟩
theorem dL_clash_0 : decode cL_clash 0 = .ok (.aload_n 2, 1) := by decide +kernel
theorem dL_clash_1 : decode cL_clash 1 = .ok (.iconst 0, 1) := by decide +kernel
theorem dL_clash_2 : decode cL_clash 2 = .ok (.aload_n 0, 1) := by decide +kernel
theorem dL_clash_3 : decode cL_clash 3 = .ok (.iload_n 1, 1) := by decide +kernel
theorem dL_clash_4 : decode cL_clash 4 = .ok (.invokevirtual 85, 3) := by decide +kernel
theorem dL_clash_12 : decode cL_clash 12 = .ok (.astore_n 3, 1) := by decide +kernel
theorem dL_clash_13 : decode cL_clash 13 = .ok (.iconst 1, 1) := by decide +kernel
theorem dL_clash_14 : decode cL_clash 14 = .ok (.ireturn, 1) := by decide +kernel
theorem dL_clash_7 : decode cL_clash 7 = .ok (.i2l, 1) := by decide +kernel
theorem dL_clash_8 : decode cL_clash 8 = .ok (.lastore, 1) := by decide +kernel
theorem dL_clash_9 : decode cL_clash 9 = .ok (.goto 6, 3) := by decide +kernel
theorem dL_clash_15 : decode cL_clash 15 = .ok (.iconst 0, 1) := by decide +kernel
theorem dL_clash_16 : decode cL_clash 16 = .ok (.ireturn, 1) := by decide +kernel
theorem tw_1360 : (Jvm.Cond.methodLink "MarshBellsLaw" (88 : Nat) ({ cls := "MarshBells", name := "busiest", desc := "(I)I" } : Jvm.MethodName)) ∈ lw_tbl := tk_6 (List.mem_of_getElem? (i := 160) rfl)
theorem tw_1363 : (Jvm.Cond.code ({ cls := "MarshBells", name := "busiest", desc := "(I)I" } : Jvm.MethodName) prog_1_method_33_code (3 : Nat) (Option.some Jvm.ClassFile.FieldType.int)) ∈ lw_tbl := tk_6 (List.mem_of_getElem? (i := 163) rfl)
theorem tw_1361 : (Jvm.Cond.instanceMethod ({ cls := "MarshBells", name := "busiest", desc := "(I)I" } : Jvm.MethodName)) ∈ lw_tbl := tk_6 (List.mem_of_getElem? (i := 161) rfl)
theorem tw_1362 : (Jvm.Cond.selects "MarshBells" ({ cls := "MarshBells", name := "busiest", desc := "(I)I" } : Jvm.MethodName) ({ cls := "MarshBells", name := "busiest", desc := "(I)I" } : Jvm.MethodName)) ∈ lw_tbl := tk_6 (List.mem_of_getElem? (i := 162) rfl)
theorem li_L_88 : kLV RL 88 RX11 yX11_busiest cX11_busiest 3 (some .int) 1 := ⟨tw_1360, tw_1361, tw_1362, tw_1363, tw_1, by decide +kernel⟩
theorem dL_busiest_0 : decode cL_busiest 0 = .ok (.aload_n 2, 1) := by decide +kernel
theorem dL_busiest_1 : decode cL_busiest 1 = .ok (.iconst 0, 1) := by decide +kernel
theorem dL_busiest_2 : decode cL_busiest 2 = .ok (.aload_n 0, 1) := by decide +kernel
theorem dL_busiest_3 : decode cL_busiest 3 = .ok (.iload_n 1, 1) := by decide +kernel
theorem dL_busiest_4 : decode cL_busiest 4 = .ok (.invokevirtual 88, 3) := by decide +kernel
theorem dL_busiest_12 : decode cL_busiest 12 = .ok (.astore_n 3, 1) := by decide +kernel
theorem dL_busiest_13 : decode cL_busiest 13 = .ok (.iconst 1, 1) := by decide +kernel
theorem dL_busiest_14 : decode cL_busiest 14 = .ok (.ireturn, 1) := by decide +kernel
theorem dL_busiest_7 : decode cL_busiest 7 = .ok (.i2l, 1) := by decide +kernel
theorem dL_busiest_8 : decode cL_busiest 8 = .ok (.lastore, 1) := by decide +kernel
theorem dL_busiest_9 : decode cL_busiest 9 = .ok (.goto 6, 3) := by decide +kernel
theorem dL_busiest_15 : decode cL_busiest 15 = .ok (.iconst 0, 1) := by decide +kernel
theorem dL_busiest_16 : decode cL_busiest 16 = .ok (.ireturn, 1) := by decide +kernel
theorem tw_1372 : (Jvm.Cond.methodLink "MarshBellsLaw" (91 : Nat) ({ cls := "MarshBells", name := "shift", desc := "(II)I" } : Jvm.MethodName)) ∈ lw_tbl := tk_6 (List.mem_of_getElem? (i := 172) rfl)
theorem tw_1375 : (Jvm.Cond.code ({ cls := "MarshBells", name := "shift", desc := "(II)I" } : Jvm.MethodName) prog_1_method_35_code (3 : Nat) (Option.some Jvm.ClassFile.FieldType.int)) ∈ lw_tbl := tk_6 (List.mem_of_getElem? (i := 175) rfl)
theorem tw_1373 : (Jvm.Cond.instanceMethod ({ cls := "MarshBells", name := "shift", desc := "(II)I" } : Jvm.MethodName)) ∈ lw_tbl := tk_6 (List.mem_of_getElem? (i := 173) rfl)
theorem tw_1374 : (Jvm.Cond.selects "MarshBells" ({ cls := "MarshBells", name := "shift", desc := "(II)I" } : Jvm.MethodName) ({ cls := "MarshBells", name := "shift", desc := "(II)I" } : Jvm.MethodName)) ∈ lw_tbl := tk_6 (List.mem_of_getElem? (i := 174) rfl)
theorem li_L_91 : kLV RL 91 RX11 yX11_shift cX11_shift 3 (some .int) 2 := ⟨tw_1372, tw_1373, tw_1374, tw_1375, tw_1, by decide +kernel⟩
theorem dL_shift_0 : decode cL_shift 0 = .ok (.aload_n 3, 1) := by decide +kernel
theorem dL_shift_1 : decode cL_shift 1 = .ok (.iconst 0, 1) := by decide +kernel
theorem dL_shift_2 : decode cL_shift 2 = .ok (.aload_n 0, 1) := by decide +kernel
theorem dL_shift_3 : decode cL_shift 3 = .ok (.iload_n 1, 1) := by decide +kernel
theorem dL_shift_4 : decode cL_shift 4 = .ok (.iload_n 2, 1) := by decide +kernel
theorem dL_shift_5 : decode cL_shift 5 = .ok (.invokevirtual 91, 3) := by decide +kernel
theorem dL_shift_13 : decode cL_shift 13 = .ok (.astore 4, 2) := by decide +kernel
theorem dL_shift_15 : decode cL_shift 15 = .ok (.iconst 1, 1) := by decide +kernel
theorem dL_shift_16 : decode cL_shift 16 = .ok (.ireturn, 1) := by decide +kernel
theorem dL_shift_8 : decode cL_shift 8 = .ok (.i2l, 1) := by decide +kernel
theorem dL_shift_9 : decode cL_shift 9 = .ok (.lastore, 1) := by decide +kernel
theorem dL_shift_10 : decode cL_shift 10 = .ok (.goto 7, 3) := by decide +kernel
theorem dL_shift_17 : decode cL_shift 17 = .ok (.iconst 0, 1) := by decide +kernel
theorem dL_shift_18 : decode cL_shift 18 = .ok (.ireturn, 1) := by decide +kernel
theorem tw_1383 : (Jvm.Cond.methodLink "MarshBellsLaw" (94 : Nat) ({ cls := "MarshBells", name := "harm", desc := "(II)I" } : Jvm.MethodName)) ∈ lw_tbl := tk_6 (List.mem_of_getElem? (i := 183) rfl)
theorem tw_1386 : (Jvm.Cond.code ({ cls := "MarshBells", name := "harm", desc := "(II)I" } : Jvm.MethodName) prog_1_method_36_code (3 : Nat) (Option.some Jvm.ClassFile.FieldType.int)) ∈ lw_tbl := tk_6 (List.mem_of_getElem? (i := 186) rfl)
theorem tw_1384 : (Jvm.Cond.instanceMethod ({ cls := "MarshBells", name := "harm", desc := "(II)I" } : Jvm.MethodName)) ∈ lw_tbl := tk_6 (List.mem_of_getElem? (i := 184) rfl)
theorem tw_1385 : (Jvm.Cond.selects "MarshBells" ({ cls := "MarshBells", name := "harm", desc := "(II)I" } : Jvm.MethodName) ({ cls := "MarshBells", name := "harm", desc := "(II)I" } : Jvm.MethodName)) ∈ lw_tbl := tk_6 (List.mem_of_getElem? (i := 185) rfl)
theorem li_L_94 : kLV RL 94 RX11 yX11_harm cX11_harm 3 (some .int) 2 := ⟨tw_1383, tw_1384, tw_1385, tw_1386, tw_1, by decide +kernel⟩
theorem dL_harm_0 : decode cL_harm 0 = .ok (.aload_n 3, 1) := by decide +kernel
theorem dL_harm_1 : decode cL_harm 1 = .ok (.iconst 0, 1) := by decide +kernel
theorem dL_harm_2 : decode cL_harm 2 = .ok (.aload_n 0, 1) := by decide +kernel
theorem dL_harm_3 : decode cL_harm 3 = .ok (.iload_n 1, 1) := by decide +kernel
theorem dL_harm_4 : decode cL_harm 4 = .ok (.iload_n 2, 1) := by decide +kernel
theorem dL_harm_5 : decode cL_harm 5 = .ok (.invokevirtual 94, 3) := by decide +kernel
theorem dL_harm_13 : decode cL_harm 13 = .ok (.astore 4, 2) := by decide +kernel
theorem dL_harm_15 : decode cL_harm 15 = .ok (.iconst 1, 1) := by decide +kernel
theorem dL_harm_16 : decode cL_harm 16 = .ok (.ireturn, 1) := by decide +kernel
theorem dL_harm_8 : decode cL_harm 8 = .ok (.i2l, 1) := by decide +kernel
theorem dL_harm_9 : decode cL_harm 9 = .ok (.lastore, 1) := by decide +kernel
theorem dL_harm_10 : decode cL_harm 10 = .ok (.goto 7, 3) := by decide +kernel
theorem dL_harm_17 : decode cL_harm 17 = .ok (.iconst 0, 1) := by decide +kernel
theorem dL_harm_18 : decode cL_harm 18 = .ok (.ireturn, 1) := by decide +kernel
theorem tw_1394 : (Jvm.Cond.methodLink "MarshBellsLaw" (97 : Nat) ({ cls := "MarshBells", name := "pair", desc := "(I)I" } : Jvm.MethodName)) ∈ lw_tbl := tk_6 (List.mem_of_getElem? (i := 194) rfl)
theorem tw_1397 : (Jvm.Cond.code ({ cls := "MarshBells", name := "pair", desc := "(I)I" } : Jvm.MethodName) prog_1_method_37_code (2 : Nat) (Option.some Jvm.ClassFile.FieldType.int)) ∈ lw_tbl := tk_6 (List.mem_of_getElem? (i := 197) rfl)
theorem tw_1395 : (Jvm.Cond.instanceMethod ({ cls := "MarshBells", name := "pair", desc := "(I)I" } : Jvm.MethodName)) ∈ lw_tbl := tk_6 (List.mem_of_getElem? (i := 195) rfl)
theorem tw_1396 : (Jvm.Cond.selects "MarshBells" ({ cls := "MarshBells", name := "pair", desc := "(I)I" } : Jvm.MethodName) ({ cls := "MarshBells", name := "pair", desc := "(I)I" } : Jvm.MethodName)) ∈ lw_tbl := tk_6 (List.mem_of_getElem? (i := 196) rfl)
theorem li_L_97 : kLV RL 97 RX11 yX11_pair cX11_pair 2 (some .int) 1 := ⟨tw_1394, tw_1395, tw_1396, tw_1397, tw_1, by decide +kernel⟩
theorem dL_pair_0 : decode cL_pair 0 = .ok (.aload_n 2, 1) := by decide +kernel
theorem dL_pair_1 : decode cL_pair 1 = .ok (.iconst 0, 1) := by decide +kernel
theorem dL_pair_2 : decode cL_pair 2 = .ok (.aload_n 0, 1) := by decide +kernel
theorem dL_pair_3 : decode cL_pair 3 = .ok (.iload_n 1, 1) := by decide +kernel
theorem dL_pair_4 : decode cL_pair 4 = .ok (.invokevirtual 97, 3) := by decide +kernel
theorem dL_pair_12 : decode cL_pair 12 = .ok (.astore_n 3, 1) := by decide +kernel
theorem dL_pair_13 : decode cL_pair 13 = .ok (.iconst 1, 1) := by decide +kernel
theorem dL_pair_14 : decode cL_pair 14 = .ok (.ireturn, 1) := by decide +kernel
theorem dL_pair_7 : decode cL_pair 7 = .ok (.i2l, 1) := by decide +kernel
theorem dL_pair_8 : decode cL_pair 8 = .ok (.lastore, 1) := by decide +kernel
theorem dL_pair_9 : decode cL_pair 9 = .ok (.goto 6, 3) := by decide +kernel
theorem dL_pair_15 : decode cL_pair 15 = .ok (.iconst 0, 1) := by decide +kernel
theorem dL_pair_16 : decode cL_pair 16 = .ok (.ireturn, 1) := by decide +kernel
theorem tw_1405 : (Jvm.Cond.methodLink "MarshBellsLaw" (100 : Nat) ({ cls := "MarshBells", name := "pause", desc := "(II)I" } : Jvm.MethodName)) ∈ lw_tbl := tk_6 (List.mem_of_getElem? (i := 205) rfl)
theorem tw_1408 : (Jvm.Cond.code ({ cls := "MarshBells", name := "pause", desc := "(II)I" } : Jvm.MethodName) prog_1_method_38_code (3 : Nat) (Option.some Jvm.ClassFile.FieldType.int)) ∈ lw_tbl := tk_6 (List.mem_of_getElem? (i := 208) rfl)
theorem tw_1406 : (Jvm.Cond.instanceMethod ({ cls := "MarshBells", name := "pause", desc := "(II)I" } : Jvm.MethodName)) ∈ lw_tbl := tk_6 (List.mem_of_getElem? (i := 206) rfl)
theorem tw_1407 : (Jvm.Cond.selects "MarshBells" ({ cls := "MarshBells", name := "pause", desc := "(II)I" } : Jvm.MethodName) ({ cls := "MarshBells", name := "pause", desc := "(II)I" } : Jvm.MethodName)) ∈ lw_tbl := tk_6 (List.mem_of_getElem? (i := 207) rfl)
theorem li_L_100 : kLV RL 100 RX11 yX11_pause cX11_pause 3 (some .int) 2 := ⟨tw_1405, tw_1406, tw_1407, tw_1408, tw_1, by decide +kernel⟩
theorem dL_pause_0 : decode cL_pause 0 = .ok (.aload_n 3, 1) := by decide +kernel
theorem dL_pause_1 : decode cL_pause 1 = .ok (.iconst 0, 1) := by decide +kernel
theorem dL_pause_2 : decode cL_pause 2 = .ok (.aload_n 0, 1) := by decide +kernel
theorem dL_pause_3 : decode cL_pause 3 = .ok (.iload_n 1, 1) := by decide +kernel
theorem dL_pause_4 : decode cL_pause 4 = .ok (.iload_n 2, 1) := by decide +kernel
theorem dL_pause_5 : decode cL_pause 5 = .ok (.invokevirtual 100, 3) := by decide +kernel
theorem dL_pause_13 : decode cL_pause 13 = .ok (.astore 4, 2) := by decide +kernel
theorem dL_pause_15 : decode cL_pause 15 = .ok (.iconst 1, 1) := by decide +kernel
theorem dL_pause_16 : decode cL_pause 16 = .ok (.ireturn, 1) := by decide +kernel
theorem dL_pause_17 : decode cL_pause 17 = .ok (.astore 4, 2) := by decide +kernel
theorem dL_pause_19 : decode cL_pause 19 = .ok (.iconst 2, 1) := by decide +kernel
theorem dL_pause_20 : decode cL_pause 20 = .ok (.ireturn, 1) := by decide +kernel
theorem dL_pause_8 : decode cL_pause 8 = .ok (.i2l, 1) := by decide +kernel
theorem dL_pause_9 : decode cL_pause 9 = .ok (.lastore, 1) := by decide +kernel
theorem dL_pause_10 : decode cL_pause 10 = .ok (.goto 11, 3) := by decide +kernel
theorem dL_pause_21 : decode cL_pause 21 = .ok (.iconst 0, 1) := by decide +kernel
theorem dL_pause_22 : decode cL_pause 22 = .ok (.ireturn, 1) := by decide +kernel
theorem oat {G : kG} {Z : Nat → zSh} {n : Nat} {a : Nat → Nat} {g : Nat → Nat → Int32} {L : Nat → Nat → Int64} {o : Nat × va_E} : (zw G Z n a g L ++ [o])[n]? = some o := by
  have hl : (zw G Z n a g L).length = n := by simp [zw]
  rw [List.getElem?_append_right (by omega), hl]; simp
theorem oset {G : kG} {Z : Nat → zSh} {n : Nat} {a : Nat → Nat} {g : Nat → Nat → Int32} {L : Nat → Nat → Int64} {o o' : Nat × va_E} : (zw G Z n a g L ++ [o]).set n o' = zw G Z n a g L ++ [o'] := by
  have hl : (zw G Z n a g L).length = n := by simp [zw]
  rw [List.set_append_right _ _ (by omega), hl]; simp
section AL
variable {p : Program} {l : Launch} {e : Env} {R : Room} {s : State} {m : MethodId} {args : Array Value} {below : List Frame} {meth : Method} {c : Code} {H : Heap} {locs : List Loc} {cells slots : Nat} {Q : State → Prop} {cc : ByteArray} {nL pc : Nat} {ls : Array Slot} {rest st0 : List Value} {G : kG} {own : String} {A : Nat → Prop}
theorem a_last {Z : Nat → zSh} {n qo : Nat} {a : Nat → Nat} {g : Nat → Nat → Int32} {L : Nat → Nat → Int64} {f : Nat → Int64} {x : Int64} (C : kC G p s m c cc nL own A) (hP : va_P G.1 vwCl (zw G Z n a g L ++ [(qo, .inl (G.2.2.2.2.1, 1, .inr (.inl f)))]) H) (hD : va_D A (zw G Z n a g L ++ [(qo, .inl (G.2.2.2.2.1, 1, .inr (.inl f)))])) (hS : va_S A s.heap H locs) (hdg : decode cc pc = .ok (.lastore, 1)) (kk : ∀ (H1 : Heap) (locs1 : List Loc), va_P G.1 vwCl (zw G Z n a g L ++ [(qo, .inl (G.2.2.2.2.1, 1, .inr (.inl (vp_updL f 0 x))))]) H1 → va_D A (zw G Z n a g L ++ [(qo, .inl (G.2.2.2.2.1, 1, .inr (.inl (vp_updL f 0 x))))]) → va_S A s.heap H1 locs1 → W p l e R s m args below meth c H1 locs1 cells slots Q (F0 m (pc + 1) ls rest)) : W p l e R s m args below meth c H locs cells slots Q (F0 m pc ls (.long x :: .int 0 :: .ref qo :: rest)) := by
  refine k_last C hP hD hS n oat (vp_in_iff.mpr ⟨by decide, by decide⟩) hdg (fun H1 locs1 h1 h2 h3 => ?_)
  rw [oset] at h1 h2
  exact kk H1 locs1 h1 h2 h3
end AL
set_option maxHeartbeats 4000000 in
set_option maxRecDepth 100000 in
theorem wL_house (l : Launch) (hst : l.stackTraces = false) (G : kG) (sz : Nat) (b : Nat) (a : Nat → Nat) (fu : Nat) (g : Nat → Nat → Int32) (L : Nat → Nat → Int64) (p1 : Int32) (qo : Nat) (fJ : Nat → Int64) (res : Except String Int32) (s9 : zS) (h : fX11_house_0 fu p1 g L = some (res, s9)) (hE : ∀ E, res = .error E → E = "java/lang/IllegalArgumentException") : kMH l yL_house cL_house 4 (some .int) [(0, 9, 12, 13)] { frames := 65, cells := 1, slots := 6, locals := 1414 } G [.ref (a 0), .int p1, .ref qo] (zw G (XS b) 105 a g L ++ [(qo, .inl (G.2.2.2.2.1, 1, .inr (.inl fJ)))]) sz (kQi G (S := Nat × (Nat → Nat) × (Nat → Int64)) (fun r u => ((∃ v, res = .ok v ∧ r = 0 ∧ u.2.2 0 = (Int32.toInt64 v)) ∨ (res = .error "java/lang/IllegalArgumentException" ∧ r = 1)) ∧ u.2.1 0 = a 0) (fun u => zw G (XS u.1) 105 u.2.1 s9.1 s9.2 ++ [(qo, .inl (G.2.2.2.2.1, 1, .inr (.inl u.2.2)))])) := by
  refine kMH.of (by decide) (Nat.le_of_ble_eq_true rfl) ?_
  intro p e s m below meth c A ls H C hr hlk htab hP hD hS hl
  have C : kC G p s m c cL_house 4 RL A := C
  have hx := C.1
  have hb := C.2.1
  have hl : lv_has ls 4 [(0, .ref (a 0)), (1, .int p1), (2, .ref qo)] := hl
  refine lv_aload_n hx hb dL_house_0 rfl (lv_at hl 2 rfl) ?_
  refine lv_iconst (v := 0) hx hb dL_house_1 (by decide) ?_
  refine lv_aload_n hx hb dL_house_2 rfl (lv_at hl 0 rfl) ?_
  refine lv_iload_n hx hb dL_house_3 rfl (lv_at hl 1 rfl) ?_
  refine a_xcallVi (rest := [.int 0, .ref qo]) li_L_7 C (rX11_house_0 l hst G H.size b a fu g L p1 res s9 h) (kR rfl) hP hD hS 0 11 rfl (zat (by decide) xs_0) rfl hl.1 rfl (Nat.le_of_ble_eq_true rfl) dL_house_4 (fun E ce q9 u H locs hw hP hD hS hc1 hc2 hc3 => ?_) (fun r u H locs hw hP hD hS => ?_)
  · obtain rfl := hE E hw
    refine k_catch1 C htab (by decide) (by decide) tw_732 tw_739 hc1 hc2 hc3 ?_
    refine lv_astore_n (lv' := [(3, .ref q9), (0, .ref (a 0)), (1, .int p1), (2, .ref qo)]) hx hb dL_house_12 rfl hl (by decide) rfl (fun ls hl => ?_)
    refine lv_iconst (v := 1) hx hb dL_house_13 (by decide) ?_
    exact x_iret C hr hlk hP hD hS (b, a, fJ) rfl (⟨Or.inr (⟨hw, rfl⟩), rfl⟩) (Nat.le_of_ble_eq_true rfl) (Nat.le_of_ble_eq_true rfl) dL_house_14
  · skip
    refine lv_i2l hx hb dL_house_7 rfl ?_
    refine a_last C hP hD hS dL_house_8 (fun H locs hP hD hS => ?_)
    refine lv_goto (tgt := 15) hx hb dL_house_9 (by decide) ?_
    refine lv_iconst (v := 0) hx hb dL_house_15 (by decide) ?_
    exact x_iret C hr hlk hP hD hS (u.1, u.2, vp_updL fJ 0 (Int32.toInt64 r)) rfl ⟨Or.inl ⟨r, hw.1, rfl, rfl⟩, hw.2⟩ (Nat.le_of_ble_eq_true rfl) (Nat.le_of_ble_eq_true rfl) dL_house_16
set_option maxHeartbeats 4000000 in
set_option maxRecDepth 100000 in
theorem wL_count (l : Launch) (hst : l.stackTraces = false) (G : kG) (sz : Nat) (b : Nat) (a : Nat → Nat) (fu : Nat) (g : Nat → Nat → Int32) (L : Nat → Nat → Int64) (p1 : Int32) (qo : Nat) (fJ : Nat → Int64) (res : Except String Int32) (s9 : zS) (h : fX11_count_0 fu p1 g L = some (res, s9)) (hE : ∀ E, res = .error E → E = "java/util/NoSuchElementException") : kMH l yL_count cL_count 4 (some .int) [(0, 9, 12, 18)] { frames := 13, cells := 1, slots := 6, locals := 267 } G [.ref (a 0), .int p1, .ref qo] (zw G (XS b) 105 a g L ++ [(qo, .inl (G.2.2.2.2.1, 1, .inr (.inl fJ)))]) sz (kQi G (S := Nat → Int64) (fun r u => (∃ v, res = .ok v ∧ r = 0 ∧ u 0 = (Int32.toInt64 v)) ∨ (res = .error "java/util/NoSuchElementException" ∧ r = 1)) (fun u => zw G (XS b) 105 a s9.1 s9.2 ++ [(qo, .inl (G.2.2.2.2.1, 1, .inr (.inl u)))])) := by
  refine kMH.of (by decide) (Nat.le_of_ble_eq_true rfl) ?_
  intro p e s m below meth c A ls H C hr hlk htab hP hD hS hl
  have C : kC G p s m c cL_count 4 RL A := C
  have hx := C.1
  have hb := C.2.1
  have hl : lv_has ls 4 [(0, .ref (a 0)), (1, .int p1), (2, .ref qo)] := hl
  refine lv_aload_n hx hb dL_count_0 rfl (lv_at hl 2 rfl) ?_
  refine lv_iconst (v := 0) hx hb dL_count_1 (by decide) ?_
  refine lv_aload_n hx hb dL_count_2 rfl (lv_at hl 0 rfl) ?_
  refine lv_iload_n hx hb dL_count_3 rfl (lv_at hl 1 rfl) ?_
  refine a_xcallVi (rest := [.int 0, .ref qo]) li_L_15 C (rX11_count_0 l hst G H.size b a fu g L p1 res s9 h) (kR rfl) hP hD hS 0 11 rfl (zat (by decide) xs_0) rfl hl.1 rfl (Nat.le_of_ble_eq_true rfl) dL_count_4 (fun E ce q9 u H locs hw hP hD hS hc1 hc2 hc3 => ?_) (fun r u H locs hw hP hD hS => ?_)
  · obtain rfl := hE E hw
    refine k_catch1 C htab (by decide) (by decide) tw_992 tw_1002 hc1 hc2 hc3 ?_
    refine lv_astore_n (lv' := [(3, .ref q9), (0, .ref (a 0)), (1, .int p1), (2, .ref qo)]) hx hb dL_count_12 rfl hl (by decide) rfl (fun ls hl => ?_)
    refine lv_iconst (v := 1) hx hb dL_count_13 (by decide) ?_
    exact x_iret C hr hlk hP hD hS fJ rfl (Or.inr (⟨hw, rfl⟩)) (Nat.le_of_ble_eq_true rfl) (Nat.le_of_ble_eq_true rfl) dL_count_14
  · skip
    refine lv_i2l hx hb dL_count_7 rfl ?_
    refine a_last C hP hD hS dL_count_8 (fun H locs hP hD hS => ?_)
    refine lv_goto (tgt := 15) hx hb dL_count_9 (by decide) ?_
    refine lv_iconst (v := 0) hx hb dL_count_15 (by decide) ?_
    exact x_iret C hr hlk hP hD hS (vp_updL fJ 0 (Int32.toInt64 r)) rfl (Or.inl ⟨r, hw, rfl, rfl⟩) (Nat.le_of_ble_eq_true rfl) (Nat.le_of_ble_eq_true rfl) dL_count_16
set_option maxHeartbeats 4000000 in
set_option maxRecDepth 100000 in
theorem wL_lesson (l : Launch) (hst : l.stackTraces = false) (G : kG) (sz : Nat) (b : Nat) (a : Nat → Nat) (fu : Nat) (g : Nat → Nat → Int32) (L : Nat → Nat → Int64) (p1 p2 : Int32) (qo : Nat) (fJ : Nat → Int64) (res : Except String Int32) (s9 : zS) (h : fX11_lesson_0 fu p1 p2 g L = some (res, s9)) (hE : ∀ E, res = .error E → E = "java/util/NoSuchElementException") : kMH l yL_lesson cL_lesson 5 (some .int) [(0, 10, 13, 18)] { frames := 8, cells := 2, slots := 12, locals := 154 } G [.ref (a 0), .int p1, .int p2, .ref qo] (zw G (XS b) 105 a g L ++ [(qo, .inl (G.2.2.2.2.1, 1, .inr (.inl fJ)))]) sz (kQi G (S := Nat → Int64) (fun r u => (∃ v, res = .ok v ∧ r = 0 ∧ u 0 = (Int32.toInt64 v)) ∨ (res = .error "java/util/NoSuchElementException" ∧ r = 1)) (fun u => zw G (XS b) 105 a s9.1 s9.2 ++ [(qo, .inl (G.2.2.2.2.1, 1, .inr (.inl u)))])) := by
  refine kMH.of (by decide) (Nat.le_of_ble_eq_true rfl) ?_
  intro p e s m below meth c A ls H C hr hlk htab hP hD hS hl
  have C : kC G p s m c cL_lesson 5 RL A := C
  have hx := C.1
  have hb := C.2.1
  have hl : lv_has ls 5 [(0, .ref (a 0)), (1, .int p1), (2, .int p2), (3, .ref qo)] := hl
  refine lv_aload_n hx hb dL_lesson_0 rfl (lv_at hl 3 rfl) ?_
  refine lv_iconst (v := 0) hx hb dL_lesson_1 (by decide) ?_
  refine lv_aload_n hx hb dL_lesson_2 rfl (lv_at hl 0 rfl) ?_
  refine lv_iload_n hx hb dL_lesson_3 rfl (lv_at hl 1 rfl) ?_
  refine lv_iload_n hx hb dL_lesson_4 rfl (lv_at hl 2 rfl) ?_
  refine a_xcallVi (rest := [.int 0, .ref qo]) li_L_20 C (rX11_lesson_0 l hst G H.size b a fu g L p1 p2 res s9 h) (kR rfl) hP hD hS 0 11 rfl (zat (by decide) xs_0) rfl hl.1 rfl (Nat.le_of_ble_eq_true rfl) dL_lesson_5 (fun E ce q9 u H locs hw hP hD hS hc1 hc2 hc3 => ?_) (fun r u H locs hw hP hD hS => ?_)
  · obtain rfl := hE E hw
    refine k_catch1 C htab (by decide) (by decide) tw_992 tw_1002 hc1 hc2 hc3 ?_
    refine lv_astore (lv' := [(4, .ref q9), (0, .ref (a 0)), (1, .int p1), (2, .int p2), (3, .ref qo)]) hx hb dL_lesson_13 hl (by decide) rfl (fun ls hl => ?_)
    refine lv_iconst (v := 1) hx hb dL_lesson_15 (by decide) ?_
    exact x_iret C hr hlk hP hD hS fJ rfl (Or.inr (⟨hw, rfl⟩)) (Nat.le_of_ble_eq_true rfl) (Nat.le_of_ble_eq_true rfl) dL_lesson_16
  · skip
    refine lv_i2l hx hb dL_lesson_8 rfl ?_
    refine a_last C hP hD hS dL_lesson_9 (fun H locs hP hD hS => ?_)
    refine lv_goto (tgt := 17) hx hb dL_lesson_10 (by decide) ?_
    refine lv_iconst (v := 0) hx hb dL_lesson_17 (by decide) ?_
    exact x_iret C hr hlk hP hD hS (vp_updL fJ 0 (Int32.toInt64 r)) rfl (Or.inl ⟨r, hw, rfl, rfl⟩) (Nat.le_of_ble_eq_true rfl) (Nat.le_of_ble_eq_true rfl) dL_lesson_18
set_option maxHeartbeats 4000000 in
set_option maxRecDepth 100000 in
theorem wL_day (l : Launch) (hst : l.stackTraces = false) (G : kG) (sz : Nat) (b : Nat) (a : Nat → Nat) (fu : Nat) (g : Nat → Nat → Int32) (L : Nat → Nat → Int64) (p1 p2 : Int32) (qo : Nat) (fJ : Nat → Int64) (res : Except String Int32) (s9 : zS) (h : fX11_day_0 fu p1 p2 g L = some (res, s9)) (hE : ∀ E, res = .error E → E = "java/util/NoSuchElementException") : kMH l yL_day cL_day 5 (some .int) [(0, 10, 13, 18)] { frames := 12, cells := 2, slots := 12, locals := 247 } G [.ref (a 0), .int p1, .int p2, .ref qo] (zw G (XS b) 105 a g L ++ [(qo, .inl (G.2.2.2.2.1, 1, .inr (.inl fJ)))]) sz (kQi G (S := Nat → Int64) (fun r u => (∃ v, res = .ok v ∧ r = 0 ∧ u 0 = (Int32.toInt64 v)) ∨ (res = .error "java/util/NoSuchElementException" ∧ r = 1)) (fun u => zw G (XS b) 105 a s9.1 s9.2 ++ [(qo, .inl (G.2.2.2.2.1, 1, .inr (.inl u)))])) := by
  refine kMH.of (by decide) (Nat.le_of_ble_eq_true rfl) ?_
  intro p e s m below meth c A ls H C hr hlk htab hP hD hS hl
  have C : kC G p s m c cL_day 5 RL A := C
  have hx := C.1
  have hb := C.2.1
  have hl : lv_has ls 5 [(0, .ref (a 0)), (1, .int p1), (2, .int p2), (3, .ref qo)] := hl
  refine lv_aload_n hx hb dL_day_0 rfl (lv_at hl 3 rfl) ?_
  refine lv_iconst (v := 0) hx hb dL_day_1 (by decide) ?_
  refine lv_aload_n hx hb dL_day_2 rfl (lv_at hl 0 rfl) ?_
  refine lv_iload_n hx hb dL_day_3 rfl (lv_at hl 1 rfl) ?_
  refine lv_iload_n hx hb dL_day_4 rfl (lv_at hl 2 rfl) ?_
  refine a_xcallVi (rest := [.int 0, .ref qo]) li_L_24 C (rX11_day_0 l hst G H.size b a fu g L p1 p2 res s9 h) (kR rfl) hP hD hS 0 11 rfl (zat (by decide) xs_0) rfl hl.1 rfl (Nat.le_of_ble_eq_true rfl) dL_day_5 (fun E ce q9 u H locs hw hP hD hS hc1 hc2 hc3 => ?_) (fun r u H locs hw hP hD hS => ?_)
  · obtain rfl := hE E hw
    refine k_catch1 C htab (by decide) (by decide) tw_992 tw_1002 hc1 hc2 hc3 ?_
    refine lv_astore (lv' := [(4, .ref q9), (0, .ref (a 0)), (1, .int p1), (2, .int p2), (3, .ref qo)]) hx hb dL_day_13 hl (by decide) rfl (fun ls hl => ?_)
    refine lv_iconst (v := 1) hx hb dL_day_15 (by decide) ?_
    exact x_iret C hr hlk hP hD hS fJ rfl (Or.inr (⟨hw, rfl⟩)) (Nat.le_of_ble_eq_true rfl) (Nat.le_of_ble_eq_true rfl) dL_day_16
  · skip
    refine lv_i2l hx hb dL_day_8 rfl ?_
    refine a_last C hP hD hS dL_day_9 (fun H locs hP hD hS => ?_)
    refine lv_goto (tgt := 17) hx hb dL_day_10 (by decide) ?_
    refine lv_iconst (v := 0) hx hb dL_day_17 (by decide) ?_
    exact x_iret C hr hlk hP hD hS (vp_updL fJ 0 (Int32.toInt64 r)) rfl (Or.inl ⟨r, hw, rfl, rfl⟩) (Nat.le_of_ble_eq_true rfl) (Nat.le_of_ble_eq_true rfl) dL_day_18
set_option maxHeartbeats 4000000 in
set_option maxRecDepth 100000 in
theorem wL_chain (l : Launch) (hst : l.stackTraces = false) (G : kG) (sz : Nat) (b : Nat) (a : Nat → Nat) (fu : Nat) (g : Nat → Nat → Int32) (L : Nat → Nat → Int64) (p1 p2 : Int32) (qo : Nat) (fJ : Nat → Int64) (res : Except String Int32) (s9 : zS) (h : fX11_chain_0 fu p1 p2 g L = some (res, s9)) (hE : ∀ E, res = .error E → E = "java/util/NoSuchElementException") : kMH l yL_chain cL_chain 5 (some .int) [(0, 10, 13, 18)] { frames := 12, cells := 2, slots := 12, locals := 249 } G [.ref (a 0), .int p1, .int p2, .ref qo] (zw G (XS b) 105 a g L ++ [(qo, .inl (G.2.2.2.2.1, 1, .inr (.inl fJ)))]) sz (kQi G (S := Nat → Int64) (fun r u => (∃ v, res = .ok v ∧ r = 0 ∧ u 0 = (Int32.toInt64 v)) ∨ (res = .error "java/util/NoSuchElementException" ∧ r = 1)) (fun u => zw G (XS b) 105 a s9.1 s9.2 ++ [(qo, .inl (G.2.2.2.2.1, 1, .inr (.inl u)))])) := by
  refine kMH.of (by decide) (Nat.le_of_ble_eq_true rfl) ?_
  intro p e s m below meth c A ls H C hr hlk htab hP hD hS hl
  have C : kC G p s m c cL_chain 5 RL A := C
  have hx := C.1
  have hb := C.2.1
  have hl : lv_has ls 5 [(0, .ref (a 0)), (1, .int p1), (2, .int p2), (3, .ref qo)] := hl
  refine lv_aload_n hx hb dL_chain_0 rfl (lv_at hl 3 rfl) ?_
  refine lv_iconst (v := 0) hx hb dL_chain_1 (by decide) ?_
  refine lv_aload_n hx hb dL_chain_2 rfl (lv_at hl 0 rfl) ?_
  refine lv_iload_n hx hb dL_chain_3 rfl (lv_at hl 1 rfl) ?_
  refine lv_iload_n hx hb dL_chain_4 rfl (lv_at hl 2 rfl) ?_
  refine a_xcallVi (rest := [.int 0, .ref qo]) li_L_27 C (rX11_chain_0 l hst G H.size b a fu g L p1 p2 res s9 h) (kR rfl) hP hD hS 0 11 rfl (zat (by decide) xs_0) rfl hl.1 rfl (Nat.le_of_ble_eq_true rfl) dL_chain_5 (fun E ce q9 u H locs hw hP hD hS hc1 hc2 hc3 => ?_) (fun r u H locs hw hP hD hS => ?_)
  · obtain rfl := hE E hw
    refine k_catch1 C htab (by decide) (by decide) tw_992 tw_1002 hc1 hc2 hc3 ?_
    refine lv_astore (lv' := [(4, .ref q9), (0, .ref (a 0)), (1, .int p1), (2, .int p2), (3, .ref qo)]) hx hb dL_chain_13 hl (by decide) rfl (fun ls hl => ?_)
    refine lv_iconst (v := 1) hx hb dL_chain_15 (by decide) ?_
    exact x_iret C hr hlk hP hD hS fJ rfl (Or.inr (⟨hw, rfl⟩)) (Nat.le_of_ble_eq_true rfl) (Nat.le_of_ble_eq_true rfl) dL_chain_16
  · skip
    refine lv_i2l hx hb dL_chain_8 rfl ?_
    refine a_last C hP hD hS dL_chain_9 (fun H locs hP hD hS => ?_)
    refine lv_goto (tgt := 17) hx hb dL_chain_10 (by decide) ?_
    refine lv_iconst (v := 0) hx hb dL_chain_17 (by decide) ?_
    exact x_iret C hr hlk hP hD hS (vp_updL fJ 0 (Int32.toInt64 r)) rfl (Or.inl ⟨r, hw, rfl, rfl⟩) (Nat.le_of_ble_eq_true rfl) (Nat.le_of_ble_eq_true rfl) dL_chain_18
set_option maxHeartbeats 4000000 in
set_option maxRecDepth 100000 in
theorem wL_become (l : Launch) (hst : l.stackTraces = false) (G : kG) (sz : Nat) (b : Nat) (a : Nat → Nat) (fu : Nat) (g : Nat → Nat → Int32) (L : Nat → Nat → Int64) (p1 p2 p3 : Int32) (qo : Nat) (fJ : Nat → Int64) (res : Except String Int32) (s9 : zS) (h : fX11_become_0 fu p1 p2 p3 g L = some (res, s9)) (hE : ∀ E, res = .error E → E = "java/util/NoSuchElementException") : kMH l yL_become cL_become 6 (some .int) [(0, 12, 15, 18)] { frames := 9, cells := 2, slots := 12, locals := 178 } G [.ref (a 0), .int p1, .int p2, .int p3, .ref qo] (zw G (XS b) 105 a g L ++ [(qo, .inl (G.2.2.2.2.1, 1, .inr (.inl fJ)))]) sz (kQi G (S := Nat → Int64) (fun r u => (∃ v, res = .ok v ∧ r = 0 ∧ u 0 = (Int32.toInt64 v)) ∨ (res = .error "java/util/NoSuchElementException" ∧ r = 1)) (fun u => zw G (XS b) 105 a s9.1 s9.2 ++ [(qo, .inl (G.2.2.2.2.1, 1, .inr (.inl u)))])) := by
  refine kMH.of (by decide) (Nat.le_of_ble_eq_true rfl) ?_
  intro p e s m below meth c A ls H C hr hlk htab hP hD hS hl
  have C : kC G p s m c cL_become 6 RL A := C
  have hx := C.1
  have hb := C.2.1
  have hl : lv_has ls 6 [(0, .ref (a 0)), (1, .int p1), (2, .int p2), (3, .int p3), (4, .ref qo)] := hl
  refine lv_aload hx hb dL_become_0 (lv_at hl 4 rfl) ?_
  refine lv_iconst (v := 0) hx hb dL_become_2 (by decide) ?_
  refine lv_aload_n hx hb dL_become_3 rfl (lv_at hl 0 rfl) ?_
  refine lv_iload_n hx hb dL_become_4 rfl (lv_at hl 1 rfl) ?_
  refine lv_iload_n hx hb dL_become_5 rfl (lv_at hl 2 rfl) ?_
  refine lv_iload_n hx hb dL_become_6 rfl (lv_at hl 3 rfl) ?_
  refine a_xcallVi (rest := [.int 0, .ref qo]) li_L_30 C (rX11_become_0 l hst G H.size b a fu g L p1 p2 p3 res s9 h) (kR rfl) hP hD hS 0 11 rfl (zat (by decide) xs_0) rfl hl.1 rfl (Nat.le_of_ble_eq_true rfl) dL_become_7 (fun E ce q9 u H locs hw hP hD hS hc1 hc2 hc3 => ?_) (fun r u H locs hw hP hD hS => ?_)
  · obtain rfl := hE E hw
    refine k_catch1 C htab (by decide) (by decide) tw_992 tw_1002 hc1 hc2 hc3 ?_
    refine lv_astore (lv' := [(5, .ref q9), (0, .ref (a 0)), (1, .int p1), (2, .int p2), (3, .int p3), (4, .ref qo)]) hx hb dL_become_15 hl (by decide) rfl (fun ls hl => ?_)
    refine lv_iconst (v := 1) hx hb dL_become_17 (by decide) ?_
    exact x_iret C hr hlk hP hD hS fJ rfl (Or.inr (⟨hw, rfl⟩)) (Nat.le_of_ble_eq_true rfl) (Nat.le_of_ble_eq_true rfl) dL_become_18
  · skip
    refine lv_i2l hx hb dL_become_10 rfl ?_
    refine a_last C hP hD hS dL_become_11 (fun H locs hP hD hS => ?_)
    refine lv_goto (tgt := 19) hx hb dL_become_12 (by decide) ?_
    refine lv_iconst (v := 0) hx hb dL_become_19 (by decide) ?_
    exact x_iret C hr hlk hP hD hS (vp_updL fJ 0 (Int32.toInt64 r)) rfl (Or.inl ⟨r, hw, rfl, rfl⟩) (Nat.le_of_ble_eq_true rfl) (Nat.le_of_ble_eq_true rfl) dL_become_20
set_option maxHeartbeats 4000000 in
set_option maxRecDepth 100000 in
theorem wL_far (l : Launch) (hst : l.stackTraces = false) (G : kG) (sz : Nat) (b : Nat) (a : Nat → Nat) (fu : Nat) (g : Nat → Nat → Int32) (L : Nat → Nat → Int64) (p1 p2 p3 : Int32) (qo : Nat) (fJ : Nat → Int64) (res : Except String Int32) (s9 : zS) (h : fX11_far_0 fu p1 p2 p3 g L = some (res, s9)) (hE : ∀ E, res = .error E → E = "java/util/NoSuchElementException" ∨ E = "java/lang/IllegalArgumentException") : kMH l yL_far cL_far 6 (some .int) [(0, 12, 15, 18), (0, 12, 19, 13)] { frames := 13, cells := 3, slots := 18, locals := 271 } G [.ref (a 0), .int p1, .int p2, .int p3, .ref qo] (zw G (XS b) 105 a g L ++ [(qo, .inl (G.2.2.2.2.1, 1, .inr (.inl fJ)))]) sz (kQi G (S := Nat → Int64) (fun r u => (∃ v, res = .ok v ∧ r = 0 ∧ u 0 = (Int32.toInt64 v)) ∨ (res = .error "java/util/NoSuchElementException" ∧ r = 1) ∨ (res = .error "java/lang/IllegalArgumentException" ∧ r = 2)) (fun u => zw G (XS b) 105 a s9.1 s9.2 ++ [(qo, .inl (G.2.2.2.2.1, 1, .inr (.inl u)))])) := by
  refine kMH.of (by decide) (Nat.le_of_ble_eq_true rfl) ?_
  intro p e s m below meth c A ls H C hr hlk htab hP hD hS hl
  have C : kC G p s m c cL_far 6 RL A := C
  have hx := C.1
  have hb := C.2.1
  have hl : lv_has ls 6 [(0, .ref (a 0)), (1, .int p1), (2, .int p2), (3, .int p3), (4, .ref qo)] := hl
  refine lv_aload hx hb dL_far_0 (lv_at hl 4 rfl) ?_
  refine lv_iconst (v := 0) hx hb dL_far_2 (by decide) ?_
  refine lv_aload_n hx hb dL_far_3 rfl (lv_at hl 0 rfl) ?_
  refine lv_iload_n hx hb dL_far_4 rfl (lv_at hl 1 rfl) ?_
  refine lv_iload_n hx hb dL_far_5 rfl (lv_at hl 2 rfl) ?_
  refine lv_iload_n hx hb dL_far_6 rfl (lv_at hl 3 rfl) ?_
  refine a_xcallVi (rest := [.int 0, .ref qo]) li_L_34 C (rX11_far_0 l hst G H.size b a fu g L p1 p2 p3 res s9 h) (kR rfl) hP hD hS 0 11 rfl (zat (by decide) xs_0) rfl hl.1 rfl (Nat.le_of_ble_eq_true rfl) dL_far_7 (fun E ce q9 u H locs hw hP hD hS hc1 hc2 hc3 => ?_) (fun r u H locs hw hP hD hS => ?_)
  · rcases hE E hw with rfl | rfl
    · refine k_catch1 C htab (by decide) (by decide) tw_992 tw_1002 hc1 hc2 hc3 ?_
      refine lv_astore (lv' := [(5, .ref q9), (0, .ref (a 0)), (1, .int p1), (2, .int p2), (3, .int p3), (4, .ref qo)]) hx hb dL_far_15 hl (by decide) rfl (fun ls hl => ?_)
      refine lv_iconst (v := 1) hx hb dL_far_17 (by decide) ?_
      exact x_iret C hr hlk hP hD hS fJ rfl (Or.inr (Or.inl ⟨hw, rfl⟩)) (Nat.le_of_ble_eq_true rfl) (Nat.le_of_ble_eq_true rfl) dL_far_18
    · refine k_catch2 C htab (by decide) tw_992 (by decide) (by decide) tw_732 tw_739 hc1 hc2 hc3 ?_
      refine lv_astore (lv' := [(5, .ref q9), (0, .ref (a 0)), (1, .int p1), (2, .int p2), (3, .int p3), (4, .ref qo)]) hx hb dL_far_19 hl (by decide) rfl (fun ls hl => ?_)
      refine lv_iconst (v := 2) hx hb dL_far_21 (by decide) ?_
      exact x_iret C hr hlk hP hD hS fJ rfl (Or.inr (Or.inr ⟨hw, rfl⟩)) (Nat.le_of_ble_eq_true rfl) (Nat.le_of_ble_eq_true rfl) dL_far_22
  · skip
    refine lv_i2l hx hb dL_far_10 rfl ?_
    refine a_last C hP hD hS dL_far_11 (fun H locs hP hD hS => ?_)
    refine lv_goto (tgt := 23) hx hb dL_far_12 (by decide) ?_
    refine lv_iconst (v := 0) hx hb dL_far_23 (by decide) ?_
    exact x_iret C hr hlk hP hD hS (vp_updL fJ 0 (Int32.toInt64 r)) rfl (Or.inl ⟨r, hw, rfl, rfl⟩) (Nat.le_of_ble_eq_true rfl) (Nat.le_of_ble_eq_true rfl) dL_far_24
set_option maxHeartbeats 4000000 in
set_option maxRecDepth 100000 in
theorem wL_reaches (l : Launch) (hst : l.stackTraces = false) (G : kG) (sz : Nat) (b : Nat) (a : Nat → Nat) (fu : Nat) (g : Nat → Nat → Int32) (L : Nat → Nat → Int64) (p1 p2 : Int32) (qo : Nat) (fJ : Nat → Int64) (res : Except String Int32) (s9 : zS) (h : fX11_reaches_0 fu p1 p2 g L = some (res, s9)) (hE : ∀ E, res = .error E → E = "java/util/NoSuchElementException" ∨ E = "java/lang/IllegalArgumentException") : kMH l yL_reaches cL_reaches 5 (some .int) [(0, 10, 13, 18), (0, 10, 17, 13)] { frames := 14, cells := 3, slots := 18, locals := 293 } G [.ref (a 0), .int p1, .int p2, .ref qo] (zw G (XS b) 105 a g L ++ [(qo, .inl (G.2.2.2.2.1, 1, .inr (.inl fJ)))]) sz (kQi G (S := Nat → Int64) (fun r u => (∃ v, res = .ok v ∧ r = 0 ∧ u 0 = (Int32.toInt64 v)) ∨ (res = .error "java/util/NoSuchElementException" ∧ r = 1) ∨ (res = .error "java/lang/IllegalArgumentException" ∧ r = 2)) (fun u => zw G (XS b) 105 a s9.1 s9.2 ++ [(qo, .inl (G.2.2.2.2.1, 1, .inr (.inl u)))])) := by
  refine kMH.of (by decide) (Nat.le_of_ble_eq_true rfl) ?_
  intro p e s m below meth c A ls H C hr hlk htab hP hD hS hl
  have C : kC G p s m c cL_reaches 5 RL A := C
  have hx := C.1
  have hb := C.2.1
  have hl : lv_has ls 5 [(0, .ref (a 0)), (1, .int p1), (2, .int p2), (3, .ref qo)] := hl
  refine lv_aload_n hx hb dL_reaches_0 rfl (lv_at hl 3 rfl) ?_
  refine lv_iconst (v := 0) hx hb dL_reaches_1 (by decide) ?_
  refine lv_aload_n hx hb dL_reaches_2 rfl (lv_at hl 0 rfl) ?_
  refine lv_iload_n hx hb dL_reaches_3 rfl (lv_at hl 1 rfl) ?_
  refine lv_iload_n hx hb dL_reaches_4 rfl (lv_at hl 2 rfl) ?_
  refine a_xcallVi (rest := [.int 0, .ref qo]) li_L_37 C (rX11_reaches_0 l hst G H.size b a fu g L p1 p2 res s9 h) (kR rfl) hP hD hS 0 11 rfl (zat (by decide) xs_0) rfl hl.1 rfl (Nat.le_of_ble_eq_true rfl) dL_reaches_5 (fun E ce q9 u H locs hw hP hD hS hc1 hc2 hc3 => ?_) (fun r u H locs hw hP hD hS => ?_)
  · rcases hE E hw with rfl | rfl
    · refine k_catch1 C htab (by decide) (by decide) tw_992 tw_1002 hc1 hc2 hc3 ?_
      refine lv_astore (lv' := [(4, .ref q9), (0, .ref (a 0)), (1, .int p1), (2, .int p2), (3, .ref qo)]) hx hb dL_reaches_13 hl (by decide) rfl (fun ls hl => ?_)
      refine lv_iconst (v := 1) hx hb dL_reaches_15 (by decide) ?_
      exact x_iret C hr hlk hP hD hS fJ rfl (Or.inr (Or.inl ⟨hw, rfl⟩)) (Nat.le_of_ble_eq_true rfl) (Nat.le_of_ble_eq_true rfl) dL_reaches_16
    · refine k_catch2 C htab (by decide) tw_992 (by decide) (by decide) tw_732 tw_739 hc1 hc2 hc3 ?_
      refine lv_astore (lv' := [(4, .ref q9), (0, .ref (a 0)), (1, .int p1), (2, .int p2), (3, .ref qo)]) hx hb dL_reaches_17 hl (by decide) rfl (fun ls hl => ?_)
      refine lv_iconst (v := 2) hx hb dL_reaches_19 (by decide) ?_
      exact x_iret C hr hlk hP hD hS fJ rfl (Or.inr (Or.inr ⟨hw, rfl⟩)) (Nat.le_of_ble_eq_true rfl) (Nat.le_of_ble_eq_true rfl) dL_reaches_20
  · skip
    refine lv_i2l hx hb dL_reaches_8 rfl ?_
    refine a_last C hP hD hS dL_reaches_9 (fun H locs hP hD hS => ?_)
    refine lv_goto (tgt := 21) hx hb dL_reaches_10 (by decide) ?_
    refine lv_iconst (v := 0) hx hb dL_reaches_21 (by decide) ?_
    exact x_iret C hr hlk hP hD hS (vp_updL fJ 0 (Int32.toInt64 r)) rfl (Or.inl ⟨r, hw, rfl, rfl⟩) (Nat.le_of_ble_eq_true rfl) (Nat.le_of_ble_eq_true rfl) dL_reaches_22
set_option maxHeartbeats 4000000 in
set_option maxRecDepth 100000 in
theorem wL_slack (l : Launch) (hst : l.stackTraces = false) (G : kG) (sz : Nat) (b : Nat) (a : Nat → Nat) (fu : Nat) (g : Nat → Nat → Int32) (L : Nat → Nat → Int64) (p1 : Int32) (qo : Nat) (fJ : Nat → Int64) (res : Except String Int32) (s9 : zS) (h : fX11_slack_0 fu p1 g L = some (res, s9)) (hE : ∀ E, res = .error E → E = "java/util/NoSuchElementException") : kMH l yL_slack cL_slack 4 (some .int) [(0, 9, 12, 18)] { frames := 14, cells := 1, slots := 6, locals := 291 } G [.ref (a 0), .int p1, .ref qo] (zw G (XS b) 105 a g L ++ [(qo, .inl (G.2.2.2.2.1, 1, .inr (.inl fJ)))]) sz (kQi G (S := Nat → Int64) (fun r u => (∃ v, res = .ok v ∧ r = 0 ∧ u 0 = (Int32.toInt64 v)) ∨ (res = .error "java/util/NoSuchElementException" ∧ r = 1)) (fun u => zw G (XS b) 105 a s9.1 s9.2 ++ [(qo, .inl (G.2.2.2.2.1, 1, .inr (.inl u)))])) := by
  refine kMH.of (by decide) (Nat.le_of_ble_eq_true rfl) ?_
  intro p e s m below meth c A ls H C hr hlk htab hP hD hS hl
  have C : kC G p s m c cL_slack 4 RL A := C
  have hx := C.1
  have hb := C.2.1
  have hl : lv_has ls 4 [(0, .ref (a 0)), (1, .int p1), (2, .ref qo)] := hl
  refine lv_aload_n hx hb dL_slack_0 rfl (lv_at hl 2 rfl) ?_
  refine lv_iconst (v := 0) hx hb dL_slack_1 (by decide) ?_
  refine lv_aload_n hx hb dL_slack_2 rfl (lv_at hl 0 rfl) ?_
  refine lv_iload_n hx hb dL_slack_3 rfl (lv_at hl 1 rfl) ?_
  refine a_xcallVi (rest := [.int 0, .ref qo]) li_L_40 C (rX11_slack_0 l hst G H.size b a fu g L p1 res s9 h) (kR rfl) hP hD hS 0 11 rfl (zat (by decide) xs_0) rfl hl.1 rfl (Nat.le_of_ble_eq_true rfl) dL_slack_4 (fun E ce q9 u H locs hw hP hD hS hc1 hc2 hc3 => ?_) (fun r u H locs hw hP hD hS => ?_)
  · obtain rfl := hE E hw
    refine k_catch1 C htab (by decide) (by decide) tw_992 tw_1002 hc1 hc2 hc3 ?_
    refine lv_astore_n (lv' := [(3, .ref q9), (0, .ref (a 0)), (1, .int p1), (2, .ref qo)]) hx hb dL_slack_12 rfl hl (by decide) rfl (fun ls hl => ?_)
    refine lv_iconst (v := 1) hx hb dL_slack_13 (by decide) ?_
    exact x_iret C hr hlk hP hD hS fJ rfl (Or.inr (⟨hw, rfl⟩)) (Nat.le_of_ble_eq_true rfl) (Nat.le_of_ble_eq_true rfl) dL_slack_14
  · skip
    refine lv_i2l hx hb dL_slack_7 rfl ?_
    refine a_last C hP hD hS dL_slack_8 (fun H locs hP hD hS => ?_)
    refine lv_goto (tgt := 15) hx hb dL_slack_9 (by decide) ?_
    refine lv_iconst (v := 0) hx hb dL_slack_15 (by decide) ?_
    exact x_iret C hr hlk hP hD hS (vp_updL fJ 0 (Int32.toInt64 r)) rfl (Or.inl ⟨r, hw, rfl, rfl⟩) (Nat.le_of_ble_eq_true rfl) (Nat.le_of_ble_eq_true rfl) dL_slack_16
set_option maxHeartbeats 4000000 in
set_option maxRecDepth 100000 in
theorem wL_gaps (l : Launch) (hst : l.stackTraces = false) (G : kG) (sz : Nat) (b : Nat) (a : Nat → Nat) (fu : Nat) (g : Nat → Nat → Int32) (L : Nat → Nat → Int64) (p1 p2 p3 : Int32) (qo : Nat) (fJ : Nat → Int64) (res : Except String Int32) (s9 : zS) (h : fX11_gaps_0 fu p1 p2 p3 g L = some (res, s9)) (hE : ∀ E, res = .error E → E = "java/util/NoSuchElementException" ∨ E = "java/lang/IllegalArgumentException") : kMH l yL_gaps cL_gaps 6 (some .int) [(0, 12, 15, 18), (0, 12, 19, 13)] { frames := 38, cells := 3, slots := 18, locals := 849 } G [.ref (a 0), .int p1, .int p2, .int p3, .ref qo] (zw G (XS b) 105 a g L ++ [(qo, .inl (G.2.2.2.2.1, 1, .inr (.inl fJ)))]) sz (kQi G (S := Nat → Int64) (fun r u => (∃ v, res = .ok v ∧ r = 0 ∧ u 0 = (Int32.toInt64 v)) ∨ (res = .error "java/util/NoSuchElementException" ∧ r = 1) ∨ (res = .error "java/lang/IllegalArgumentException" ∧ r = 2)) (fun u => zw G (XS b) 105 a s9.1 s9.2 ++ [(qo, .inl (G.2.2.2.2.1, 1, .inr (.inl u)))])) := by
  refine kMH.of (by decide) (Nat.le_of_ble_eq_true rfl) ?_
  intro p e s m below meth c A ls H C hr hlk htab hP hD hS hl
  have C : kC G p s m c cL_gaps 6 RL A := C
  have hx := C.1
  have hb := C.2.1
  have hl : lv_has ls 6 [(0, .ref (a 0)), (1, .int p1), (2, .int p2), (3, .int p3), (4, .ref qo)] := hl
  refine lv_aload hx hb dL_gaps_0 (lv_at hl 4 rfl) ?_
  refine lv_iconst (v := 0) hx hb dL_gaps_2 (by decide) ?_
  refine lv_aload_n hx hb dL_gaps_3 rfl (lv_at hl 0 rfl) ?_
  refine lv_iload_n hx hb dL_gaps_4 rfl (lv_at hl 1 rfl) ?_
  refine lv_iload_n hx hb dL_gaps_5 rfl (lv_at hl 2 rfl) ?_
  refine lv_iload_n hx hb dL_gaps_6 rfl (lv_at hl 3 rfl) ?_
  refine a_xcallVi (rest := [.int 0, .ref qo]) li_L_43 C (rX11_gaps_0 l hst G H.size b a fu g L p1 p2 p3 res s9 h) (kR rfl) hP hD hS 0 11 rfl (zat (by decide) xs_0) rfl hl.1 rfl (Nat.le_of_ble_eq_true rfl) dL_gaps_7 (fun E ce q9 u H locs hw hP hD hS hc1 hc2 hc3 => ?_) (fun r u H locs hw hP hD hS => ?_)
  · rcases hE E hw with rfl | rfl
    · refine k_catch1 C htab (by decide) (by decide) tw_992 tw_1002 hc1 hc2 hc3 ?_
      refine lv_astore (lv' := [(5, .ref q9), (0, .ref (a 0)), (1, .int p1), (2, .int p2), (3, .int p3), (4, .ref qo)]) hx hb dL_gaps_15 hl (by decide) rfl (fun ls hl => ?_)
      refine lv_iconst (v := 1) hx hb dL_gaps_17 (by decide) ?_
      exact x_iret C hr hlk hP hD hS fJ rfl (Or.inr (Or.inl ⟨hw, rfl⟩)) (Nat.le_of_ble_eq_true rfl) (Nat.le_of_ble_eq_true rfl) dL_gaps_18
    · refine k_catch2 C htab (by decide) tw_992 (by decide) (by decide) tw_732 tw_739 hc1 hc2 hc3 ?_
      refine lv_astore (lv' := [(5, .ref q9), (0, .ref (a 0)), (1, .int p1), (2, .int p2), (3, .int p3), (4, .ref qo)]) hx hb dL_gaps_19 hl (by decide) rfl (fun ls hl => ?_)
      refine lv_iconst (v := 2) hx hb dL_gaps_21 (by decide) ?_
      exact x_iret C hr hlk hP hD hS fJ rfl (Or.inr (Or.inr ⟨hw, rfl⟩)) (Nat.le_of_ble_eq_true rfl) (Nat.le_of_ble_eq_true rfl) dL_gaps_22
  · skip
    refine lv_i2l hx hb dL_gaps_10 rfl ?_
    refine a_last C hP hD hS dL_gaps_11 (fun H locs hP hD hS => ?_)
    refine lv_goto (tgt := 23) hx hb dL_gaps_12 (by decide) ?_
    refine lv_iconst (v := 0) hx hb dL_gaps_23 (by decide) ?_
    exact x_iret C hr hlk hP hD hS (vp_updL fJ 0 (Int32.toInt64 r)) rfl (Or.inl ⟨r, hw, rfl, rfl⟩) (Nat.le_of_ble_eq_true rfl) (Nat.le_of_ble_eq_true rfl) dL_gaps_24
set_option maxHeartbeats 4000000 in
set_option maxRecDepth 100000 in
theorem wL_gap (l : Launch) (hst : l.stackTraces = false) (G : kG) (sz : Nat) (b : Nat) (a : Nat → Nat) (fu : Nat) (g : Nat → Nat → Int32) (L : Nat → Nat → Int64) (p1 : Int32) (qo : Nat) (fJ : Nat → Int64) (res : Except String Int32) (s9 : zS) (h : fX11_gap_0 fu p1 g L = some (res, s9)) (hE : ∀ E, res = .error E → E = "java/util/NoSuchElementException") : kMH l yL_gap cL_gap 4 (some .int) [(0, 9, 12, 18)] { frames := 8, cells := 2, slots := 12, locals := 152 } G [.ref (a 0), .int p1, .ref qo] (zw G (XS b) 105 a g L ++ [(qo, .inl (G.2.2.2.2.1, 1, .inr (.inl fJ)))]) sz (kQi G (S := Nat → Int64) (fun r u => (∃ v, res = .ok v ∧ r = 0 ∧ u 0 = (Int32.toInt64 v)) ∨ (res = .error "java/util/NoSuchElementException" ∧ r = 1)) (fun u => zw G (XS b) 105 a s9.1 s9.2 ++ [(qo, .inl (G.2.2.2.2.1, 1, .inr (.inl u)))])) := by
  refine kMH.of (by decide) (Nat.le_of_ble_eq_true rfl) ?_
  intro p e s m below meth c A ls H C hr hlk htab hP hD hS hl
  have C : kC G p s m c cL_gap 4 RL A := C
  have hx := C.1
  have hb := C.2.1
  have hl : lv_has ls 4 [(0, .ref (a 0)), (1, .int p1), (2, .ref qo)] := hl
  refine lv_aload_n hx hb dL_gap_0 rfl (lv_at hl 2 rfl) ?_
  refine lv_iconst (v := 0) hx hb dL_gap_1 (by decide) ?_
  refine lv_aload_n hx hb dL_gap_2 rfl (lv_at hl 0 rfl) ?_
  refine lv_iload_n hx hb dL_gap_3 rfl (lv_at hl 1 rfl) ?_
  refine a_xcallVi (rest := [.int 0, .ref qo]) li_L_46 C (rX11_gap_0 l hst G H.size b a fu g L p1 res s9 h) (kR rfl) hP hD hS 0 11 rfl (zat (by decide) xs_0) rfl hl.1 rfl (Nat.le_of_ble_eq_true rfl) dL_gap_4 (fun E ce q9 u H locs hw hP hD hS hc1 hc2 hc3 => ?_) (fun r u H locs hw hP hD hS => ?_)
  · obtain rfl := hE E hw
    refine k_catch1 C htab (by decide) (by decide) tw_992 tw_1002 hc1 hc2 hc3 ?_
    refine lv_astore_n (lv' := [(3, .ref q9), (0, .ref (a 0)), (1, .int p1), (2, .ref qo)]) hx hb dL_gap_12 rfl hl (by decide) rfl (fun ls hl => ?_)
    refine lv_iconst (v := 1) hx hb dL_gap_13 (by decide) ?_
    exact x_iret C hr hlk hP hD hS fJ rfl (Or.inr (⟨hw, rfl⟩)) (Nat.le_of_ble_eq_true rfl) (Nat.le_of_ble_eq_true rfl) dL_gap_14
  · skip
    refine lv_i2l hx hb dL_gap_7 rfl ?_
    refine a_last C hP hD hS dL_gap_8 (fun H locs hP hD hS => ?_)
    refine lv_goto (tgt := 15) hx hb dL_gap_9 (by decide) ?_
    refine lv_iconst (v := 0) hx hb dL_gap_15 (by decide) ?_
    exact x_iret C hr hlk hP hD hS (vp_updL fJ 0 (Int32.toInt64 r)) rfl (Or.inl ⟨r, hw, rfl, rfl⟩) (Nat.le_of_ble_eq_true rfl) (Nat.le_of_ble_eq_true rfl) dL_gap_16
set_option maxHeartbeats 4000000 in
set_option maxRecDepth 100000 in
theorem wL_chance (l : Launch) (hst : l.stackTraces = false) (G : kG) (sz : Nat) (b : Nat) (a : Nat → Nat) (fu : Nat) (g : Nat → Nat → Int32) (L : Nat → Nat → Int64) (p1 p2 p3 : Int32) (qo : Nat) (fJ : Nat → Int64) (res : Except String Int64) (s9 : zS) (h : fX11_chance_0 fu p1 p2 p3 g L = some (res, s9)) (hE : ∀ E, res = .error E → E = "java/util/NoSuchElementException" ∨ E = "java/lang/IllegalArgumentException") : kMH l yL_chance cL_chance 6 (some .int) [(0, 11, 14, 18), (0, 11, 18, 13)] { frames := 13, cells := 3, slots := 18, locals := 273 } G [.ref (a 0), .int p1, .int p2, .int p3, .ref qo] (zw G (XS b) 105 a g L ++ [(qo, .inl (G.2.2.2.2.1, 1, .inr (.inl fJ)))]) sz (kQi G (S := Nat → Int64) (fun r u => (∃ v, res = .ok v ∧ r = 0 ∧ u 0 = v) ∨ (res = .error "java/util/NoSuchElementException" ∧ r = 1) ∨ (res = .error "java/lang/IllegalArgumentException" ∧ r = 2)) (fun u => zw G (XS b) 105 a s9.1 s9.2 ++ [(qo, .inl (G.2.2.2.2.1, 1, .inr (.inl u)))])) := by
  refine kMH.of (by decide) (Nat.le_of_ble_eq_true rfl) ?_
  intro p e s m below meth c A ls H C hr hlk htab hP hD hS hl
  have C : kC G p s m c cL_chance 6 RL A := C
  have hx := C.1
  have hb := C.2.1
  have hl : lv_has ls 6 [(0, .ref (a 0)), (1, .int p1), (2, .int p2), (3, .int p3), (4, .ref qo)] := hl
  refine lv_aload hx hb dL_chance_0 (lv_at hl 4 rfl) ?_
  refine lv_iconst (v := 0) hx hb dL_chance_2 (by decide) ?_
  refine lv_aload_n hx hb dL_chance_3 rfl (lv_at hl 0 rfl) ?_
  refine lv_iload_n hx hb dL_chance_4 rfl (lv_at hl 1 rfl) ?_
  refine lv_iload_n hx hb dL_chance_5 rfl (lv_at hl 2 rfl) ?_
  refine lv_iload_n hx hb dL_chance_6 rfl (lv_at hl 3 rfl) ?_
  refine a_xcallVl (rest := [.int 0, .ref qo]) li_L_49 C (rX11_chance_0 l hst G H.size b a fu g L p1 p2 p3 res s9 h) (kR rfl) hP hD hS 0 11 rfl (zat (by decide) xs_0) rfl hl.1 rfl (Nat.le_of_ble_eq_true rfl) dL_chance_7 (fun E ce q9 u H locs hw hP hD hS hc1 hc2 hc3 => ?_) (fun r u H locs hw hP hD hS => ?_)
  · rcases hE E hw with rfl | rfl
    · refine k_catch1 C htab (by decide) (by decide) tw_992 tw_1002 hc1 hc2 hc3 ?_
      refine lv_astore (lv' := [(5, .ref q9), (0, .ref (a 0)), (1, .int p1), (2, .int p2), (3, .int p3), (4, .ref qo)]) hx hb dL_chance_14 hl (by decide) rfl (fun ls hl => ?_)
      refine lv_iconst (v := 1) hx hb dL_chance_16 (by decide) ?_
      exact x_iret C hr hlk hP hD hS fJ rfl (Or.inr (Or.inl ⟨hw, rfl⟩)) (Nat.le_of_ble_eq_true rfl) (Nat.le_of_ble_eq_true rfl) dL_chance_17
    · refine k_catch2 C htab (by decide) tw_992 (by decide) (by decide) tw_732 tw_739 hc1 hc2 hc3 ?_
      refine lv_astore (lv' := [(5, .ref q9), (0, .ref (a 0)), (1, .int p1), (2, .int p2), (3, .int p3), (4, .ref qo)]) hx hb dL_chance_18 hl (by decide) rfl (fun ls hl => ?_)
      refine lv_iconst (v := 2) hx hb dL_chance_20 (by decide) ?_
      exact x_iret C hr hlk hP hD hS fJ rfl (Or.inr (Or.inr ⟨hw, rfl⟩)) (Nat.le_of_ble_eq_true rfl) (Nat.le_of_ble_eq_true rfl) dL_chance_21
  · skip
    refine a_last C hP hD hS dL_chance_10 (fun H locs hP hD hS => ?_)
    refine lv_goto (tgt := 22) hx hb dL_chance_11 (by decide) ?_
    refine lv_iconst (v := 0) hx hb dL_chance_22 (by decide) ?_
    exact x_iret C hr hlk hP hD hS (vp_updL fJ 0 r) rfl (Or.inl ⟨r, hw, rfl, rfl⟩) (Nat.le_of_ble_eq_true rfl) (Nat.le_of_ble_eq_true rfl) dL_chance_23
set_option maxHeartbeats 4000000 in
set_option maxRecDepth 100000 in
theorem wL_mean (l : Launch) (hst : l.stackTraces = false) (G : kG) (sz : Nat) (b : Nat) (a : Nat → Nat) (fu : Nat) (g : Nat → Nat → Int32) (L : Nat → Nat → Int64) (p1 p2 : Int32) (qo : Nat) (fJ : Nat → Int64) (res : Except String Int64) (s9 : zS) (h : fX11_mean_0 fu p1 p2 g L = some (res, s9)) (hE : ∀ E, res = .error E → E = "java/util/NoSuchElementException") : kMH l yL_mean cL_mean 5 (some .int) [(0, 9, 12, 18)] { frames := 13, cells := 2, slots := 12, locals := 271 } G [.ref (a 0), .int p1, .int p2, .ref qo] (zw G (XS b) 105 a g L ++ [(qo, .inl (G.2.2.2.2.1, 1, .inr (.inl fJ)))]) sz (kQi G (S := Nat → Int64) (fun r u => (∃ v, res = .ok v ∧ r = 0 ∧ u 0 = v) ∨ (res = .error "java/util/NoSuchElementException" ∧ r = 1)) (fun u => zw G (XS b) 105 a s9.1 s9.2 ++ [(qo, .inl (G.2.2.2.2.1, 1, .inr (.inl u)))])) := by
  refine kMH.of (by decide) (Nat.le_of_ble_eq_true rfl) ?_
  intro p e s m below meth c A ls H C hr hlk htab hP hD hS hl
  have C : kC G p s m c cL_mean 5 RL A := C
  have hx := C.1
  have hb := C.2.1
  have hl : lv_has ls 5 [(0, .ref (a 0)), (1, .int p1), (2, .int p2), (3, .ref qo)] := hl
  refine lv_aload_n hx hb dL_mean_0 rfl (lv_at hl 3 rfl) ?_
  refine lv_iconst (v := 0) hx hb dL_mean_1 (by decide) ?_
  refine lv_aload_n hx hb dL_mean_2 rfl (lv_at hl 0 rfl) ?_
  refine lv_iload_n hx hb dL_mean_3 rfl (lv_at hl 1 rfl) ?_
  refine lv_iload_n hx hb dL_mean_4 rfl (lv_at hl 2 rfl) ?_
  refine a_xcallVl (rest := [.int 0, .ref qo]) li_L_53 C (rX11_mean_0 l hst G H.size b a fu g L p1 p2 res s9 h) (kR rfl) hP hD hS 0 11 rfl (zat (by decide) xs_0) rfl hl.1 rfl (Nat.le_of_ble_eq_true rfl) dL_mean_5 (fun E ce q9 u H locs hw hP hD hS hc1 hc2 hc3 => ?_) (fun r u H locs hw hP hD hS => ?_)
  · obtain rfl := hE E hw
    refine k_catch1 C htab (by decide) (by decide) tw_992 tw_1002 hc1 hc2 hc3 ?_
    refine lv_astore (lv' := [(4, .ref q9), (0, .ref (a 0)), (1, .int p1), (2, .int p2), (3, .ref qo)]) hx hb dL_mean_12 hl (by decide) rfl (fun ls hl => ?_)
    refine lv_iconst (v := 1) hx hb dL_mean_14 (by decide) ?_
    exact x_iret C hr hlk hP hD hS fJ rfl (Or.inr (⟨hw, rfl⟩)) (Nat.le_of_ble_eq_true rfl) (Nat.le_of_ble_eq_true rfl) dL_mean_15
  · skip
    refine a_last C hP hD hS dL_mean_8 (fun H locs hP hD hS => ?_)
    refine lv_goto (tgt := 16) hx hb dL_mean_9 (by decide) ?_
    refine lv_iconst (v := 0) hx hb dL_mean_16 (by decide) ?_
    exact x_iret C hr hlk hP hD hS (vp_updL fJ 0 r) rfl (Or.inl ⟨r, hw, rfl, rfl⟩) (Nat.le_of_ble_eq_true rfl) (Nat.le_of_ble_eq_true rfl) dL_mean_17
set_option maxHeartbeats 4000000 in
set_option maxRecDepth 100000 in
theorem wL_swap (l : Launch) (hst : l.stackTraces = false) (G : kG) (sz : Nat) (b : Nat) (a : Nat → Nat) (fu : Nat) (g : Nat → Nat → Int32) (L : Nat → Nat → Int64) (p1 : Int32) (qo : Nat) (fJ : Nat → Int64) (res : Except String Int32) (s9 : zS) (h : fX11_swap_0 fu p1 g L = some (res, s9)) (hE : ∀ E, res = .error E → E = "java/util/NoSuchElementException") : kMH l yL_swap cL_swap 4 (some .int) [(0, 9, 12, 18)] { frames := 13, cells := 1, slots := 6, locals := 270 } G [.ref (a 0), .int p1, .ref qo] (zw G (XS b) 105 a g L ++ [(qo, .inl (G.2.2.2.2.1, 1, .inr (.inl fJ)))]) sz (kQi G (S := Nat → Int64) (fun r u => (∃ v, res = .ok v ∧ r = 0 ∧ u 0 = (Int32.toInt64 v)) ∨ (res = .error "java/util/NoSuchElementException" ∧ r = 1)) (fun u => zw G (XS b) 105 a s9.1 s9.2 ++ [(qo, .inl (G.2.2.2.2.1, 1, .inr (.inl u)))])) := by
  refine kMH.of (by decide) (Nat.le_of_ble_eq_true rfl) ?_
  intro p e s m below meth c A ls H C hr hlk htab hP hD hS hl
  have C : kC G p s m c cL_swap 4 RL A := C
  have hx := C.1
  have hb := C.2.1
  have hl : lv_has ls 4 [(0, .ref (a 0)), (1, .int p1), (2, .ref qo)] := hl
  refine lv_aload_n hx hb dL_swap_0 rfl (lv_at hl 2 rfl) ?_
  refine lv_iconst (v := 0) hx hb dL_swap_1 (by decide) ?_
  refine lv_aload_n hx hb dL_swap_2 rfl (lv_at hl 0 rfl) ?_
  refine lv_iload_n hx hb dL_swap_3 rfl (lv_at hl 1 rfl) ?_
  refine a_xcallVi (rest := [.int 0, .ref qo]) li_L_57 C (rX11_swap_0 l hst G H.size b a fu g L p1 res s9 h) (kR rfl) hP hD hS 0 11 rfl (zat (by decide) xs_0) rfl hl.1 rfl (Nat.le_of_ble_eq_true rfl) dL_swap_4 (fun E ce q9 u H locs hw hP hD hS hc1 hc2 hc3 => ?_) (fun r u H locs hw hP hD hS => ?_)
  · obtain rfl := hE E hw
    refine k_catch1 C htab (by decide) (by decide) tw_992 tw_1002 hc1 hc2 hc3 ?_
    refine lv_astore_n (lv' := [(3, .ref q9), (0, .ref (a 0)), (1, .int p1), (2, .ref qo)]) hx hb dL_swap_12 rfl hl (by decide) rfl (fun ls hl => ?_)
    refine lv_iconst (v := 1) hx hb dL_swap_13 (by decide) ?_
    exact x_iret C hr hlk hP hD hS fJ rfl (Or.inr (⟨hw, rfl⟩)) (Nat.le_of_ble_eq_true rfl) (Nat.le_of_ble_eq_true rfl) dL_swap_14
  · skip
    refine lv_i2l hx hb dL_swap_7 rfl ?_
    refine a_last C hP hD hS dL_swap_8 (fun H locs hP hD hS => ?_)
    refine lv_goto (tgt := 15) hx hb dL_swap_9 (by decide) ?_
    refine lv_iconst (v := 0) hx hb dL_swap_15 (by decide) ?_
    exact x_iret C hr hlk hP hD hS (vp_updL fJ 0 (Int32.toInt64 r)) rfl (Or.inl ⟨r, hw, rfl, rfl⟩) (Nat.le_of_ble_eq_true rfl) (Nat.le_of_ble_eq_true rfl) dL_swap_16
set_option maxHeartbeats 4000000 in
set_option maxRecDepth 100000 in
theorem wL_room (l : Launch) (hst : l.stackTraces = false) (G : kG) (sz : Nat) (b : Nat) (a : Nat → Nat) (fu : Nat) (g : Nat → Nat → Int32) (L : Nat → Nat → Int64) (p1 p2 : Int32) (qo : Nat) (fJ : Nat → Int64) (res : Except String Int32) (s9 : zS) (h : fX11_room_0 fu p1 p2 g L = some (res, s9)) (hE : ∀ E, res = .error E → E = "java/util/NoSuchElementException") : kMH l yL_room cL_room 5 (some .int) [(0, 10, 13, 18)] { frames := 13, cells := 2, slots := 12, locals := 272 } G [.ref (a 0), .int p1, .int p2, .ref qo] (zw G (XS b) 105 a g L ++ [(qo, .inl (G.2.2.2.2.1, 1, .inr (.inl fJ)))]) sz (kQi G (S := Nat → Int64) (fun r u => (∃ v, res = .ok v ∧ r = 0 ∧ u 0 = (Int32.toInt64 v)) ∨ (res = .error "java/util/NoSuchElementException" ∧ r = 1)) (fun u => zw G (XS b) 105 a s9.1 s9.2 ++ [(qo, .inl (G.2.2.2.2.1, 1, .inr (.inl u)))])) := by
  refine kMH.of (by decide) (Nat.le_of_ble_eq_true rfl) ?_
  intro p e s m below meth c A ls H C hr hlk htab hP hD hS hl
  have C : kC G p s m c cL_room 5 RL A := C
  have hx := C.1
  have hb := C.2.1
  have hl : lv_has ls 5 [(0, .ref (a 0)), (1, .int p1), (2, .int p2), (3, .ref qo)] := hl
  refine lv_aload_n hx hb dL_room_0 rfl (lv_at hl 3 rfl) ?_
  refine lv_iconst (v := 0) hx hb dL_room_1 (by decide) ?_
  refine lv_aload_n hx hb dL_room_2 rfl (lv_at hl 0 rfl) ?_
  refine lv_iload_n hx hb dL_room_3 rfl (lv_at hl 1 rfl) ?_
  refine lv_iload_n hx hb dL_room_4 rfl (lv_at hl 2 rfl) ?_
  refine a_xcallVi (rest := [.int 0, .ref qo]) li_L_60 C (rX11_room_0 l hst G H.size b a fu g L p1 p2 res s9 h) (kR rfl) hP hD hS 0 11 rfl (zat (by decide) xs_0) rfl hl.1 rfl (Nat.le_of_ble_eq_true rfl) dL_room_5 (fun E ce q9 u H locs hw hP hD hS hc1 hc2 hc3 => ?_) (fun r u H locs hw hP hD hS => ?_)
  · obtain rfl := hE E hw
    refine k_catch1 C htab (by decide) (by decide) tw_992 tw_1002 hc1 hc2 hc3 ?_
    refine lv_astore (lv' := [(4, .ref q9), (0, .ref (a 0)), (1, .int p1), (2, .int p2), (3, .ref qo)]) hx hb dL_room_13 hl (by decide) rfl (fun ls hl => ?_)
    refine lv_iconst (v := 1) hx hb dL_room_15 (by decide) ?_
    exact x_iret C hr hlk hP hD hS fJ rfl (Or.inr (⟨hw, rfl⟩)) (Nat.le_of_ble_eq_true rfl) (Nat.le_of_ble_eq_true rfl) dL_room_16
  · skip
    refine lv_i2l hx hb dL_room_8 rfl ?_
    refine a_last C hP hD hS dL_room_9 (fun H locs hP hD hS => ?_)
    refine lv_goto (tgt := 17) hx hb dL_room_10 (by decide) ?_
    refine lv_iconst (v := 0) hx hb dL_room_17 (by decide) ?_
    exact x_iret C hr hlk hP hD hS (vp_updL fJ 0 (Int32.toInt64 r)) rfl (Or.inl ⟨r, hw, rfl, rfl⟩) (Nat.le_of_ble_eq_true rfl) (Nat.le_of_ble_eq_true rfl) dL_room_18
set_option maxHeartbeats 4000000 in
set_option maxRecDepth 100000 in
theorem wL_limit (l : Launch) (hst : l.stackTraces = false) (G : kG) (sz : Nat) (b : Nat) (a : Nat → Nat) (fu : Nat) (g : Nat → Nat → Int32) (L : Nat → Nat → Int64) (p1 p2 : Int32) (qo : Nat) (fJ : Nat → Int64) (res : Except String Int32) (s9 : zS) (h : fX11_limit_0 fu p1 p2 g L = some (res, s9)) (hE : ∀ E, res = .error E → E = "java/util/NoSuchElementException") : kMH l yL_limit cL_limit 5 (some .int) [(0, 10, 13, 18)] { frames := 13, cells := 2, slots := 12, locals := 272 } G [.ref (a 0), .int p1, .int p2, .ref qo] (zw G (XS b) 105 a g L ++ [(qo, .inl (G.2.2.2.2.1, 1, .inr (.inl fJ)))]) sz (kQi G (S := Nat → Int64) (fun r u => (∃ v, res = .ok v ∧ r = 0 ∧ u 0 = (Int32.toInt64 v)) ∨ (res = .error "java/util/NoSuchElementException" ∧ r = 1)) (fun u => zw G (XS b) 105 a s9.1 s9.2 ++ [(qo, .inl (G.2.2.2.2.1, 1, .inr (.inl u)))])) := by
  refine kMH.of (by decide) (Nat.le_of_ble_eq_true rfl) ?_
  intro p e s m below meth c A ls H C hr hlk htab hP hD hS hl
  have C : kC G p s m c cL_limit 5 RL A := C
  have hx := C.1
  have hb := C.2.1
  have hl : lv_has ls 5 [(0, .ref (a 0)), (1, .int p1), (2, .int p2), (3, .ref qo)] := hl
  refine lv_aload_n hx hb dL_limit_0 rfl (lv_at hl 3 rfl) ?_
  refine lv_iconst (v := 0) hx hb dL_limit_1 (by decide) ?_
  refine lv_aload_n hx hb dL_limit_2 rfl (lv_at hl 0 rfl) ?_
  refine lv_iload_n hx hb dL_limit_3 rfl (lv_at hl 1 rfl) ?_
  refine lv_iload_n hx hb dL_limit_4 rfl (lv_at hl 2 rfl) ?_
  refine a_xcallVi (rest := [.int 0, .ref qo]) li_L_63 C (rX11_limit_0 l hst G H.size b a fu g L p1 p2 res s9 h) (kR rfl) hP hD hS 0 11 rfl (zat (by decide) xs_0) rfl hl.1 rfl (Nat.le_of_ble_eq_true rfl) dL_limit_5 (fun E ce q9 u H locs hw hP hD hS hc1 hc2 hc3 => ?_) (fun r u H locs hw hP hD hS => ?_)
  · obtain rfl := hE E hw
    refine k_catch1 C htab (by decide) (by decide) tw_992 tw_1002 hc1 hc2 hc3 ?_
    refine lv_astore (lv' := [(4, .ref q9), (0, .ref (a 0)), (1, .int p1), (2, .int p2), (3, .ref qo)]) hx hb dL_limit_13 hl (by decide) rfl (fun ls hl => ?_)
    refine lv_iconst (v := 1) hx hb dL_limit_15 (by decide) ?_
    exact x_iret C hr hlk hP hD hS fJ rfl (Or.inr (⟨hw, rfl⟩)) (Nat.le_of_ble_eq_true rfl) (Nat.le_of_ble_eq_true rfl) dL_limit_16
  · skip
    refine lv_i2l hx hb dL_limit_8 rfl ?_
    refine a_last C hP hD hS dL_limit_9 (fun H locs hP hD hS => ?_)
    refine lv_goto (tgt := 17) hx hb dL_limit_10 (by decide) ?_
    refine lv_iconst (v := 0) hx hb dL_limit_17 (by decide) ?_
    exact x_iret C hr hlk hP hD hS (vp_updL fJ 0 (Int32.toInt64 r)) rfl (Or.inl ⟨r, hw, rfl, rfl⟩) (Nat.le_of_ble_eq_true rfl) (Nat.le_of_ble_eq_true rfl) dL_limit_18
set_option maxHeartbeats 4000000 in
set_option maxRecDepth 100000 in
theorem wL_compare (l : Launch) (hst : l.stackTraces = false) (G : kG) (sz : Nat) (b : Nat) (a : Nat → Nat) (fu : Nat) (g : Nat → Nat → Int32) (L : Nat → Nat → Int64) (p1 : Int32) (qo : Nat) (fJ : Nat → Int64) (res : Except String Int32) (s9 : zS) (h : fX11_compare_0 fu p1 g L = some (res, s9)) (hE : ∀ E, res = .error E → E = "java/util/NoSuchElementException") : kMH l yL_compare cL_compare 4 (some .int) [(0, 9, 12, 18)] { frames := 13, cells := 1, slots := 6, locals := 269 } G [.ref (a 0), .int p1, .ref qo] (zw G (XS b) 105 a g L ++ [(qo, .inl (G.2.2.2.2.1, 1, .inr (.inl fJ)))]) sz (kQi G (S := Nat → Int64) (fun r u => (∃ v, res = .ok v ∧ r = 0 ∧ u 0 = (Int32.toInt64 v)) ∨ (res = .error "java/util/NoSuchElementException" ∧ r = 1)) (fun u => zw G (XS b) 105 a s9.1 s9.2 ++ [(qo, .inl (G.2.2.2.2.1, 1, .inr (.inl u)))])) := by
  refine kMH.of (by decide) (Nat.le_of_ble_eq_true rfl) ?_
  intro p e s m below meth c A ls H C hr hlk htab hP hD hS hl
  have C : kC G p s m c cL_compare 4 RL A := C
  have hx := C.1
  have hb := C.2.1
  have hl : lv_has ls 4 [(0, .ref (a 0)), (1, .int p1), (2, .ref qo)] := hl
  refine lv_aload_n hx hb dL_compare_0 rfl (lv_at hl 2 rfl) ?_
  refine lv_iconst (v := 0) hx hb dL_compare_1 (by decide) ?_
  refine lv_aload_n hx hb dL_compare_2 rfl (lv_at hl 0 rfl) ?_
  refine lv_iload_n hx hb dL_compare_3 rfl (lv_at hl 1 rfl) ?_
  refine a_xcallVi (rest := [.int 0, .ref qo]) li_L_66 C (rX11_compare_0 l hst G H.size b a fu g L p1 res s9 h) (kR rfl) hP hD hS 0 11 rfl (zat (by decide) xs_0) rfl hl.1 rfl (Nat.le_of_ble_eq_true rfl) dL_compare_4 (fun E ce q9 u H locs hw hP hD hS hc1 hc2 hc3 => ?_) (fun r u H locs hw hP hD hS => ?_)
  · obtain rfl := hE E hw
    refine k_catch1 C htab (by decide) (by decide) tw_992 tw_1002 hc1 hc2 hc3 ?_
    refine lv_astore_n (lv' := [(3, .ref q9), (0, .ref (a 0)), (1, .int p1), (2, .ref qo)]) hx hb dL_compare_12 rfl hl (by decide) rfl (fun ls hl => ?_)
    refine lv_iconst (v := 1) hx hb dL_compare_13 (by decide) ?_
    exact x_iret C hr hlk hP hD hS fJ rfl (Or.inr (⟨hw, rfl⟩)) (Nat.le_of_ble_eq_true rfl) (Nat.le_of_ble_eq_true rfl) dL_compare_14
  · skip
    refine lv_i2l hx hb dL_compare_7 rfl ?_
    refine a_last C hP hD hS dL_compare_8 (fun H locs hP hD hS => ?_)
    refine lv_goto (tgt := 15) hx hb dL_compare_9 (by decide) ?_
    refine lv_iconst (v := 0) hx hb dL_compare_15 (by decide) ?_
    exact x_iret C hr hlk hP hD hS (vp_updL fJ 0 (Int32.toInt64 r)) rfl (Or.inl ⟨r, hw, rfl, rfl⟩) (Nat.le_of_ble_eq_true rfl) (Nat.le_of_ble_eq_true rfl) dL_compare_16
set_option maxHeartbeats 4000000 in
set_option maxRecDepth 100000 in
theorem wL_bell (l : Launch) (hst : l.stackTraces = false) (G : kG) (sz : Nat) (b : Nat) (a : Nat → Nat) (fu : Nat) (g : Nat → Nat → Int32) (L : Nat → Nat → Int64) (p1 : Int32) (qo : Nat) (fJ : Nat → Int64) (res : Except String Int32) (s9 : zS) (h : fX11_bell_0 fu p1 g L = some (res, s9)) (hE : ∀ E, res = .error E → E = "java/lang/IllegalArgumentException") : kMH l yL_bell cL_bell 4 (some .int) [(0, 9, 12, 13)] { frames := 13, cells := 1, slots := 6, locals := 269 } G [.ref (a 0), .int p1, .ref qo] (zw G (XS b) 105 a g L ++ [(qo, .inl (G.2.2.2.2.1, 1, .inr (.inl fJ)))]) sz (kQi G (S := Nat → Int64) (fun r u => (∃ v, res = .ok v ∧ r = 0 ∧ u 0 = (Int32.toInt64 v)) ∨ (res = .error "java/lang/IllegalArgumentException" ∧ r = 1)) (fun u => zw G (XS b) 105 a s9.1 s9.2 ++ [(qo, .inl (G.2.2.2.2.1, 1, .inr (.inl u)))])) := by
  refine kMH.of (by decide) (Nat.le_of_ble_eq_true rfl) ?_
  intro p e s m below meth c A ls H C hr hlk htab hP hD hS hl
  have C : kC G p s m c cL_bell 4 RL A := C
  have hx := C.1
  have hb := C.2.1
  have hl : lv_has ls 4 [(0, .ref (a 0)), (1, .int p1), (2, .ref qo)] := hl
  refine lv_aload_n hx hb dL_bell_0 rfl (lv_at hl 2 rfl) ?_
  refine lv_iconst (v := 0) hx hb dL_bell_1 (by decide) ?_
  refine lv_aload_n hx hb dL_bell_2 rfl (lv_at hl 0 rfl) ?_
  refine lv_iload_n hx hb dL_bell_3 rfl (lv_at hl 1 rfl) ?_
  refine a_xcallVi (rest := [.int 0, .ref qo]) li_L_69 C (rX11_bell_0 l hst G H.size b a fu g L p1 res s9 h) (kR rfl) hP hD hS 0 11 rfl (zat (by decide) xs_0) rfl hl.1 rfl (Nat.le_of_ble_eq_true rfl) dL_bell_4 (fun E ce q9 u H locs hw hP hD hS hc1 hc2 hc3 => ?_) (fun r u H locs hw hP hD hS => ?_)
  · obtain rfl := hE E hw
    refine k_catch1 C htab (by decide) (by decide) tw_732 tw_739 hc1 hc2 hc3 ?_
    refine lv_astore_n (lv' := [(3, .ref q9), (0, .ref (a 0)), (1, .int p1), (2, .ref qo)]) hx hb dL_bell_12 rfl hl (by decide) rfl (fun ls hl => ?_)
    refine lv_iconst (v := 1) hx hb dL_bell_13 (by decide) ?_
    exact x_iret C hr hlk hP hD hS fJ rfl (Or.inr (⟨hw, rfl⟩)) (Nat.le_of_ble_eq_true rfl) (Nat.le_of_ble_eq_true rfl) dL_bell_14
  · skip
    refine lv_i2l hx hb dL_bell_7 rfl ?_
    refine a_last C hP hD hS dL_bell_8 (fun H locs hP hD hS => ?_)
    refine lv_goto (tgt := 15) hx hb dL_bell_9 (by decide) ?_
    refine lv_iconst (v := 0) hx hb dL_bell_15 (by decide) ?_
    exact x_iret C hr hlk hP hD hS (vp_updL fJ 0 (Int32.toInt64 r)) rfl (Or.inl ⟨r, hw, rfl, rfl⟩) (Nat.le_of_ble_eq_true rfl) (Nat.le_of_ble_eq_true rfl) dL_bell_16
set_option maxHeartbeats 4000000 in
set_option maxRecDepth 100000 in
theorem wL_see (l : Launch) (hst : l.stackTraces = false) (G : kG) (sz : Nat) (b : Nat) (a : Nat → Nat) (fu : Nat) (g : Nat → Nat → Int32) (L : Nat → Nat → Int64) (p1 p2 : Int32) (qo : Nat) (fJ : Nat → Int64) (res : Except String Int32) (s9 : zS) (h : fX11_see_0 fu p1 p2 g L = some (res, s9)) (hE : ∀ E, res = .error E → E = "java/util/NoSuchElementException") : kMH l yL_see cL_see 5 (some .int) [(0, 10, 13, 18)] { frames := 8, cells := 1, slots := 6, locals := 154 } G [.ref (a 0), .int p1, .int p2, .ref qo] (zw G (XS b) 105 a g L ++ [(qo, .inl (G.2.2.2.2.1, 1, .inr (.inl fJ)))]) sz (kQi G (S := Nat → Int64) (fun r u => (∃ v, res = .ok v ∧ r = 0 ∧ u 0 = (Int32.toInt64 v)) ∨ (res = .error "java/util/NoSuchElementException" ∧ r = 1)) (fun u => zw G (XS b) 105 a s9.1 s9.2 ++ [(qo, .inl (G.2.2.2.2.1, 1, .inr (.inl u)))])) := by
  refine kMH.of (by decide) (Nat.le_of_ble_eq_true rfl) ?_
  intro p e s m below meth c A ls H C hr hlk htab hP hD hS hl
  have C : kC G p s m c cL_see 5 RL A := C
  have hx := C.1
  have hb := C.2.1
  have hl : lv_has ls 5 [(0, .ref (a 0)), (1, .int p1), (2, .int p2), (3, .ref qo)] := hl
  refine lv_aload_n hx hb dL_see_0 rfl (lv_at hl 3 rfl) ?_
  refine lv_iconst (v := 0) hx hb dL_see_1 (by decide) ?_
  refine lv_aload_n hx hb dL_see_2 rfl (lv_at hl 0 rfl) ?_
  refine lv_iload_n hx hb dL_see_3 rfl (lv_at hl 1 rfl) ?_
  refine lv_iload_n hx hb dL_see_4 rfl (lv_at hl 2 rfl) ?_
  refine a_xcallVi (rest := [.int 0, .ref qo]) li_L_72 C (rX11_see_0 l hst G H.size b a fu g L p1 p2 res s9 h) (kR rfl) hP hD hS 0 11 rfl (zat (by decide) xs_0) rfl hl.1 rfl (Nat.le_of_ble_eq_true rfl) dL_see_5 (fun E ce q9 u H locs hw hP hD hS hc1 hc2 hc3 => ?_) (fun r u H locs hw hP hD hS => ?_)
  · obtain rfl := hE E hw
    refine k_catch1 C htab (by decide) (by decide) tw_992 tw_1002 hc1 hc2 hc3 ?_
    refine lv_astore (lv' := [(4, .ref q9), (0, .ref (a 0)), (1, .int p1), (2, .int p2), (3, .ref qo)]) hx hb dL_see_13 hl (by decide) rfl (fun ls hl => ?_)
    refine lv_iconst (v := 1) hx hb dL_see_15 (by decide) ?_
    exact x_iret C hr hlk hP hD hS fJ rfl (Or.inr (⟨hw, rfl⟩)) (Nat.le_of_ble_eq_true rfl) (Nat.le_of_ble_eq_true rfl) dL_see_16
  · skip
    refine lv_i2l hx hb dL_see_8 rfl ?_
    refine a_last C hP hD hS dL_see_9 (fun H locs hP hD hS => ?_)
    refine lv_goto (tgt := 17) hx hb dL_see_10 (by decide) ?_
    refine lv_iconst (v := 0) hx hb dL_see_17 (by decide) ?_
    exact x_iret C hr hlk hP hD hS (vp_updL fJ 0 (Int32.toInt64 r)) rfl (Or.inl ⟨r, hw, rfl, rfl⟩) (Nat.le_of_ble_eq_true rfl) (Nat.le_of_ble_eq_true rfl) dL_see_18
set_option maxHeartbeats 4000000 in
set_option maxRecDepth 100000 in
theorem wL_fits (l : Launch) (hst : l.stackTraces = false) (G : kG) (sz : Nat) (b : Nat) (a : Nat → Nat) (fu : Nat) (g : Nat → Nat → Int32) (L : Nat → Nat → Int64) (p1 : Int32) (qo : Nat) (fJ : Nat → Int64) (res : Except String Int32) (s9 : zS) (h : fX11_fits_0 fu p1 g L = some (res, s9)) (hE : ∀ E, res = .error E → E = "java/util/NoSuchElementException") : kMH l yL_fits cL_fits 4 (some .int) [(0, 9, 12, 18)] { frames := 13, cells := 1, slots := 6, locals := 269 } G [.ref (a 0), .int p1, .ref qo] (zw G (XS b) 105 a g L ++ [(qo, .inl (G.2.2.2.2.1, 1, .inr (.inl fJ)))]) sz (kQi G (S := Nat → Int64) (fun r u => (∃ v, res = .ok v ∧ r = 0 ∧ u 0 = (Int32.toInt64 v)) ∨ (res = .error "java/util/NoSuchElementException" ∧ r = 1)) (fun u => zw G (XS b) 105 a s9.1 s9.2 ++ [(qo, .inl (G.2.2.2.2.1, 1, .inr (.inl u)))])) := by
  refine kMH.of (by decide) (Nat.le_of_ble_eq_true rfl) ?_
  intro p e s m below meth c A ls H C hr hlk htab hP hD hS hl
  have C : kC G p s m c cL_fits 4 RL A := C
  have hx := C.1
  have hb := C.2.1
  have hl : lv_has ls 4 [(0, .ref (a 0)), (1, .int p1), (2, .ref qo)] := hl
  refine lv_aload_n hx hb dL_fits_0 rfl (lv_at hl 2 rfl) ?_
  refine lv_iconst (v := 0) hx hb dL_fits_1 (by decide) ?_
  refine lv_aload_n hx hb dL_fits_2 rfl (lv_at hl 0 rfl) ?_
  refine lv_iload_n hx hb dL_fits_3 rfl (lv_at hl 1 rfl) ?_
  refine a_xcallVi (rest := [.int 0, .ref qo]) li_L_75 C (rX11_fits_0 l hst G H.size b a fu g L p1 res s9 h) (kR rfl) hP hD hS 0 11 rfl (zat (by decide) xs_0) rfl hl.1 rfl (Nat.le_of_ble_eq_true rfl) dL_fits_4 (fun E ce q9 u H locs hw hP hD hS hc1 hc2 hc3 => ?_) (fun r u H locs hw hP hD hS => ?_)
  · obtain rfl := hE E hw
    refine k_catch1 C htab (by decide) (by decide) tw_992 tw_1002 hc1 hc2 hc3 ?_
    refine lv_astore_n (lv' := [(3, .ref q9), (0, .ref (a 0)), (1, .int p1), (2, .ref qo)]) hx hb dL_fits_12 rfl hl (by decide) rfl (fun ls hl => ?_)
    refine lv_iconst (v := 1) hx hb dL_fits_13 (by decide) ?_
    exact x_iret C hr hlk hP hD hS fJ rfl (Or.inr (⟨hw, rfl⟩)) (Nat.le_of_ble_eq_true rfl) (Nat.le_of_ble_eq_true rfl) dL_fits_14
  · skip
    refine lv_i2l hx hb dL_fits_7 rfl ?_
    refine a_last C hP hD hS dL_fits_8 (fun H locs hP hD hS => ?_)
    refine lv_goto (tgt := 15) hx hb dL_fits_9 (by decide) ?_
    refine lv_iconst (v := 0) hx hb dL_fits_15 (by decide) ?_
    exact x_iret C hr hlk hP hD hS (vp_updL fJ 0 (Int32.toInt64 r)) rfl (Or.inl ⟨r, hw, rfl, rfl⟩) (Nat.le_of_ble_eq_true rfl) (Nat.le_of_ble_eq_true rfl) dL_fits_16
set_option maxHeartbeats 4000000 in
set_option maxRecDepth 100000 in
theorem wL_term (l : Launch) (hst : l.stackTraces = false) (G : kG) (sz : Nat) (b : Nat) (a : Nat → Nat) (fu : Nat) (g : Nat → Nat → Int32) (L : Nat → Nat → Int64) (p1 p2 p3 p4 : Int32) (qo : Nat) (fJ : Nat → Int64) (res : Except String Int32) (s9 : zS) (h : fX11_term_0 fu p1 p2 p3 p4 g L = some (res, s9)) (hE : ∀ E, res = .error E → E = "java/util/NoSuchElementException" ∨ E = "java/lang/IllegalArgumentException") : kMH l yL_term cL_term 7 (some .int) [(0, 14, 17, 18), (0, 14, 21, 13)] { frames := 13, cells := 3, slots := 18, locals := 278 } G [.ref (a 0), .int p1, .int p2, .int p3, .int p4, .ref qo] (zw G (XS b) 105 a g L ++ [(qo, .inl (G.2.2.2.2.1, 1, .inr (.inl fJ)))]) sz (kQi G (S := Nat → Int64) (fun r u => (∃ v, res = .ok v ∧ r = 0 ∧ u 0 = (Int32.toInt64 v)) ∨ (res = .error "java/util/NoSuchElementException" ∧ r = 1) ∨ (res = .error "java/lang/IllegalArgumentException" ∧ r = 2)) (fun u => zw G (XS b) 105 a s9.1 s9.2 ++ [(qo, .inl (G.2.2.2.2.1, 1, .inr (.inl u)))])) := by
  refine kMH.of (by decide) (Nat.le_of_ble_eq_true rfl) ?_
  intro p e s m below meth c A ls H C hr hlk htab hP hD hS hl
  have C : kC G p s m c cL_term 7 RL A := C
  have hx := C.1
  have hb := C.2.1
  have hl : lv_has ls 7 [(0, .ref (a 0)), (1, .int p1), (2, .int p2), (3, .int p3), (4, .int p4), (5, .ref qo)] := hl
  refine lv_aload hx hb dL_term_0 (lv_at hl 5 rfl) ?_
  refine lv_iconst (v := 0) hx hb dL_term_2 (by decide) ?_
  refine lv_aload_n hx hb dL_term_3 rfl (lv_at hl 0 rfl) ?_
  refine lv_iload_n hx hb dL_term_4 rfl (lv_at hl 1 rfl) ?_
  refine lv_iload_n hx hb dL_term_5 rfl (lv_at hl 2 rfl) ?_
  refine lv_iload_n hx hb dL_term_6 rfl (lv_at hl 3 rfl) ?_
  refine lv_iload hx hb dL_term_7 (lv_at hl 4 rfl) ?_
  refine a_xcallVi (rest := [.int 0, .ref qo]) li_L_78 C (rX11_term_0 l hst G H.size b a fu g L p1 p2 p3 p4 res s9 h) (kR rfl) hP hD hS 0 11 rfl (zat (by decide) xs_0) rfl hl.1 rfl (Nat.le_of_ble_eq_true rfl) dL_term_9 (fun E ce q9 u H locs hw hP hD hS hc1 hc2 hc3 => ?_) (fun r u H locs hw hP hD hS => ?_)
  · rcases hE E hw with rfl | rfl
    · refine k_catch1 C htab (by decide) (by decide) tw_992 tw_1002 hc1 hc2 hc3 ?_
      refine lv_astore (lv' := [(6, .ref q9), (0, .ref (a 0)), (1, .int p1), (2, .int p2), (3, .int p3), (4, .int p4), (5, .ref qo)]) hx hb dL_term_17 hl (by decide) rfl (fun ls hl => ?_)
      refine lv_iconst (v := 1) hx hb dL_term_19 (by decide) ?_
      exact x_iret C hr hlk hP hD hS fJ rfl (Or.inr (Or.inl ⟨hw, rfl⟩)) (Nat.le_of_ble_eq_true rfl) (Nat.le_of_ble_eq_true rfl) dL_term_20
    · refine k_catch2 C htab (by decide) tw_992 (by decide) (by decide) tw_732 tw_739 hc1 hc2 hc3 ?_
      refine lv_astore (lv' := [(6, .ref q9), (0, .ref (a 0)), (1, .int p1), (2, .int p2), (3, .int p3), (4, .int p4), (5, .ref qo)]) hx hb dL_term_21 hl (by decide) rfl (fun ls hl => ?_)
      refine lv_iconst (v := 2) hx hb dL_term_23 (by decide) ?_
      exact x_iret C hr hlk hP hD hS fJ rfl (Or.inr (Or.inr ⟨hw, rfl⟩)) (Nat.le_of_ble_eq_true rfl) (Nat.le_of_ble_eq_true rfl) dL_term_24
  · skip
    refine lv_i2l hx hb dL_term_12 rfl ?_
    refine a_last C hP hD hS dL_term_13 (fun H locs hP hD hS => ?_)
    refine lv_goto (tgt := 25) hx hb dL_term_14 (by decide) ?_
    refine lv_iconst (v := 0) hx hb dL_term_25 (by decide) ?_
    exact x_iret C hr hlk hP hD hS (vp_updL fJ 0 (Int32.toInt64 r)) rfl (Or.inl ⟨r, hw, rfl, rfl⟩) (Nat.le_of_ble_eq_true rfl) (Nat.le_of_ble_eq_true rfl) dL_term_26
set_option maxHeartbeats 4000000 in
set_option maxRecDepth 100000 in
theorem wL_on (l : Launch) (hst : l.stackTraces = false) (G : kG) (sz : Nat) (b : Nat) (a : Nat → Nat) (fu : Nat) (g : Nat → Nat → Int32) (L : Nat → Nat → Int64) (p1 p2 : Int32) (qo : Nat) (fJ : Nat → Int64) (res : Except String Int32) (s9 : zS) (h : fX11_on_0 fu p1 p2 g L = some (res, s9)) (hE : ∀ E, res = .error E → E = "java/util/NoSuchElementException" ∨ E = "java/lang/IllegalArgumentException") : kMH l yL_on cL_on 5 (some .int) [(0, 10, 13, 18), (0, 10, 17, 13)] { frames := 13, cells := 2, slots := 12, locals := 271 } G [.ref (a 0), .int p1, .int p2, .ref qo] (zw G (XS b) 105 a g L ++ [(qo, .inl (G.2.2.2.2.1, 1, .inr (.inl fJ)))]) sz (kQi G (S := Nat → Int64) (fun r u => (∃ v, res = .ok v ∧ r = 0 ∧ u 0 = (Int32.toInt64 v)) ∨ (res = .error "java/util/NoSuchElementException" ∧ r = 1) ∨ (res = .error "java/lang/IllegalArgumentException" ∧ r = 2)) (fun u => zw G (XS b) 105 a s9.1 s9.2 ++ [(qo, .inl (G.2.2.2.2.1, 1, .inr (.inl u)))])) := by
  refine kMH.of (by decide) (Nat.le_of_ble_eq_true rfl) ?_
  intro p e s m below meth c A ls H C hr hlk htab hP hD hS hl
  have C : kC G p s m c cL_on 5 RL A := C
  have hx := C.1
  have hb := C.2.1
  have hl : lv_has ls 5 [(0, .ref (a 0)), (1, .int p1), (2, .int p2), (3, .ref qo)] := hl
  refine lv_aload_n hx hb dL_on_0 rfl (lv_at hl 3 rfl) ?_
  refine lv_iconst (v := 0) hx hb dL_on_1 (by decide) ?_
  refine lv_aload_n hx hb dL_on_2 rfl (lv_at hl 0 rfl) ?_
  refine lv_iload_n hx hb dL_on_3 rfl (lv_at hl 1 rfl) ?_
  refine lv_iload_n hx hb dL_on_4 rfl (lv_at hl 2 rfl) ?_
  refine a_xcallVi (rest := [.int 0, .ref qo]) li_L_82 C (rX11_on_0 l hst G H.size b a fu g L p1 p2 res s9 h) (kR rfl) hP hD hS 0 11 rfl (zat (by decide) xs_0) rfl hl.1 rfl (Nat.le_of_ble_eq_true rfl) dL_on_5 (fun E ce q9 u H locs hw hP hD hS hc1 hc2 hc3 => ?_) (fun r u H locs hw hP hD hS => ?_)
  · rcases hE E hw with rfl | rfl
    · refine k_catch1 C htab (by decide) (by decide) tw_992 tw_1002 hc1 hc2 hc3 ?_
      refine lv_astore (lv' := [(4, .ref q9), (0, .ref (a 0)), (1, .int p1), (2, .int p2), (3, .ref qo)]) hx hb dL_on_13 hl (by decide) rfl (fun ls hl => ?_)
      refine lv_iconst (v := 1) hx hb dL_on_15 (by decide) ?_
      exact x_iret C hr hlk hP hD hS fJ rfl (Or.inr (Or.inl ⟨hw, rfl⟩)) (Nat.le_of_ble_eq_true rfl) (Nat.le_of_ble_eq_true rfl) dL_on_16
    · refine k_catch2 C htab (by decide) tw_992 (by decide) (by decide) tw_732 tw_739 hc1 hc2 hc3 ?_
      refine lv_astore (lv' := [(4, .ref q9), (0, .ref (a 0)), (1, .int p1), (2, .int p2), (3, .ref qo)]) hx hb dL_on_17 hl (by decide) rfl (fun ls hl => ?_)
      refine lv_iconst (v := 2) hx hb dL_on_19 (by decide) ?_
      exact x_iret C hr hlk hP hD hS fJ rfl (Or.inr (Or.inr ⟨hw, rfl⟩)) (Nat.le_of_ble_eq_true rfl) (Nat.le_of_ble_eq_true rfl) dL_on_20
  · skip
    refine lv_i2l hx hb dL_on_8 rfl ?_
    refine a_last C hP hD hS dL_on_9 (fun H locs hP hD hS => ?_)
    refine lv_goto (tgt := 21) hx hb dL_on_10 (by decide) ?_
    refine lv_iconst (v := 0) hx hb dL_on_21 (by decide) ?_
    exact x_iret C hr hlk hP hD hS (vp_updL fJ 0 (Int32.toInt64 r)) rfl (Or.inl ⟨r, hw, rfl, rfl⟩) (Nat.le_of_ble_eq_true rfl) (Nat.le_of_ble_eq_true rfl) dL_on_22
set_option maxHeartbeats 4000000 in
set_option maxRecDepth 100000 in
theorem wL_clash (l : Launch) (hst : l.stackTraces = false) (G : kG) (sz : Nat) (b : Nat) (a : Nat → Nat) (fu : Nat) (g : Nat → Nat → Int32) (L : Nat → Nat → Int64) (p1 : Int32) (qo : Nat) (fJ : Nat → Int64) (res : Except String Int32) (s9 : zS) (h : fX11_clash_0 fu p1 g L = some (res, s9)) (hE : ∀ E, res = .error E → E = "java/util/NoSuchElementException") : kMH l yL_clash cL_clash 4 (some .int) [(0, 9, 12, 18)] { frames := 12, cells := 1, slots := 6, locals := 246 } G [.ref (a 0), .int p1, .ref qo] (zw G (XS b) 105 a g L ++ [(qo, .inl (G.2.2.2.2.1, 1, .inr (.inl fJ)))]) sz (kQi G (S := Nat → Int64) (fun r u => (∃ v, res = .ok v ∧ r = 0 ∧ u 0 = (Int32.toInt64 v)) ∨ (res = .error "java/util/NoSuchElementException" ∧ r = 1)) (fun u => zw G (XS b) 105 a s9.1 s9.2 ++ [(qo, .inl (G.2.2.2.2.1, 1, .inr (.inl u)))])) := by
  refine kMH.of (by decide) (Nat.le_of_ble_eq_true rfl) ?_
  intro p e s m below meth c A ls H C hr hlk htab hP hD hS hl
  have C : kC G p s m c cL_clash 4 RL A := C
  have hx := C.1
  have hb := C.2.1
  have hl : lv_has ls 4 [(0, .ref (a 0)), (1, .int p1), (2, .ref qo)] := hl
  refine lv_aload_n hx hb dL_clash_0 rfl (lv_at hl 2 rfl) ?_
  refine lv_iconst (v := 0) hx hb dL_clash_1 (by decide) ?_
  refine lv_aload_n hx hb dL_clash_2 rfl (lv_at hl 0 rfl) ?_
  refine lv_iload_n hx hb dL_clash_3 rfl (lv_at hl 1 rfl) ?_
  refine a_xcallVi (rest := [.int 0, .ref qo]) li_L_85 C (rX11_clash_0 l hst G H.size b a fu g L p1 res s9 h) (kR rfl) hP hD hS 0 11 rfl (zat (by decide) xs_0) rfl hl.1 rfl (Nat.le_of_ble_eq_true rfl) dL_clash_4 (fun E ce q9 u H locs hw hP hD hS hc1 hc2 hc3 => ?_) (fun r u H locs hw hP hD hS => ?_)
  · obtain rfl := hE E hw
    refine k_catch1 C htab (by decide) (by decide) tw_992 tw_1002 hc1 hc2 hc3 ?_
    refine lv_astore_n (lv' := [(3, .ref q9), (0, .ref (a 0)), (1, .int p1), (2, .ref qo)]) hx hb dL_clash_12 rfl hl (by decide) rfl (fun ls hl => ?_)
    refine lv_iconst (v := 1) hx hb dL_clash_13 (by decide) ?_
    exact x_iret C hr hlk hP hD hS fJ rfl (Or.inr (⟨hw, rfl⟩)) (Nat.le_of_ble_eq_true rfl) (Nat.le_of_ble_eq_true rfl) dL_clash_14
  · skip
    refine lv_i2l hx hb dL_clash_7 rfl ?_
    refine a_last C hP hD hS dL_clash_8 (fun H locs hP hD hS => ?_)
    refine lv_goto (tgt := 15) hx hb dL_clash_9 (by decide) ?_
    refine lv_iconst (v := 0) hx hb dL_clash_15 (by decide) ?_
    exact x_iret C hr hlk hP hD hS (vp_updL fJ 0 (Int32.toInt64 r)) rfl (Or.inl ⟨r, hw, rfl, rfl⟩) (Nat.le_of_ble_eq_true rfl) (Nat.le_of_ble_eq_true rfl) dL_clash_16
set_option maxHeartbeats 4000000 in
set_option maxRecDepth 100000 in
theorem wL_busiest (l : Launch) (hst : l.stackTraces = false) (G : kG) (sz : Nat) (b : Nat) (a : Nat → Nat) (fu : Nat) (g : Nat → Nat → Int32) (L : Nat → Nat → Int64) (p1 : Int32) (qo : Nat) (fJ : Nat → Int64) (res : Except String Int32) (s9 : zS) (h : fX11_busiest_0 fu p1 g L = some (res, s9)) (hE : ∀ E, res = .error E → E = "java/util/NoSuchElementException") : kMH l yL_busiest cL_busiest 4 (some .int) [(0, 9, 12, 18)] { frames := 13, cells := 1, slots := 6, locals := 271 } G [.ref (a 0), .int p1, .ref qo] (zw G (XS b) 105 a g L ++ [(qo, .inl (G.2.2.2.2.1, 1, .inr (.inl fJ)))]) sz (kQi G (S := Nat → Int64) (fun r u => (∃ v, res = .ok v ∧ r = 0 ∧ u 0 = (Int32.toInt64 v)) ∨ (res = .error "java/util/NoSuchElementException" ∧ r = 1)) (fun u => zw G (XS b) 105 a s9.1 s9.2 ++ [(qo, .inl (G.2.2.2.2.1, 1, .inr (.inl u)))])) := by
  refine kMH.of (by decide) (Nat.le_of_ble_eq_true rfl) ?_
  intro p e s m below meth c A ls H C hr hlk htab hP hD hS hl
  have C : kC G p s m c cL_busiest 4 RL A := C
  have hx := C.1
  have hb := C.2.1
  have hl : lv_has ls 4 [(0, .ref (a 0)), (1, .int p1), (2, .ref qo)] := hl
  refine lv_aload_n hx hb dL_busiest_0 rfl (lv_at hl 2 rfl) ?_
  refine lv_iconst (v := 0) hx hb dL_busiest_1 (by decide) ?_
  refine lv_aload_n hx hb dL_busiest_2 rfl (lv_at hl 0 rfl) ?_
  refine lv_iload_n hx hb dL_busiest_3 rfl (lv_at hl 1 rfl) ?_
  refine a_xcallVi (rest := [.int 0, .ref qo]) li_L_88 C (rX11_busiest_0 l hst G H.size b a fu g L p1 res s9 h) (kR rfl) hP hD hS 0 11 rfl (zat (by decide) xs_0) rfl hl.1 rfl (Nat.le_of_ble_eq_true rfl) dL_busiest_4 (fun E ce q9 u H locs hw hP hD hS hc1 hc2 hc3 => ?_) (fun r u H locs hw hP hD hS => ?_)
  · obtain rfl := hE E hw
    refine k_catch1 C htab (by decide) (by decide) tw_992 tw_1002 hc1 hc2 hc3 ?_
    refine lv_astore_n (lv' := [(3, .ref q9), (0, .ref (a 0)), (1, .int p1), (2, .ref qo)]) hx hb dL_busiest_12 rfl hl (by decide) rfl (fun ls hl => ?_)
    refine lv_iconst (v := 1) hx hb dL_busiest_13 (by decide) ?_
    exact x_iret C hr hlk hP hD hS fJ rfl (Or.inr (⟨hw, rfl⟩)) (Nat.le_of_ble_eq_true rfl) (Nat.le_of_ble_eq_true rfl) dL_busiest_14
  · skip
    refine lv_i2l hx hb dL_busiest_7 rfl ?_
    refine a_last C hP hD hS dL_busiest_8 (fun H locs hP hD hS => ?_)
    refine lv_goto (tgt := 15) hx hb dL_busiest_9 (by decide) ?_
    refine lv_iconst (v := 0) hx hb dL_busiest_15 (by decide) ?_
    exact x_iret C hr hlk hP hD hS (vp_updL fJ 0 (Int32.toInt64 r)) rfl (Or.inl ⟨r, hw, rfl, rfl⟩) (Nat.le_of_ble_eq_true rfl) (Nat.le_of_ble_eq_true rfl) dL_busiest_16
set_option maxHeartbeats 4000000 in
set_option maxRecDepth 100000 in
theorem wL_shift (l : Launch) (hst : l.stackTraces = false) (G : kG) (sz : Nat) (b : Nat) (a : Nat → Nat) (fu : Nat) (g : Nat → Nat → Int32) (L : Nat → Nat → Int64) (p1 p2 : Int32) (qo : Nat) (fJ : Nat → Int64) (res : Except String Int32) (s9 : zS) (h : fX11_shift_0 fu p1 p2 g L = some (res, s9)) (hE : ∀ E, res = .error E → E = "java/util/NoSuchElementException") : kMH l yL_shift cL_shift 5 (some .int) [(0, 10, 13, 18)] { frames := 13, cells := 2, slots := 12, locals := 273 } G [.ref (a 0), .int p1, .int p2, .ref qo] (zw G (XS b) 105 a g L ++ [(qo, .inl (G.2.2.2.2.1, 1, .inr (.inl fJ)))]) sz (kQi G (S := Nat → Int64) (fun r u => (∃ v, res = .ok v ∧ r = 0 ∧ u 0 = (Int32.toInt64 v)) ∨ (res = .error "java/util/NoSuchElementException" ∧ r = 1)) (fun u => zw G (XS b) 105 a s9.1 s9.2 ++ [(qo, .inl (G.2.2.2.2.1, 1, .inr (.inl u)))])) := by
  refine kMH.of (by decide) (Nat.le_of_ble_eq_true rfl) ?_
  intro p e s m below meth c A ls H C hr hlk htab hP hD hS hl
  have C : kC G p s m c cL_shift 5 RL A := C
  have hx := C.1
  have hb := C.2.1
  have hl : lv_has ls 5 [(0, .ref (a 0)), (1, .int p1), (2, .int p2), (3, .ref qo)] := hl
  refine lv_aload_n hx hb dL_shift_0 rfl (lv_at hl 3 rfl) ?_
  refine lv_iconst (v := 0) hx hb dL_shift_1 (by decide) ?_
  refine lv_aload_n hx hb dL_shift_2 rfl (lv_at hl 0 rfl) ?_
  refine lv_iload_n hx hb dL_shift_3 rfl (lv_at hl 1 rfl) ?_
  refine lv_iload_n hx hb dL_shift_4 rfl (lv_at hl 2 rfl) ?_
  refine a_xcallVi (rest := [.int 0, .ref qo]) li_L_91 C (rX11_shift_0 l hst G H.size b a fu g L p1 p2 res s9 h) (kR rfl) hP hD hS 0 11 rfl (zat (by decide) xs_0) rfl hl.1 rfl (Nat.le_of_ble_eq_true rfl) dL_shift_5 (fun E ce q9 u H locs hw hP hD hS hc1 hc2 hc3 => ?_) (fun r u H locs hw hP hD hS => ?_)
  · obtain rfl := hE E hw
    refine k_catch1 C htab (by decide) (by decide) tw_992 tw_1002 hc1 hc2 hc3 ?_
    refine lv_astore (lv' := [(4, .ref q9), (0, .ref (a 0)), (1, .int p1), (2, .int p2), (3, .ref qo)]) hx hb dL_shift_13 hl (by decide) rfl (fun ls hl => ?_)
    refine lv_iconst (v := 1) hx hb dL_shift_15 (by decide) ?_
    exact x_iret C hr hlk hP hD hS fJ rfl (Or.inr (⟨hw, rfl⟩)) (Nat.le_of_ble_eq_true rfl) (Nat.le_of_ble_eq_true rfl) dL_shift_16
  · skip
    refine lv_i2l hx hb dL_shift_8 rfl ?_
    refine a_last C hP hD hS dL_shift_9 (fun H locs hP hD hS => ?_)
    refine lv_goto (tgt := 17) hx hb dL_shift_10 (by decide) ?_
    refine lv_iconst (v := 0) hx hb dL_shift_17 (by decide) ?_
    exact x_iret C hr hlk hP hD hS (vp_updL fJ 0 (Int32.toInt64 r)) rfl (Or.inl ⟨r, hw, rfl, rfl⟩) (Nat.le_of_ble_eq_true rfl) (Nat.le_of_ble_eq_true rfl) dL_shift_18
set_option maxHeartbeats 4000000 in
set_option maxRecDepth 100000 in
theorem wL_harm (l : Launch) (hst : l.stackTraces = false) (G : kG) (sz : Nat) (b : Nat) (a : Nat → Nat) (fu : Nat) (g : Nat → Nat → Int32) (L : Nat → Nat → Int64) (p1 p2 : Int32) (qo : Nat) (fJ : Nat → Int64) (res : Except String Int32) (s9 : zS) (h : fX11_harm_0 fu p1 p2 g L = some (res, s9)) (hE : ∀ E, res = .error E → E = "java/util/NoSuchElementException") : kMH l yL_harm cL_harm 5 (some .int) [(0, 10, 13, 18)] { frames := 13, cells := 2, slots := 12, locals := 271 } G [.ref (a 0), .int p1, .int p2, .ref qo] (zw G (XS b) 105 a g L ++ [(qo, .inl (G.2.2.2.2.1, 1, .inr (.inl fJ)))]) sz (kQi G (S := Nat → Int64) (fun r u => (∃ v, res = .ok v ∧ r = 0 ∧ u 0 = (Int32.toInt64 v)) ∨ (res = .error "java/util/NoSuchElementException" ∧ r = 1)) (fun u => zw G (XS b) 105 a s9.1 s9.2 ++ [(qo, .inl (G.2.2.2.2.1, 1, .inr (.inl u)))])) := by
  refine kMH.of (by decide) (Nat.le_of_ble_eq_true rfl) ?_
  intro p e s m below meth c A ls H C hr hlk htab hP hD hS hl
  have C : kC G p s m c cL_harm 5 RL A := C
  have hx := C.1
  have hb := C.2.1
  have hl : lv_has ls 5 [(0, .ref (a 0)), (1, .int p1), (2, .int p2), (3, .ref qo)] := hl
  refine lv_aload_n hx hb dL_harm_0 rfl (lv_at hl 3 rfl) ?_
  refine lv_iconst (v := 0) hx hb dL_harm_1 (by decide) ?_
  refine lv_aload_n hx hb dL_harm_2 rfl (lv_at hl 0 rfl) ?_
  refine lv_iload_n hx hb dL_harm_3 rfl (lv_at hl 1 rfl) ?_
  refine lv_iload_n hx hb dL_harm_4 rfl (lv_at hl 2 rfl) ?_
  refine a_xcallVi (rest := [.int 0, .ref qo]) li_L_94 C (rX11_harm_0 l hst G H.size b a fu g L p1 p2 res s9 h) (kR rfl) hP hD hS 0 11 rfl (zat (by decide) xs_0) rfl hl.1 rfl (Nat.le_of_ble_eq_true rfl) dL_harm_5 (fun E ce q9 u H locs hw hP hD hS hc1 hc2 hc3 => ?_) (fun r u H locs hw hP hD hS => ?_)
  · obtain rfl := hE E hw
    refine k_catch1 C htab (by decide) (by decide) tw_992 tw_1002 hc1 hc2 hc3 ?_
    refine lv_astore (lv' := [(4, .ref q9), (0, .ref (a 0)), (1, .int p1), (2, .int p2), (3, .ref qo)]) hx hb dL_harm_13 hl (by decide) rfl (fun ls hl => ?_)
    refine lv_iconst (v := 1) hx hb dL_harm_15 (by decide) ?_
    exact x_iret C hr hlk hP hD hS fJ rfl (Or.inr (⟨hw, rfl⟩)) (Nat.le_of_ble_eq_true rfl) (Nat.le_of_ble_eq_true rfl) dL_harm_16
  · skip
    refine lv_i2l hx hb dL_harm_8 rfl ?_
    refine a_last C hP hD hS dL_harm_9 (fun H locs hP hD hS => ?_)
    refine lv_goto (tgt := 17) hx hb dL_harm_10 (by decide) ?_
    refine lv_iconst (v := 0) hx hb dL_harm_17 (by decide) ?_
    exact x_iret C hr hlk hP hD hS (vp_updL fJ 0 (Int32.toInt64 r)) rfl (Or.inl ⟨r, hw, rfl, rfl⟩) (Nat.le_of_ble_eq_true rfl) (Nat.le_of_ble_eq_true rfl) dL_harm_18
set_option maxHeartbeats 4000000 in
set_option maxRecDepth 100000 in
theorem wL_pair (l : Launch) (hst : l.stackTraces = false) (G : kG) (sz : Nat) (b : Nat) (a : Nat → Nat) (fu : Nat) (g : Nat → Nat → Int32) (L : Nat → Nat → Int64) (p1 : Int32) (qo : Nat) (fJ : Nat → Int64) (res : Except String Int32) (s9 : zS) (h : fX11_pair_0 fu p1 g L = some (res, s9)) (hE : ∀ E, res = .error E → E = "java/util/NoSuchElementException") : kMH l yL_pair cL_pair 4 (some .int) [(0, 9, 12, 18)] { frames := 14, cells := 1, slots := 6, locals := 294 } G [.ref (a 0), .int p1, .ref qo] (zw G (XS b) 105 a g L ++ [(qo, .inl (G.2.2.2.2.1, 1, .inr (.inl fJ)))]) sz (kQi G (S := Nat → Int64) (fun r u => (∃ v, res = .ok v ∧ r = 0 ∧ u 0 = (Int32.toInt64 v)) ∨ (res = .error "java/util/NoSuchElementException" ∧ r = 1)) (fun u => zw G (XS b) 105 a s9.1 s9.2 ++ [(qo, .inl (G.2.2.2.2.1, 1, .inr (.inl u)))])) := by
  refine kMH.of (by decide) (Nat.le_of_ble_eq_true rfl) ?_
  intro p e s m below meth c A ls H C hr hlk htab hP hD hS hl
  have C : kC G p s m c cL_pair 4 RL A := C
  have hx := C.1
  have hb := C.2.1
  have hl : lv_has ls 4 [(0, .ref (a 0)), (1, .int p1), (2, .ref qo)] := hl
  refine lv_aload_n hx hb dL_pair_0 rfl (lv_at hl 2 rfl) ?_
  refine lv_iconst (v := 0) hx hb dL_pair_1 (by decide) ?_
  refine lv_aload_n hx hb dL_pair_2 rfl (lv_at hl 0 rfl) ?_
  refine lv_iload_n hx hb dL_pair_3 rfl (lv_at hl 1 rfl) ?_
  refine a_xcallVi (rest := [.int 0, .ref qo]) li_L_97 C (rX11_pair_0 l hst G H.size b a fu g L p1 res s9 h) (kR rfl) hP hD hS 0 11 rfl (zat (by decide) xs_0) rfl hl.1 rfl (Nat.le_of_ble_eq_true rfl) dL_pair_4 (fun E ce q9 u H locs hw hP hD hS hc1 hc2 hc3 => ?_) (fun r u H locs hw hP hD hS => ?_)
  · obtain rfl := hE E hw
    refine k_catch1 C htab (by decide) (by decide) tw_992 tw_1002 hc1 hc2 hc3 ?_
    refine lv_astore_n (lv' := [(3, .ref q9), (0, .ref (a 0)), (1, .int p1), (2, .ref qo)]) hx hb dL_pair_12 rfl hl (by decide) rfl (fun ls hl => ?_)
    refine lv_iconst (v := 1) hx hb dL_pair_13 (by decide) ?_
    exact x_iret C hr hlk hP hD hS fJ rfl (Or.inr (⟨hw, rfl⟩)) (Nat.le_of_ble_eq_true rfl) (Nat.le_of_ble_eq_true rfl) dL_pair_14
  · skip
    refine lv_i2l hx hb dL_pair_7 rfl ?_
    refine a_last C hP hD hS dL_pair_8 (fun H locs hP hD hS => ?_)
    refine lv_goto (tgt := 15) hx hb dL_pair_9 (by decide) ?_
    refine lv_iconst (v := 0) hx hb dL_pair_15 (by decide) ?_
    exact x_iret C hr hlk hP hD hS (vp_updL fJ 0 (Int32.toInt64 r)) rfl (Or.inl ⟨r, hw, rfl, rfl⟩) (Nat.le_of_ble_eq_true rfl) (Nat.le_of_ble_eq_true rfl) dL_pair_16
set_option maxHeartbeats 4000000 in
set_option maxRecDepth 100000 in
theorem wL_pause (l : Launch) (hst : l.stackTraces = false) (G : kG) (sz : Nat) (b : Nat) (a : Nat → Nat) (fu : Nat) (g : Nat → Nat → Int32) (L : Nat → Nat → Int64) (p1 p2 : Int32) (qo : Nat) (fJ : Nat → Int64) (res : Except String Int32) (s9 : zS) (h : fX11_pause_0 fu p1 p2 g L = some (res, s9)) (hE : ∀ E, res = .error E → E = "java/util/NoSuchElementException" ∨ E = "java/lang/IllegalArgumentException") : kMH l yL_pause cL_pause 5 (some .int) [(0, 10, 13, 18), (0, 10, 17, 13)] { frames := 13, cells := 2, slots := 12, locals := 271 } G [.ref (a 0), .int p1, .int p2, .ref qo] (zw G (XS b) 105 a g L ++ [(qo, .inl (G.2.2.2.2.1, 1, .inr (.inl fJ)))]) sz (kQi G (S := Nat → Int64) (fun r u => (∃ v, res = .ok v ∧ r = 0 ∧ u 0 = (Int32.toInt64 v)) ∨ (res = .error "java/util/NoSuchElementException" ∧ r = 1) ∨ (res = .error "java/lang/IllegalArgumentException" ∧ r = 2)) (fun u => zw G (XS b) 105 a s9.1 s9.2 ++ [(qo, .inl (G.2.2.2.2.1, 1, .inr (.inl u)))])) := by
  refine kMH.of (by decide) (Nat.le_of_ble_eq_true rfl) ?_
  intro p e s m below meth c A ls H C hr hlk htab hP hD hS hl
  have C : kC G p s m c cL_pause 5 RL A := C
  have hx := C.1
  have hb := C.2.1
  have hl : lv_has ls 5 [(0, .ref (a 0)), (1, .int p1), (2, .int p2), (3, .ref qo)] := hl
  refine lv_aload_n hx hb dL_pause_0 rfl (lv_at hl 3 rfl) ?_
  refine lv_iconst (v := 0) hx hb dL_pause_1 (by decide) ?_
  refine lv_aload_n hx hb dL_pause_2 rfl (lv_at hl 0 rfl) ?_
  refine lv_iload_n hx hb dL_pause_3 rfl (lv_at hl 1 rfl) ?_
  refine lv_iload_n hx hb dL_pause_4 rfl (lv_at hl 2 rfl) ?_
  refine a_xcallVi (rest := [.int 0, .ref qo]) li_L_100 C (rX11_pause_0 l hst G H.size b a fu g L p1 p2 res s9 h) (kR rfl) hP hD hS 0 11 rfl (zat (by decide) xs_0) rfl hl.1 rfl (Nat.le_of_ble_eq_true rfl) dL_pause_5 (fun E ce q9 u H locs hw hP hD hS hc1 hc2 hc3 => ?_) (fun r u H locs hw hP hD hS => ?_)
  · rcases hE E hw with rfl | rfl
    · refine k_catch1 C htab (by decide) (by decide) tw_992 tw_1002 hc1 hc2 hc3 ?_
      refine lv_astore (lv' := [(4, .ref q9), (0, .ref (a 0)), (1, .int p1), (2, .int p2), (3, .ref qo)]) hx hb dL_pause_13 hl (by decide) rfl (fun ls hl => ?_)
      refine lv_iconst (v := 1) hx hb dL_pause_15 (by decide) ?_
      exact x_iret C hr hlk hP hD hS fJ rfl (Or.inr (Or.inl ⟨hw, rfl⟩)) (Nat.le_of_ble_eq_true rfl) (Nat.le_of_ble_eq_true rfl) dL_pause_16
    · refine k_catch2 C htab (by decide) tw_992 (by decide) (by decide) tw_732 tw_739 hc1 hc2 hc3 ?_
      refine lv_astore (lv' := [(4, .ref q9), (0, .ref (a 0)), (1, .int p1), (2, .int p2), (3, .ref qo)]) hx hb dL_pause_17 hl (by decide) rfl (fun ls hl => ?_)
      refine lv_iconst (v := 2) hx hb dL_pause_19 (by decide) ?_
      exact x_iret C hr hlk hP hD hS fJ rfl (Or.inr (Or.inr ⟨hw, rfl⟩)) (Nat.le_of_ble_eq_true rfl) (Nat.le_of_ble_eq_true rfl) dL_pause_20
  · skip
    refine lv_i2l hx hb dL_pause_8 rfl ?_
    refine a_last C hP hD hS dL_pause_9 (fun H locs hP hD hS => ?_)
    refine lv_goto (tgt := 21) hx hb dL_pause_10 (by decide) ?_
    refine lv_iconst (v := 0) hx hb dL_pause_21 (by decide) ?_
    exact x_iret C hr hlk hP hD hS (vp_updL fJ 0 (Int32.toInt64 r)) rfl (Or.inl ⟨r, hw, rfl, rfl⟩) (Nat.le_of_ble_eq_true rfl) (Nat.le_of_ble_eq_true rfl) dL_pause_22
