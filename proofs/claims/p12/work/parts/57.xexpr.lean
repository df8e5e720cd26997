theorem dX6_isWord_0 : decode cX6_isWord 0 = .ok (.aload_n 0, 1) := by decide +kernel
theorem dX6_isWord_1 : decode cX6_isWord 1 = .ok (.getfield 50, 3) := by decide +kernel
theorem dX6_isWord_4 : decode cX6_isWord 4 = .ok (.iconst 2, 1) := by decide +kernel
theorem dX6_isWord_24 : decode cX6_isWord 24 = .ok (.iconst 0, 1) := by decide +kernel
theorem dX6_isWord_25 : decode cX6_isWord 25 = .ok (.ireturn, 1) := by decide +kernel
theorem dX6_isWord_5 : decode cX6_isWord 5 = .ok (.if_icmp .ne 19, 3) := by decide +kernel
theorem dX6_isWord_8 : decode cX6_isWord 8 = .ok (.aload_n 0, 1) := by decide +kernel
theorem dX6_isWord_9 : decode cX6_isWord 9 = .ok (.getfield 34, 3) := by decide +kernel
theorem dX6_isWord_12 : decode cX6_isWord 12 = .ok (.aload_n 0, 1) := by decide +kernel
theorem dX6_isWord_13 : decode cX6_isWord 13 = .ok (.getfield 59, 3) := by decide +kernel
theorem dX6_isWord_16 : decode cX6_isWord 16 = .ok (.isub, 1) := by decide +kernel
theorem dX6_isWord_17 : decode cX6_isWord 17 = .ok (.aload_n 1, 1) := by decide +kernel
theorem dX6_isWord_18 : decode cX6_isWord 18 = .ok (.invokevirtual 69, 3) := by decide +kernel
theorem dX6_isWord_21 : decode cX6_isWord 21 = .ok (.if_icmp .eq 5, 3) := by decide +kernel
theorem dX6_isWord_26 : decode cX6_isWord 26 = .ok (.iconst 0, 1) := by decide +kernel
theorem dX6_isWord_27 : decode cX6_isWord 27 = .ok (.istore_n 2, 1) := by decide +kernel
theorem dX6_isWord_28 : decode cX6_isWord 28 = .ok (.iload_n 2, 1) := by decide +kernel
theorem dX6_isWord_29 : decode cX6_isWord 29 = .ok (.aload_n 1, 1) := by decide +kernel
theorem dX6_isWord_30 : decode cX6_isWord 30 = .ok (.invokevirtual 69, 3) := by decide +kernel
theorem dX6_isWord_33 : decode cX6_isWord 33 = .ok (.if_icmp .ge 30, 3) := by decide +kernel
theorem dX6_isWord_63 : decode cX6_isWord 63 = .ok (.iconst 1, 1) := by decide +kernel
theorem dX6_isWord_64 : decode cX6_isWord 64 = .ok (.ireturn, 1) := by decide +kernel
theorem dX6_isWord_36 : decode cX6_isWord 36 = .ok (.aload_n 0, 1) := by decide +kernel
theorem dX6_isWord_37 : decode cX6_isWord 37 = .ok (.getfield 9, 3) := by decide +kernel
theorem dX6_isWord_40 : decode cX6_isWord 40 = .ok (.aload_n 0, 1) := by decide +kernel
theorem dX6_isWord_41 : decode cX6_isWord 41 = .ok (.getfield 59, 3) := by decide +kernel
theorem dX6_isWord_44 : decode cX6_isWord 44 = .ok (.iload_n 2, 1) := by decide +kernel
theorem dX6_isWord_45 : decode cX6_isWord 45 = .ok (.iadd, 1) := by decide +kernel
theorem dX6_isWord_46 : decode cX6_isWord 46 = .ok (.iaload, 1) := by decide +kernel
theorem dX6_isWord_47 : decode cX6_isWord 47 = .ok (.aload_n 1, 1) := by decide +kernel
theorem dX6_isWord_48 : decode cX6_isWord 48 = .ok (.iload_n 2, 1) := by decide +kernel
theorem dX6_isWord_49 : decode cX6_isWord 49 = .ok (.invokevirtual 74, 3) := by decide +kernel
theorem dX6_isWord_52 : decode cX6_isWord 52 = .ok (.if_icmp .eq 5, 3) := by decide +kernel
theorem dX6_isWord_57 : decode cX6_isWord 57 = .ok (.iinc 2 1, 3) := by decide +kernel
theorem dX6_isWord_60 : decode cX6_isWord 60 = .ok (.goto (-32), 3) := by decide +kernel
theorem dX6_isWord_55 : decode cX6_isWord 55 = .ok (.iconst 0, 1) := by decide +kernel
theorem dX6_isWord_56 : decode cX6_isWord 56 = .ok (.ireturn, 1) := by decide +kernel
theorem dX6_valueNow_0 : decode cX6_valueNow 0 = .ok (.aload_n 0, 1) := by decide +kernel
theorem dX6_valueNow_1 : decode cX6_valueNow 1 = .ok (.ldc 236, 2) := by decide +kernel
theorem tw_824 : (Jvm.Cond.methodLink "MarshBells$Parser" (92 : Nat) ({ cls := "MarshBells$Parser", name := "isWord", desc := "(Ljava/lang/String;)Z" } : Jvm.MethodName)) ∈ lw_tbl := tk_4 (List.mem_of_getElem? (i := 104) rfl)
theorem tw_827 : (Jvm.Cond.code ({ cls := "MarshBells$Parser", name := "isWord", desc := "(Ljava/lang/String;)Z" } : Jvm.MethodName) prog_8_method_6_code (3 : Nat) (Option.some Jvm.ClassFile.FieldType.boolean)) ∈ lw_tbl := tk_4 (List.mem_of_getElem? (i := 107) rfl)
theorem tw_826 : (Jvm.Cond.instanceMethod ({ cls := "MarshBells$Parser", name := "isWord", desc := "(Ljava/lang/String;)Z" } : Jvm.MethodName)) ∈ lw_tbl := tk_4 (List.mem_of_getElem? (i := 106) rfl)
theorem se_X6_isWord : Cond.selects RX6 yX6_isWord yX6_isWord ∈ lw_tbl := List.mem_append_left _ (List.mem_of_getElem? (i := 38) rfl)
theorem li_X6_92 : kLV RX6 92 RX6 yX6_isWord cX6_isWord 3 (some .boolean) 1 := ⟨tw_824, tw_826, se_X6_isWord, tw_827, tw_5, by decide +kernel⟩
theorem dX6_valueNow_3 : decode cX6_valueNow 3 = .ok (.invokevirtual 92, 3) := by decide +kernel
theorem dX6_valueNow_6 : decode cX6_valueNow 6 = .ok (.ifCond .eq 5, 3) := by decide +kernel
theorem dX6_valueNow_11 : decode cX6_valueNow 11 = .ok (.aload_n 0, 1) := by decide +kernel
theorem dX6_valueNow_12 : decode cX6_valueNow 12 = .ok (.ldc 237, 2) := by decide +kernel
theorem dX6_valueNow_14 : decode cX6_valueNow 14 = .ok (.invokevirtual 92, 3) := by decide +kernel
theorem dX6_valueNow_17 : decode cX6_valueNow 17 = .ok (.ifCond .eq 5, 3) := by decide +kernel
theorem dX6_valueNow_22 : decode cX6_valueNow 22 = .ok (.aload_n 0, 1) := by decide +kernel
theorem dX6_valueNow_23 : decode cX6_valueNow 23 = .ok (.ldc 239, 2) := by decide +kernel
theorem dX6_valueNow_25 : decode cX6_valueNow 25 = .ok (.invokevirtual 92, 3) := by decide +kernel
theorem dX6_valueNow_28 : decode cX6_valueNow 28 = .ok (.ifCond .eq 5, 3) := by decide +kernel
theorem dX6_valueNow_33 : decode cX6_valueNow 33 = .ok (.aload_n 0, 1) := by decide +kernel
theorem dX6_valueNow_34 : decode cX6_valueNow 34 = .ok (.ldc 241, 2) := by decide +kernel
theorem dX6_valueNow_36 : decode cX6_valueNow 36 = .ok (.invokevirtual 92, 3) := by decide +kernel
theorem dX6_valueNow_39 : decode cX6_valueNow 39 = .ok (.ifCond .eq 5, 3) := by decide +kernel
theorem dX6_valueNow_44 : decode cX6_valueNow 44 = .ok (.aload_n 0, 1) := by decide +kernel
theorem dX6_valueNow_45 : decode cX6_valueNow 45 = .ok (.ldc 242, 2) := by decide +kernel
theorem dX6_valueNow_47 : decode cX6_valueNow 47 = .ok (.invokevirtual 92, 3) := by decide +kernel
theorem dX6_valueNow_50 : decode cX6_valueNow 50 = .ok (.ifCond .eq 5, 3) := by decide +kernel
theorem dX6_valueNow_55 : decode cX6_valueNow 55 = .ok (.aload_n 0, 1) := by decide +kernel
theorem dX6_valueNow_56 : decode cX6_valueNow 56 = .ok (.ldc 90, 2) := by decide +kernel
theorem dX6_valueNow_58 : decode cX6_valueNow 58 = .ok (.invokevirtual 92, 3) := by decide +kernel
theorem dX6_valueNow_69 : decode cX6_valueNow 69 = .ok (.ireturn, 1) := by decide +kernel
theorem dX6_valueNow_61 : decode cX6_valueNow 61 = .ok (.ifCond .eq 7, 3) := by decide +kernel
theorem dX6_valueNow_68 : decode cX6_valueNow 68 = .ok (.iconst (-1), 1) := by decide +kernel
theorem dX6_valueNow_64 : decode cX6_valueNow 64 = .ok (.iconst 5, 1) := by decide +kernel
theorem dX6_valueNow_65 : decode cX6_valueNow 65 = .ok (.goto 4, 3) := by decide +kernel
theorem dX6_valueNow_53 : decode cX6_valueNow 53 = .ok (.iconst 4, 1) := by decide +kernel
theorem dX6_valueNow_54 : decode cX6_valueNow 54 = .ok (.ireturn, 1) := by decide +kernel
theorem dX6_valueNow_42 : decode cX6_valueNow 42 = .ok (.iconst 3, 1) := by decide +kernel
theorem dX6_valueNow_43 : decode cX6_valueNow 43 = .ok (.ireturn, 1) := by decide +kernel
theorem dX6_valueNow_31 : decode cX6_valueNow 31 = .ok (.iconst 2, 1) := by decide +kernel
theorem dX6_valueNow_32 : decode cX6_valueNow 32 = .ok (.ireturn, 1) := by decide +kernel
theorem dX6_valueNow_20 : decode cX6_valueNow 20 = .ok (.iconst 1, 1) := by decide +kernel
theorem dX6_valueNow_21 : decode cX6_valueNow 21 = .ok (.ireturn, 1) := by decide +kernel
theorem dX6_valueNow_9 : decode cX6_valueNow 9 = .ok (.iconst 0, 1) := by decide +kernel
theorem dX6_valueNow_10 : decode cX6_valueNow 10 = .ok (.ireturn, 1) := by decide +kernel
theorem tw_195 : (Jvm.Cond.fieldLink "MarshBells$Parser" (15 : Nat) "MarshBells$Parser" "plan" "LMarshBells$Plan;") ∈ lw_tbl := tk_1 (List.mem_of_getElem? (i := 195) rfl)
theorem fl_X6_15 : kFL RX6 15 6 11 1 := ⟨RX6, TX6, rfl, by decide, inWX6, tw_195⟩
theorem tw_159 : (Jvm.Cond.fieldLinkNest "MarshBells$Parser" (125 : Nat) "MarshBells$Plan" "rules" "LMarshBells$Rules;" "MarshBells") ∈ lw_tbl := tk_1 (List.mem_of_getElem? (i := 159) rfl)
theorem fl_X6_125 : kFN RX6 125 7 5 1 := ⟨RX7, TX7, rfl, by decide, inWX7, tw_159⟩
theorem tw_53 : (Jvm.Cond.fieldLinkNest "MarshBells$Parser" (129 : Nat) "MarshBells$Rules" "size" "I" "MarshBells") ∈ lw_tbl := tk_1 (List.mem_of_getElem? (i := 53) rfl)
theorem fl_X6_129 : kFN RX6 129 8 5 3 := ⟨RX8, TX8, rfl, by decide, inWX8, tw_53⟩
theorem dX6_readPart_0 : decode cX6_readPart 0 = .ok (.aload_n 0, 1) := by decide +kernel
theorem dX6_readPart_1 : decode cX6_readPart 1 = .ok (.getfield 50, 3) := by decide +kernel
theorem dX6_readPart_4 : decode cX6_readPart 4 = .ok (.iconst 1, 1) := by decide +kernel
theorem dX6_readPart_111 : decode cX6_readPart 111 = .ok (.return_, 1) := by decide +kernel
theorem dX6_readPart_5 : decode cX6_readPart 5 = .ok (.if_icmp .ne 24, 3) := by decide +kernel
theorem dX6_readPart_29 : decode cX6_readPart 29 = .ok (.aload_n 0, 1) := by decide +kernel
theorem dX6_readPart_30 : decode cX6_readPart 30 = .ok (.getfield 50, 3) := by decide +kernel
theorem dX6_readPart_33 : decode cX6_readPart 33 = .ok (.iconst 2, 1) := by decide +kernel
theorem dX6_readPart_34 : decode cX6_readPart 34 = .ok (.if_icmp .ne 38, 3) := by decide +kernel
theorem dX6_readPart_72 : decode cX6_readPart 72 = .ok (.aload_n 0, 1) := by decide +kernel
theorem dX6_readPart_73 : decode cX6_readPart 73 = .ok (.bipush 40, 2) := by decide +kernel
theorem dX6_readPart_75 : decode cX6_readPart 75 = .ok (.invokevirtual 86, 3) := by decide +kernel
theorem dX6_readPart_106 : decode cX6_readPart 106 = .ok (.aload_n 0, 1) := by decide +kernel
theorem dX6_readPart_107 : decode cX6_readPart 107 = .ok (.iconst 1, 1) := by decide +kernel
theorem dX6_readPart_108 : decode cX6_readPart 108 = .ok (.invokevirtual 78, 3) := by decide +kernel
theorem dX6_readPart_78 : decode cX6_readPart 78 = .ok (.ifCond .eq 28, 3) := by decide +kernel
theorem dX6_readPart_81 : decode cX6_readPart 81 = .ok (.iload_n 1, 1) := by decide +kernel
theorem dX6_readPart_82 : decode cX6_readPart 82 = .ok (.iconst 5, 1) := by decide +kernel
theorem dX6_readPart_83 : decode cX6_readPart 83 = .ok (.if_icmp .gt 23, 3) := by decide +kernel
theorem dX6_readPart_86 : decode cX6_readPart 86 = .ok (.aload_n 0, 1) := by decide +kernel
theorem dX6_readPart_87 : decode cX6_readPart 87 = .ok (.invokevirtual 53, 3) := by decide +kernel
theorem dX6_readPart_90 : decode cX6_readPart 90 = .ok (.aload_n 0, 1) := by decide +kernel
theorem dX6_readPart_91 : decode cX6_readPart 91 = .ok (.iload_n 1, 1) := by decide +kernel
theorem dX6_readPart_92 : decode cX6_readPart 92 = .ok (.iconst 1, 1) := by decide +kernel
theorem dX6_readPart_93 : decode cX6_readPart 93 = .ok (.iadd, 1) := by decide +kernel
theorem tw_928 : (Jvm.Cond.methodLink "MarshBells$Parser" (134 : Nat) ({ cls := "MarshBells$Parser", name := "readExpr", desc := "(I)V" } : Jvm.MethodName)) ∈ lw_tbl := tk_4 (List.mem_of_getElem? (i := 208) rfl)
theorem tw_931 : (Jvm.Cond.code ({ cls := "MarshBells$Parser", name := "readExpr", desc := "(I)V" } : Jvm.MethodName) prog_8_method_18_code (3 : Nat) (Option.none : Option Jvm.ClassFile.FieldType)) ∈ lw_tbl := tk_4 (List.mem_of_getElem? (i := 211) rfl)
theorem tw_930 : (Jvm.Cond.instanceMethod ({ cls := "MarshBells$Parser", name := "readExpr", desc := "(I)V" } : Jvm.MethodName)) ∈ lw_tbl := tk_4 (List.mem_of_getElem? (i := 210) rfl)
theorem se_X6_readExpr : Cond.selects RX6 yX6_readExpr yX6_readExpr ∈ lw_tbl := List.mem_append_left _ (List.mem_of_getElem? (i := 50) rfl)
theorem li_X6_134 : kLV RX6 134 RX6 yX6_readExpr cX6_readExpr 3 none 1 := ⟨tw_928, tw_930, se_X6_readExpr, tw_931, tw_5, by decide +kernel⟩
theorem dX6_readPart_94 : decode cX6_readPart 94 = .ok (.invokevirtual 134, 3) := by decide +kernel
theorem dX6_readPart_97 : decode cX6_readPart 97 = .ok (.aload_n 0, 1) := by decide +kernel
theorem dX6_readPart_98 : decode cX6_readPart 98 = .ok (.bipush 41, 2) := by decide +kernel
theorem tw_974 : (Jvm.Cond.methodLink "MarshBells$Parser" (114 : Nat) ({ cls := "MarshBells$Parser", name := "readSign", desc := "(C)V" } : Jvm.MethodName)) ∈ lw_tbl := tk_5 (List.mem_of_getElem? (i := 14) rfl)
theorem tw_977 : (Jvm.Cond.code ({ cls := "MarshBells$Parser", name := "readSign", desc := "(C)V" } : Jvm.MethodName) prog_8_method_10_code (2 : Nat) (Option.none : Option Jvm.ClassFile.FieldType)) ∈ lw_tbl := tk_5 (List.mem_of_getElem? (i := 17) rfl)
theorem tw_976 : (Jvm.Cond.instanceMethod ({ cls := "MarshBells$Parser", name := "readSign", desc := "(C)V" } : Jvm.MethodName)) ∈ lw_tbl := tk_5 (List.mem_of_getElem? (i := 16) rfl)
theorem se_X6_readSign : Cond.selects RX6 yX6_readSign yX6_readSign ∈ lw_tbl := List.mem_append_left _ (List.mem_of_getElem? (i := 60) rfl)
theorem li_X6_114 : kLV RX6 114 RX6 yX6_readSign cX6_readSign 2 none 1 := ⟨tw_974, tw_976, se_X6_readSign, tw_977, tw_5, by decide +kernel⟩
theorem dX6_readPart_100 : decode cX6_readPart 100 = .ok (.invokevirtual 114, 3) := by decide +kernel
theorem dX6_readPart_103 : decode cX6_readPart 103 = .ok (.goto 8, 3) := by decide +kernel
theorem dX6_readPart_37 : decode cX6_readPart 37 = .ok (.aload_n 0, 1) := by decide +kernel
theorem tw_965 : (Jvm.Cond.methodLink "MarshBells$Parser" (233 : Nat) ({ cls := "MarshBells$Parser", name := "valueNow", desc := "()I" } : Jvm.MethodName)) ∈ lw_tbl := tk_5 (List.mem_of_getElem? (i := 5) rfl)
theorem tw_968 : (Jvm.Cond.code ({ cls := "MarshBells$Parser", name := "valueNow", desc := "()I" } : Jvm.MethodName) prog_8_method_25_code (1 : Nat) (Option.some Jvm.ClassFile.FieldType.int)) ∈ lw_tbl := tk_5 (List.mem_of_getElem? (i := 8) rfl)
theorem tw_967 : (Jvm.Cond.instanceMethod ({ cls := "MarshBells$Parser", name := "valueNow", desc := "()I" } : Jvm.MethodName)) ∈ lw_tbl := tk_5 (List.mem_of_getElem? (i := 7) rfl)
theorem se_X6_valueNow : Cond.selects RX6 yX6_valueNow yX6_valueNow ∈ lw_tbl := List.mem_append_left _ (List.mem_of_getElem? (i := 59) rfl)
theorem li_X6_233 : kLV RX6 233 RX6 yX6_valueNow cX6_valueNow 1 (some .int) 0 := ⟨tw_965, tw_967, se_X6_valueNow, tw_968, tw_5, by decide +kernel⟩
theorem dX6_readPart_38 : decode cX6_readPart 38 = .ok (.invokevirtual 233, 3) := by decide +kernel
theorem dX6_readPart_41 : decode cX6_readPart 41 = .ok (.istore_n 2, 1) := by decide +kernel
theorem dX6_readPart_42 : decode cX6_readPart 42 = .ok (.iload_n 2, 1) := by decide +kernel
theorem dX6_readPart_43 : decode cX6_readPart 43 = .ok (.iconst (-1), 1) := by decide +kernel
theorem dX6_readPart_52 : decode cX6_readPart 52 = .ok (.aload_n 0, 1) := by decide +kernel
theorem dX6_readPart_53 : decode cX6_readPart 53 = .ok (.getfield 15, 3) := by decide +kernel
theorem dX6_readPart_56 : decode cX6_readPart 56 = .ok (.getfield 125, 3) := by decide +kernel
theorem dX6_readPart_59 : decode cX6_readPart 59 = .ok (.iconst (-1), 1) := by decide +kernel
theorem dX6_readPart_60 : decode cX6_readPart 60 = .ok (.iload_n 2, 1) := by decide +kernel
theorem dX6_readPart_61 : decode cX6_readPart 61 = .ok (.isub, 1) := by decide +kernel
theorem tw_961 : (Jvm.Cond.methodLinkNest "MarshBells$Parser" (211 : Nat) ({ cls := "MarshBells$Rules", name := "add", desc := "(I)V" } : Jvm.MethodName) "MarshBells") ∈ lw_tbl := tk_5 (List.mem_of_getElem? (i := 1) rfl)
theorem tw_964 : (Jvm.Cond.code ({ cls := "MarshBells$Rules", name := "add", desc := "(I)V" } : Jvm.MethodName) prog_10_method_3_code (2 : Nat) (Option.none : Option Jvm.ClassFile.FieldType)) ∈ lw_tbl := tk_5 (List.mem_of_getElem? (i := 4) rfl)
theorem tw_963 : (Jvm.Cond.instanceMethod ({ cls := "MarshBells$Rules", name := "add", desc := "(I)V" } : Jvm.MethodName)) ∈ lw_tbl := tk_5 (List.mem_of_getElem? (i := 3) rfl)
theorem se_X8_add : Cond.selects RX8 yX8_add yX8_add ∈ lw_tbl := List.mem_append_left _ (List.mem_of_getElem? (i := 58) rfl)
theorem li_X6_211 : kLN RX6 211 RX8 yX8_add "MarshBells" cX8_add 2 none 1 := ⟨tw_961, tw_963, se_X8_add, tw_964, tw_3, by decide +kernel⟩
theorem dX6_readPart_62 : decode cX6_readPart 62 = .ok (.invokevirtual 211, 3) := by decide +kernel
theorem dX6_readPart_65 : decode cX6_readPart 65 = .ok (.aload_n 0, 1) := by decide +kernel
theorem dX6_readPart_66 : decode cX6_readPart 66 = .ok (.invokevirtual 53, 3) := by decide +kernel
theorem dX6_readPart_69 : decode cX6_readPart 69 = .ok (.goto 42, 3) := by decide +kernel
theorem dX6_readPart_44 : decode cX6_readPart 44 = .ok (.if_icmp .ne 8, 3) := by decide +kernel
theorem dX6_readPart_47 : decode cX6_readPart 47 = .ok (.aload_n 0, 1) := by decide +kernel
theorem dX6_readPart_48 : decode cX6_readPart 48 = .ok (.iconst 3, 1) := by decide +kernel
theorem dX6_readPart_49 : decode cX6_readPart 49 = .ok (.invokevirtual 78, 3) := by decide +kernel
theorem dX6_readPart_8 : decode cX6_readPart 8 = .ok (.aload_n 0, 1) := by decide +kernel
theorem dX6_readPart_9 : decode cX6_readPart 9 = .ok (.getfield 15, 3) := by decide +kernel
theorem dX6_readPart_12 : decode cX6_readPart 12 = .ok (.getfield 125, 3) := by decide +kernel
theorem dX6_readPart_15 : decode cX6_readPart 15 = .ok (.aload_n 0, 1) := by decide +kernel
theorem dX6_readPart_16 : decode cX6_readPart 16 = .ok (.iconst 0, 1) := by decide +kernel
theorem dX6_readPart_17 : decode cX6_readPart 17 = .ok (.sipush 9999, 3) := by decide +kernel
theorem tw_888 : (Jvm.Cond.methodLink "MarshBells$Parser" (118 : Nat) ({ cls := "MarshBells$Parser", name := "readNumber", desc := "(II)I" } : Jvm.MethodName)) ∈ lw_tbl := tk_4 (List.mem_of_getElem? (i := 168) rfl)
theorem tw_891 : (Jvm.Cond.code ({ cls := "MarshBells$Parser", name := "readNumber", desc := "(II)I" } : Jvm.MethodName) prog_8_method_9_code (4 : Nat) (Option.some Jvm.ClassFile.FieldType.int)) ∈ lw_tbl := tk_4 (List.mem_of_getElem? (i := 171) rfl)
theorem tw_890 : (Jvm.Cond.instanceMethod ({ cls := "MarshBells$Parser", name := "readNumber", desc := "(II)I" } : Jvm.MethodName)) ∈ lw_tbl := tk_4 (List.mem_of_getElem? (i := 170) rfl)
theorem se_X6_readNumber : Cond.selects RX6 yX6_readNumber yX6_readNumber ∈ lw_tbl := List.mem_append_left _ (List.mem_of_getElem? (i := 42) rfl)
theorem li_X6_118 : kLV RX6 118 RX6 yX6_readNumber cX6_readNumber 4 (some .int) 2 := ⟨tw_888, tw_890, se_X6_readNumber, tw_891, tw_5, by decide +kernel⟩
theorem dX6_readPart_20 : decode cX6_readPart 20 = .ok (.invokevirtual 118, 3) := by decide +kernel
theorem dX6_readPart_23 : decode cX6_readPart 23 = .ok (.invokevirtual 211, 3) := by decide +kernel
theorem dX6_readPart_26 : decode cX6_readPart 26 = .ok (.goto 85, 3) := by decide +kernel
theorem dX6_readProduct_0 : decode cX6_readProduct 0 = .ok (.aload_n 0, 1) := by decide +kernel
theorem dX6_readProduct_1 : decode cX6_readProduct 1 = .ok (.iload_n 1, 1) := by decide +kernel
theorem tw_957 : (Jvm.Cond.methodLink "MarshBells$Parser" (230 : Nat) ({ cls := "MarshBells$Parser", name := "readPart", desc := "(I)V" } : Jvm.MethodName)) ∈ lw_tbl := tk_4 (List.mem_of_getElem? (i := 237) rfl)
theorem tw_960 : (Jvm.Cond.code ({ cls := "MarshBells$Parser", name := "readPart", desc := "(I)V" } : Jvm.MethodName) prog_8_method_24_code (3 : Nat) (Option.none : Option Jvm.ClassFile.FieldType)) ∈ lw_tbl := tk_5 (List.mem_of_getElem? (i := 0) rfl)
theorem tw_959 : (Jvm.Cond.instanceMethod ({ cls := "MarshBells$Parser", name := "readPart", desc := "(I)V" } : Jvm.MethodName)) ∈ lw_tbl := tk_4 (List.mem_of_getElem? (i := 239) rfl)
theorem se_X6_readPart : Cond.selects RX6 yX6_readPart yX6_readPart ∈ lw_tbl := List.mem_append_left _ (List.mem_of_getElem? (i := 57) rfl)
theorem li_X6_230 : kLV RX6 230 RX6 yX6_readPart cX6_readPart 3 none 1 := ⟨tw_957, tw_959, se_X6_readPart, tw_960, tw_5, by decide +kernel⟩
theorem dX6_readProduct_2 : decode cX6_readProduct 2 = .ok (.invokevirtual 230, 3) := by decide +kernel
theorem dX6_readProduct_5 : decode cX6_readProduct 5 = .ok (.iconst 0, 1) := by decide +kernel
theorem dX6_readProduct_6 : decode cX6_readProduct 6 = .ok (.istore_n 2, 1) := by decide +kernel
theorem dX6_readProduct_7 : decode cX6_readProduct 7 = .ok (.iload_n 2, 1) := by decide +kernel
theorem dX6_readProduct_8 : decode cX6_readProduct 8 = .ok (.sipush 700, 3) := by decide +kernel
theorem dX6_readProduct_75 : decode cX6_readProduct 75 = .ok (.return_, 1) := by decide +kernel
theorem dX6_readProduct_11 : decode cX6_readProduct 11 = .ok (.if_icmp .ge 64, 3) := by decide +kernel
theorem dX6_readProduct_14 : decode cX6_readProduct 14 = .ok (.aload_n 0, 1) := by decide +kernel
theorem dX6_readProduct_15 : decode cX6_readProduct 15 = .ok (.bipush 42, 2) := by decide +kernel
theorem dX6_readProduct_17 : decode cX6_readProduct 17 = .ok (.invokevirtual 86, 3) := by decide +kernel
theorem dX6_readProduct_32 : decode cX6_readProduct 32 = .ok (.aload_n 0, 1) := by decide +kernel
theorem dX6_readProduct_33 : decode cX6_readProduct 33 = .ok (.bipush 42, 2) := by decide +kernel
theorem dX6_readProduct_35 : decode cX6_readProduct 35 = .ok (.invokevirtual 86, 3) := by decide +kernel
theorem dX6_readProduct_48 : decode cX6_readProduct 48 = .ok (.istore_n 3, 1) := by decide +kernel
theorem dX6_readProduct_49 : decode cX6_readProduct 49 = .ok (.aload_n 0, 1) := by decide +kernel
theorem dX6_readProduct_50 : decode cX6_readProduct 50 = .ok (.invokevirtual 53, 3) := by decide +kernel
theorem dX6_readProduct_53 : decode cX6_readProduct 53 = .ok (.aload_n 0, 1) := by decide +kernel
theorem dX6_readProduct_54 : decode cX6_readProduct 54 = .ok (.iload_n 1, 1) := by decide +kernel
theorem dX6_readProduct_55 : decode cX6_readProduct 55 = .ok (.invokevirtual 230, 3) := by decide +kernel
theorem dX6_readProduct_58 : decode cX6_readProduct 58 = .ok (.aload_n 0, 1) := by decide +kernel
theorem dX6_readProduct_59 : decode cX6_readProduct 59 = .ok (.getfield 15, 3) := by decide +kernel
theorem dX6_readProduct_62 : decode cX6_readProduct 62 = .ok (.getfield 125, 3) := by decide +kernel
theorem dX6_readProduct_65 : decode cX6_readProduct 65 = .ok (.iload_n 3, 1) := by decide +kernel
theorem dX6_readProduct_66 : decode cX6_readProduct 66 = .ok (.invokevirtual 211, 3) := by decide +kernel
theorem dX6_readProduct_69 : decode cX6_readProduct 69 = .ok (.iinc 2 1, 3) := by decide +kernel
theorem dX6_readProduct_72 : decode cX6_readProduct 72 = .ok (.goto (-65), 3) := by decide +kernel
theorem dX6_readProduct_38 : decode cX6_readProduct 38 = .ok (.ifCond .eq 8, 3) := by decide +kernel
theorem dX6_readProduct_46 : decode cX6_readProduct 46 = .ok (.bipush (-10), 2) := by decide +kernel
theorem dX6_readProduct_41 : decode cX6_readProduct 41 = .ok (.bipush (-9), 2) := by decide +kernel
theorem dX6_readProduct_43 : decode cX6_readProduct 43 = .ok (.goto 5, 3) := by decide +kernel
theorem dX6_readProduct_20 : decode cX6_readProduct 20 = .ok (.ifCond .ne 12, 3) := by decide +kernel
theorem dX6_readProduct_23 : decode cX6_readProduct 23 = .ok (.aload_n 0, 1) := by decide +kernel
theorem dX6_readProduct_24 : decode cX6_readProduct 24 = .ok (.bipush 47, 2) := by decide +kernel
theorem dX6_readProduct_26 : decode cX6_readProduct 26 = .ok (.invokevirtual 86, 3) := by decide +kernel
theorem dX6_readProduct_29 : decode cX6_readProduct 29 = .ok (.ifCond .eq 46, 3) := by decide +kernel
theorem dX6_readSum_0 : decode cX6_readSum 0 = .ok (.aload_n 0, 1) := by decide +kernel
theorem dX6_readSum_1 : decode cX6_readSum 1 = .ok (.iload_n 1, 1) := by decide +kernel
theorem tw_953 : (Jvm.Cond.methodLink "MarshBells$Parser" (227 : Nat) ({ cls := "MarshBells$Parser", name := "readProduct", desc := "(I)V" } : Jvm.MethodName)) ∈ lw_tbl := tk_4 (List.mem_of_getElem? (i := 233) rfl)
theorem tw_956 : (Jvm.Cond.code ({ cls := "MarshBells$Parser", name := "readProduct", desc := "(I)V" } : Jvm.MethodName) prog_8_method_23_code (4 : Nat) (Option.none : Option Jvm.ClassFile.FieldType)) ∈ lw_tbl := tk_4 (List.mem_of_getElem? (i := 236) rfl)
theorem tw_955 : (Jvm.Cond.instanceMethod ({ cls := "MarshBells$Parser", name := "readProduct", desc := "(I)V" } : Jvm.MethodName)) ∈ lw_tbl := tk_4 (List.mem_of_getElem? (i := 235) rfl)
theorem se_X6_readProduct : Cond.selects RX6 yX6_readProduct yX6_readProduct ∈ lw_tbl := List.mem_append_left _ (List.mem_of_getElem? (i := 56) rfl)
theorem li_X6_227 : kLV RX6 227 RX6 yX6_readProduct cX6_readProduct 4 none 1 := ⟨tw_953, tw_955, se_X6_readProduct, tw_956, tw_5, by decide +kernel⟩
theorem dX6_readSum_2 : decode cX6_readSum 2 = .ok (.invokevirtual 227, 3) := by decide +kernel
theorem dX6_readSum_5 : decode cX6_readSum 5 = .ok (.iconst 0, 1) := by decide +kernel
theorem dX6_readSum_6 : decode cX6_readSum 6 = .ok (.istore_n 2, 1) := by decide +kernel
theorem dX6_readSum_7 : decode cX6_readSum 7 = .ok (.iload_n 2, 1) := by decide +kernel
theorem dX6_readSum_8 : decode cX6_readSum 8 = .ok (.sipush 700, 3) := by decide +kernel
theorem dX6_readSum_75 : decode cX6_readSum 75 = .ok (.return_, 1) := by decide +kernel
theorem dX6_readSum_11 : decode cX6_readSum 11 = .ok (.if_icmp .ge 64, 3) := by decide +kernel
theorem dX6_readSum_14 : decode cX6_readSum 14 = .ok (.aload_n 0, 1) := by decide +kernel
theorem dX6_readSum_15 : decode cX6_readSum 15 = .ok (.bipush 43, 2) := by decide +kernel
theorem dX6_readSum_17 : decode cX6_readSum 17 = .ok (.invokevirtual 86, 3) := by decide +kernel
theorem dX6_readSum_32 : decode cX6_readSum 32 = .ok (.aload_n 0, 1) := by decide +kernel
theorem dX6_readSum_33 : decode cX6_readSum 33 = .ok (.bipush 43, 2) := by decide +kernel
theorem dX6_readSum_35 : decode cX6_readSum 35 = .ok (.invokevirtual 86, 3) := by decide +kernel
theorem dX6_readSum_48 : decode cX6_readSum 48 = .ok (.istore_n 3, 1) := by decide +kernel
theorem dX6_readSum_49 : decode cX6_readSum 49 = .ok (.aload_n 0, 1) := by decide +kernel
theorem dX6_readSum_50 : decode cX6_readSum 50 = .ok (.invokevirtual 53, 3) := by decide +kernel
theorem dX6_readSum_53 : decode cX6_readSum 53 = .ok (.aload_n 0, 1) := by decide +kernel
theorem dX6_readSum_54 : decode cX6_readSum 54 = .ok (.iload_n 1, 1) := by decide +kernel
theorem dX6_readSum_55 : decode cX6_readSum 55 = .ok (.invokevirtual 227, 3) := by decide +kernel
theorem dX6_readSum_58 : decode cX6_readSum 58 = .ok (.aload_n 0, 1) := by decide +kernel
theorem dX6_readSum_59 : decode cX6_readSum 59 = .ok (.getfield 15, 3) := by decide +kernel
theorem dX6_readSum_62 : decode cX6_readSum 62 = .ok (.getfield 125, 3) := by decide +kernel
theorem dX6_readSum_65 : decode cX6_readSum 65 = .ok (.iload_n 3, 1) := by decide +kernel
theorem dX6_readSum_66 : decode cX6_readSum 66 = .ok (.invokevirtual 211, 3) := by decide +kernel
theorem dX6_readSum_69 : decode cX6_readSum 69 = .ok (.iinc 2 1, 3) := by decide +kernel
theorem dX6_readSum_72 : decode cX6_readSum 72 = .ok (.goto (-65), 3) := by decide +kernel
theorem dX6_readSum_38 : decode cX6_readSum 38 = .ok (.ifCond .eq 8, 3) := by decide +kernel
theorem dX6_readSum_46 : decode cX6_readSum 46 = .ok (.bipush (-8), 2) := by decide +kernel
theorem dX6_readSum_41 : decode cX6_readSum 41 = .ok (.bipush (-7), 2) := by decide +kernel
theorem dX6_readSum_43 : decode cX6_readSum 43 = .ok (.goto 5, 3) := by decide +kernel
theorem dX6_readSum_20 : decode cX6_readSum 20 = .ok (.ifCond .ne 12, 3) := by decide +kernel
theorem dX6_readSum_23 : decode cX6_readSum 23 = .ok (.aload_n 0, 1) := by decide +kernel
theorem dX6_readSum_24 : decode cX6_readSum 24 = .ok (.bipush 45, 2) := by decide +kernel
theorem dX6_readSum_26 : decode cX6_readSum 26 = .ok (.invokevirtual 86, 3) := by decide +kernel
theorem dX6_readSum_29 : decode cX6_readSum 29 = .ok (.ifCond .eq 46, 3) := by decide +kernel
theorem dX6_readTest_0 : decode cX6_readTest 0 = .ok (.aload_n 0, 1) := by decide +kernel
theorem dX6_readTest_1 : decode cX6_readTest 1 = .ok (.iload_n 1, 1) := by decide +kernel
theorem tw_949 : (Jvm.Cond.methodLink "MarshBells$Parser" (224 : Nat) ({ cls := "MarshBells$Parser", name := "readSum", desc := "(I)V" } : Jvm.MethodName)) ∈ lw_tbl := tk_4 (List.mem_of_getElem? (i := 229) rfl)
theorem tw_952 : (Jvm.Cond.code ({ cls := "MarshBells$Parser", name := "readSum", desc := "(I)V" } : Jvm.MethodName) prog_8_method_22_code (4 : Nat) (Option.none : Option Jvm.ClassFile.FieldType)) ∈ lw_tbl := tk_4 (List.mem_of_getElem? (i := 232) rfl)
theorem tw_951 : (Jvm.Cond.instanceMethod ({ cls := "MarshBells$Parser", name := "readSum", desc := "(I)V" } : Jvm.MethodName)) ∈ lw_tbl := tk_4 (List.mem_of_getElem? (i := 231) rfl)
theorem se_X6_readSum : Cond.selects RX6 yX6_readSum yX6_readSum ∈ lw_tbl := List.mem_append_left _ (List.mem_of_getElem? (i := 55) rfl)
theorem li_X6_224 : kLV RX6 224 RX6 yX6_readSum cX6_readSum 4 none 1 := ⟨tw_949, tw_951, se_X6_readSum, tw_952, tw_5, by decide +kernel⟩
theorem dX6_readTest_2 : decode cX6_readTest 2 = .ok (.invokevirtual 224, 3) := by decide +kernel
theorem dX6_readTest_5 : decode cX6_readTest 5 = .ok (.aload_n 0, 1) := by decide +kernel
theorem dX6_readTest_6 : decode cX6_readTest 6 = .ok (.bipush 60, 2) := by decide +kernel
theorem dX6_readTest_8 : decode cX6_readTest 8 = .ok (.invokevirtual 86, 3) := by decide +kernel
theorem dX6_readTest_68 : decode cX6_readTest 68 = .ok (.return_, 1) := by decide +kernel
theorem dX6_readTest_11 : decode cX6_readTest 11 = .ok (.ifCond .eq 27, 3) := by decide +kernel
theorem dX6_readTest_38 : decode cX6_readTest 38 = .ok (.aload_n 0, 1) := by decide +kernel
theorem dX6_readTest_39 : decode cX6_readTest 39 = .ok (.bipush 61, 2) := by decide +kernel
theorem dX6_readTest_41 : decode cX6_readTest 41 = .ok (.invokevirtual 86, 3) := by decide +kernel
theorem dX6_readTest_44 : decode cX6_readTest 44 = .ok (.ifCond .eq 24, 3) := by decide +kernel
theorem dX6_readTest_47 : decode cX6_readTest 47 = .ok (.aload_n 0, 1) := by decide +kernel
theorem dX6_readTest_48 : decode cX6_readTest 48 = .ok (.invokevirtual 53, 3) := by decide +kernel
theorem dX6_readTest_51 : decode cX6_readTest 51 = .ok (.aload_n 0, 1) := by decide +kernel
theorem dX6_readTest_52 : decode cX6_readTest 52 = .ok (.iload_n 1, 1) := by decide +kernel
theorem dX6_readTest_53 : decode cX6_readTest 53 = .ok (.invokevirtual 224, 3) := by decide +kernel
theorem dX6_readTest_56 : decode cX6_readTest 56 = .ok (.aload_n 0, 1) := by decide +kernel
theorem dX6_readTest_57 : decode cX6_readTest 57 = .ok (.getfield 15, 3) := by decide +kernel
theorem dX6_readTest_60 : decode cX6_readTest 60 = .ok (.getfield 125, 3) := by decide +kernel
theorem dX6_readTest_63 : decode cX6_readTest 63 = .ok (.bipush (-12), 2) := by decide +kernel
theorem dX6_readTest_65 : decode cX6_readTest 65 = .ok (.invokevirtual 211, 3) := by decide +kernel
theorem dX6_readTest_14 : decode cX6_readTest 14 = .ok (.aload_n 0, 1) := by decide +kernel
theorem dX6_readTest_15 : decode cX6_readTest 15 = .ok (.invokevirtual 53, 3) := by decide +kernel
theorem dX6_readTest_18 : decode cX6_readTest 18 = .ok (.aload_n 0, 1) := by decide +kernel
theorem dX6_readTest_19 : decode cX6_readTest 19 = .ok (.iload_n 1, 1) := by decide +kernel
theorem dX6_readTest_20 : decode cX6_readTest 20 = .ok (.invokevirtual 224, 3) := by decide +kernel
theorem dX6_readTest_23 : decode cX6_readTest 23 = .ok (.aload_n 0, 1) := by decide +kernel
theorem dX6_readTest_24 : decode cX6_readTest 24 = .ok (.getfield 15, 3) := by decide +kernel
theorem dX6_readTest_27 : decode cX6_readTest 27 = .ok (.getfield 125, 3) := by decide +kernel
theorem dX6_readTest_30 : decode cX6_readTest 30 = .ok (.bipush (-11), 2) := by decide +kernel
theorem dX6_readTest_32 : decode cX6_readTest 32 = .ok (.invokevirtual 211, 3) := by decide +kernel
theorem dX6_readTest_35 : decode cX6_readTest 35 = .ok (.goto 33, 3) := by decide +kernel
theorem dX6_readNot_0 : decode cX6_readNot 0 = .ok (.iconst 0, 1) := by decide +kernel
theorem dX6_readNot_1 : decode cX6_readNot 1 = .ok (.istore_n 2, 1) := by decide +kernel
theorem dX6_readNot_2 : decode cX6_readNot 2 = .ok (.iload_n 2, 1) := by decide +kernel
theorem dX6_readNot_3 : decode cX6_readNot 3 = .ok (.bipush 6, 2) := by decide +kernel
theorem dX6_readNot_27 : decode cX6_readNot 27 = .ok (.aload_n 0, 1) := by decide +kernel
theorem dX6_readNot_28 : decode cX6_readNot 28 = .ok (.ldc 219, 2) := by decide +kernel
theorem dX6_readNot_30 : decode cX6_readNot 30 = .ok (.invokevirtual 92, 3) := by decide +kernel
theorem dX6_readNot_47 : decode cX6_readNot 47 = .ok (.aload_n 0, 1) := by decide +kernel
theorem dX6_readNot_48 : decode cX6_readNot 48 = .ok (.iload_n 1, 1) := by decide +kernel
theorem tw_945 : (Jvm.Cond.methodLink "MarshBells$Parser" (221 : Nat) ({ cls := "MarshBells$Parser", name := "readTest", desc := "(I)V" } : Jvm.MethodName)) ∈ lw_tbl := tk_4 (List.mem_of_getElem? (i := 225) rfl)
theorem tw_948 : (Jvm.Cond.code ({ cls := "MarshBells$Parser", name := "readTest", desc := "(I)V" } : Jvm.MethodName) prog_8_method_21_code (2 : Nat) (Option.none : Option Jvm.ClassFile.FieldType)) ∈ lw_tbl := tk_4 (List.mem_of_getElem? (i := 228) rfl)
theorem tw_947 : (Jvm.Cond.instanceMethod ({ cls := "MarshBells$Parser", name := "readTest", desc := "(I)V" } : Jvm.MethodName)) ∈ lw_tbl := tk_4 (List.mem_of_getElem? (i := 227) rfl)
theorem se_X6_readTest : Cond.selects RX6 yX6_readTest yX6_readTest ∈ lw_tbl := List.mem_append_left _ (List.mem_of_getElem? (i := 54) rfl)
theorem li_X6_221 : kLV RX6 221 RX6 yX6_readTest cX6_readTest 2 none 1 := ⟨tw_945, tw_947, se_X6_readTest, tw_948, tw_5, by decide +kernel⟩
theorem dX6_readNot_49 : decode cX6_readNot 49 = .ok (.invokevirtual 221, 3) := by decide +kernel
theorem dX6_readNot_52 : decode cX6_readNot 52 = .ok (.iconst 0, 1) := by decide +kernel
theorem dX6_readNot_53 : decode cX6_readNot 53 = .ok (.istore_n 3, 1) := by decide +kernel
theorem dX6_readNot_54 : decode cX6_readNot 54 = .ok (.iload_n 3, 1) := by decide +kernel
theorem dX6_readNot_55 : decode cX6_readNot 55 = .ok (.iload_n 2, 1) := by decide +kernel
theorem dX6_readNot_56 : decode cX6_readNot 56 = .ok (.if_icmp .ge 21, 3) := by decide +kernel
theorem dX6_readNot_77 : decode cX6_readNot 77 = .ok (.return_, 1) := by decide +kernel
theorem dX6_readNot_59 : decode cX6_readNot 59 = .ok (.aload_n 0, 1) := by decide +kernel
theorem dX6_readNot_60 : decode cX6_readNot 60 = .ok (.getfield 15, 3) := by decide +kernel
theorem dX6_readNot_63 : decode cX6_readNot 63 = .ok (.getfield 125, 3) := by decide +kernel
theorem dX6_readNot_66 : decode cX6_readNot 66 = .ok (.bipush (-15), 2) := by decide +kernel
theorem dX6_readNot_68 : decode cX6_readNot 68 = .ok (.invokevirtual 211, 3) := by decide +kernel
theorem dX6_readNot_71 : decode cX6_readNot 71 = .ok (.iinc 3 1, 3) := by decide +kernel
theorem dX6_readNot_74 : decode cX6_readNot 74 = .ok (.goto (-20), 3) := by decide +kernel
theorem dX6_readNot_33 : decode cX6_readNot 33 = .ok (.ifCond .eq 14, 3) := by decide +kernel
theorem dX6_readNot_36 : decode cX6_readNot 36 = .ok (.iload_n 2, 1) := by decide +kernel
theorem dX6_readNot_37 : decode cX6_readNot 37 = .ok (.bipush 6, 2) := by decide +kernel
theorem dX6_readNot_39 : decode cX6_readNot 39 = .ok (.if_icmp .lt 8, 3) := by decide +kernel
theorem dX6_readNot_42 : decode cX6_readNot 42 = .ok (.aload_n 0, 1) := by decide +kernel
theorem dX6_readNot_43 : decode cX6_readNot 43 = .ok (.iconst 2, 1) := by decide +kernel
theorem dX6_readNot_44 : decode cX6_readNot 44 = .ok (.invokevirtual 78, 3) := by decide +kernel
theorem dX6_readNot_5 : decode cX6_readNot 5 = .ok (.if_icmp .ge 22, 3) := by decide +kernel
theorem dX6_readNot_8 : decode cX6_readNot 8 = .ok (.aload_n 0, 1) := by decide +kernel
theorem dX6_readNot_9 : decode cX6_readNot 9 = .ok (.ldc 219, 2) := by decide +kernel
theorem dX6_readNot_11 : decode cX6_readNot 11 = .ok (.invokevirtual 92, 3) := by decide +kernel
theorem dX6_readNot_14 : decode cX6_readNot 14 = .ok (.ifCond .eq 13, 3) := by decide +kernel
theorem dX6_readNot_17 : decode cX6_readNot 17 = .ok (.iinc 2 1, 3) := by decide +kernel
theorem dX6_readNot_20 : decode cX6_readNot 20 = .ok (.aload_n 0, 1) := by decide +kernel
theorem dX6_readNot_21 : decode cX6_readNot 21 = .ok (.invokevirtual 53, 3) := by decide +kernel
theorem dX6_readNot_24 : decode cX6_readNot 24 = .ok (.goto (-22), 3) := by decide +kernel
theorem dX6_readAnd_0 : decode cX6_readAnd 0 = .ok (.aload_n 0, 1) := by decide +kernel
theorem dX6_readAnd_1 : decode cX6_readAnd 1 = .ok (.iload_n 1, 1) := by decide +kernel
theorem tw_940 : (Jvm.Cond.methodLink "MarshBells$Parser" (214 : Nat) ({ cls := "MarshBells$Parser", name := "readNot", desc := "(I)V" } : Jvm.MethodName)) ∈ lw_tbl := tk_4 (List.mem_of_getElem? (i := 220) rfl)
theorem tw_943 : (Jvm.Cond.code ({ cls := "MarshBells$Parser", name := "readNot", desc := "(I)V" } : Jvm.MethodName) prog_8_method_20_code (4 : Nat) (Option.none : Option Jvm.ClassFile.FieldType)) ∈ lw_tbl := tk_4 (List.mem_of_getElem? (i := 223) rfl)
theorem tw_942 : (Jvm.Cond.instanceMethod ({ cls := "MarshBells$Parser", name := "readNot", desc := "(I)V" } : Jvm.MethodName)) ∈ lw_tbl := tk_4 (List.mem_of_getElem? (i := 222) rfl)
theorem se_X6_readNot : Cond.selects RX6 yX6_readNot yX6_readNot ∈ lw_tbl := List.mem_append_left _ (List.mem_of_getElem? (i := 53) rfl)
theorem li_X6_214 : kLV RX6 214 RX6 yX6_readNot cX6_readNot 4 none 1 := ⟨tw_940, tw_942, se_X6_readNot, tw_943, tw_5, by decide +kernel⟩
theorem dX6_readAnd_2 : decode cX6_readAnd 2 = .ok (.invokevirtual 214, 3) := by decide +kernel
theorem dX6_readAnd_5 : decode cX6_readAnd 5 = .ok (.iconst 0, 1) := by decide +kernel
theorem dX6_readAnd_6 : decode cX6_readAnd 6 = .ok (.istore_n 2, 1) := by decide +kernel
theorem dX6_readAnd_7 : decode cX6_readAnd 7 = .ok (.iload_n 2, 1) := by decide +kernel
theorem dX6_readAnd_8 : decode cX6_readAnd 8 = .ok (.sipush 700, 3) := by decide +kernel
theorem dX6_readAnd_50 : decode cX6_readAnd 50 = .ok (.return_, 1) := by decide +kernel
theorem dX6_readAnd_11 : decode cX6_readAnd 11 = .ok (.if_icmp .ge 39, 3) := by decide +kernel
theorem dX6_readAnd_14 : decode cX6_readAnd 14 = .ok (.aload_n 0, 1) := by decide +kernel
theorem dX6_readAnd_15 : decode cX6_readAnd 15 = .ok (.ldc 217, 2) := by decide +kernel
theorem dX6_readAnd_17 : decode cX6_readAnd 17 = .ok (.invokevirtual 92, 3) := by decide +kernel
theorem dX6_readAnd_20 : decode cX6_readAnd 20 = .ok (.ifCond .eq 30, 3) := by decide +kernel
theorem dX6_readAnd_23 : decode cX6_readAnd 23 = .ok (.aload_n 0, 1) := by decide +kernel
theorem dX6_readAnd_24 : decode cX6_readAnd 24 = .ok (.invokevirtual 53, 3) := by decide +kernel
theorem dX6_readAnd_27 : decode cX6_readAnd 27 = .ok (.aload_n 0, 1) := by decide +kernel
theorem dX6_readAnd_28 : decode cX6_readAnd 28 = .ok (.iload_n 1, 1) := by decide +kernel
theorem dX6_readAnd_29 : decode cX6_readAnd 29 = .ok (.invokevirtual 214, 3) := by decide +kernel
theorem dX6_readAnd_32 : decode cX6_readAnd 32 = .ok (.aload_n 0, 1) := by decide +kernel
theorem dX6_readAnd_33 : decode cX6_readAnd 33 = .ok (.getfield 15, 3) := by decide +kernel
theorem dX6_readAnd_36 : decode cX6_readAnd 36 = .ok (.getfield 125, 3) := by decide +kernel
theorem dX6_readAnd_39 : decode cX6_readAnd 39 = .ok (.bipush (-13), 2) := by decide +kernel
theorem dX6_readAnd_41 : decode cX6_readAnd 41 = .ok (.invokevirtual 211, 3) := by decide +kernel
theorem dX6_readAnd_44 : decode cX6_readAnd 44 = .ok (.iinc 2 1, 3) := by decide +kernel
theorem dX6_readAnd_47 : decode cX6_readAnd 47 = .ok (.goto (-40), 3) := by decide +kernel
theorem dX6_readExpr_0 : decode cX6_readExpr 0 = .ok (.iload_n 1, 1) := by decide +kernel
theorem dX6_readExpr_1 : decode cX6_readExpr 1 = .ok (.iconst 5, 1) := by decide +kernel
theorem dX6_readExpr_35 : decode cX6_readExpr 35 = .ok (.aload_n 0, 1) := by decide +kernel
theorem dX6_readExpr_36 : decode cX6_readExpr 36 = .ok (.iload_n 1, 1) := by decide +kernel
theorem tw_936 : (Jvm.Cond.methodLink "MarshBells$Parser" (206 : Nat) ({ cls := "MarshBells$Parser", name := "readAnd", desc := "(I)V" } : Jvm.MethodName)) ∈ lw_tbl := tk_4 (List.mem_of_getElem? (i := 216) rfl)
theorem tw_939 : (Jvm.Cond.code ({ cls := "MarshBells$Parser", name := "readAnd", desc := "(I)V" } : Jvm.MethodName) prog_8_method_19_code (3 : Nat) (Option.none : Option Jvm.ClassFile.FieldType)) ∈ lw_tbl := tk_4 (List.mem_of_getElem? (i := 219) rfl)
theorem tw_938 : (Jvm.Cond.instanceMethod ({ cls := "MarshBells$Parser", name := "readAnd", desc := "(I)V" } : Jvm.MethodName)) ∈ lw_tbl := tk_4 (List.mem_of_getElem? (i := 218) rfl)
theorem se_X6_readAnd : Cond.selects RX6 yX6_readAnd yX6_readAnd ∈ lw_tbl := List.mem_append_left _ (List.mem_of_getElem? (i := 52) rfl)
theorem li_X6_206 : kLV RX6 206 RX6 yX6_readAnd cX6_readAnd 3 none 1 := ⟨tw_936, tw_938, se_X6_readAnd, tw_939, tw_5, by decide +kernel⟩
theorem dX6_readExpr_37 : decode cX6_readExpr 37 = .ok (.invokevirtual 206, 3) := by decide +kernel
theorem dX6_readExpr_40 : decode cX6_readExpr 40 = .ok (.iconst 0, 1) := by decide +kernel
theorem dX6_readExpr_41 : decode cX6_readExpr 41 = .ok (.istore_n 2, 1) := by decide +kernel
theorem dX6_readExpr_42 : decode cX6_readExpr 42 = .ok (.iload_n 2, 1) := by decide +kernel
theorem dX6_readExpr_43 : decode cX6_readExpr 43 = .ok (.sipush 700, 3) := by decide +kernel
theorem dX6_readExpr_85 : decode cX6_readExpr 85 = .ok (.return_, 1) := by decide +kernel
theorem dX6_readExpr_46 : decode cX6_readExpr 46 = .ok (.if_icmp .ge 39, 3) := by decide +kernel
theorem dX6_readExpr_49 : decode cX6_readExpr 49 = .ok (.aload_n 0, 1) := by decide +kernel
theorem dX6_readExpr_50 : decode cX6_readExpr 50 = .ok (.ldc 209, 2) := by decide +kernel
theorem dX6_readExpr_52 : decode cX6_readExpr 52 = .ok (.invokevirtual 92, 3) := by decide +kernel
theorem dX6_readExpr_55 : decode cX6_readExpr 55 = .ok (.ifCond .eq 30, 3) := by decide +kernel
theorem dX6_readExpr_58 : decode cX6_readExpr 58 = .ok (.aload_n 0, 1) := by decide +kernel
theorem dX6_readExpr_59 : decode cX6_readExpr 59 = .ok (.invokevirtual 53, 3) := by decide +kernel
theorem dX6_readExpr_62 : decode cX6_readExpr 62 = .ok (.aload_n 0, 1) := by decide +kernel
theorem dX6_readExpr_63 : decode cX6_readExpr 63 = .ok (.iload_n 1, 1) := by decide +kernel
theorem dX6_readExpr_64 : decode cX6_readExpr 64 = .ok (.invokevirtual 206, 3) := by decide +kernel
theorem dX6_readExpr_67 : decode cX6_readExpr 67 = .ok (.aload_n 0, 1) := by decide +kernel
theorem dX6_readExpr_68 : decode cX6_readExpr 68 = .ok (.getfield 15, 3) := by decide +kernel
theorem dX6_readExpr_71 : decode cX6_readExpr 71 = .ok (.getfield 125, 3) := by decide +kernel
theorem dX6_readExpr_74 : decode cX6_readExpr 74 = .ok (.bipush (-14), 2) := by decide +kernel
theorem dX6_readExpr_76 : decode cX6_readExpr 76 = .ok (.invokevirtual 211, 3) := by decide +kernel
theorem dX6_readExpr_79 : decode cX6_readExpr 79 = .ok (.iinc 2 1, 3) := by decide +kernel
theorem dX6_readExpr_82 : decode cX6_readExpr 82 = .ok (.goto (-40), 3) := by decide +kernel
theorem dX6_readExpr_2 : decode cX6_readExpr 2 = .ok (.if_icmp .le 33, 3) := by decide +kernel
theorem dX6_readExpr_5 : decode cX6_readExpr 5 = .ok (.aload_n 0, 1) := by decide +kernel
theorem dX6_readExpr_6 : decode cX6_readExpr 6 = .ok (.getfield 50, 3) := by decide +kernel
theorem dX6_readExpr_9 : decode cX6_readExpr 9 = .ok (.iconst 1, 1) := by decide +kernel
theorem dX6_readExpr_30 : decode cX6_readExpr 30 = .ok (.aload_n 0, 1) := by decide +kernel
theorem dX6_readExpr_31 : decode cX6_readExpr 31 = .ok (.iconst 2, 1) := by decide +kernel
theorem dX6_readExpr_32 : decode cX6_readExpr 32 = .ok (.invokevirtual 78, 3) := by decide +kernel
theorem dX6_readExpr_10 : decode cX6_readExpr 10 = .ok (.if_icmp .eq 20, 3) := by decide +kernel
theorem dX6_readExpr_13 : decode cX6_readExpr 13 = .ok (.aload_n 0, 1) := by decide +kernel
theorem dX6_readExpr_14 : decode cX6_readExpr 14 = .ok (.getfield 50, 3) := by decide +kernel
theorem dX6_readExpr_17 : decode cX6_readExpr 17 = .ok (.iconst 2, 1) := by decide +kernel
theorem dX6_readExpr_18 : decode cX6_readExpr 18 = .ok (.if_icmp .eq 12, 3) := by decide +kernel
theorem dX6_readExpr_21 : decode cX6_readExpr 21 = .ok (.aload_n 0, 1) := by decide +kernel
theorem dX6_readExpr_22 : decode cX6_readExpr 22 = .ok (.bipush 40, 2) := by decide +kernel
theorem dX6_readExpr_24 : decode cX6_readExpr 24 = .ok (.invokevirtual 86, 3) := by decide +kernel
theorem dX6_readExpr_27 : decode cX6_readExpr 27 = .ok (.ifCond .eq 8, 3) := by decide +kernel
theorem dX6_readRule_0 : decode cX6_readRule 0 = .ok (.aload_n 0, 1) := by decide +kernel
theorem dX6_readRule_1 : decode cX6_readRule 1 = .ok (.getfield 15, 3) := by decide +kernel
theorem dX6_readRule_4 : decode cX6_readRule 4 = .ok (.getfield 125, 3) := by decide +kernel
theorem dX6_readRule_7 : decode cX6_readRule 7 = .ok (.getfield 129, 3) := by decide +kernel
theorem dX6_readRule_10 : decode cX6_readRule 10 = .ok (.iconst 4, 1) := by decide +kernel
theorem dX6_readRule_19 : decode cX6_readRule 19 = .ok (.aload_n 0, 1) := by decide +kernel
theorem dX6_readRule_20 : decode cX6_readRule 20 = .ok (.invokevirtual 53, 3) := by decide +kernel
theorem dX6_readRule_23 : decode cX6_readRule 23 = .ok (.aload_n 0, 1) := by decide +kernel
theorem dX6_readRule_24 : decode cX6_readRule 24 = .ok (.iconst 0, 1) := by decide +kernel
theorem dX6_readRule_25 : decode cX6_readRule 25 = .ok (.invokevirtual 134, 3) := by decide +kernel
theorem dX6_readRule_28 : decode cX6_readRule 28 = .ok (.aload_n 0, 1) := by decide +kernel
theorem dX6_readRule_29 : decode cX6_readRule 29 = .ok (.getfield 15, 3) := by decide +kernel
theorem dX6_readRule_32 : decode cX6_readRule 32 = .ok (.getfield 125, 3) := by decide +kernel
theorem tw_980 : (Jvm.Cond.methodLinkNest "MarshBells$Parser" (137 : Nat) ({ cls := "MarshBells$Rules", name := "close", desc := "()V" } : Jvm.MethodName) "MarshBells") ∈ lw_tbl := tk_5 (List.mem_of_getElem? (i := 20) rfl)
theorem tw_983 : (Jvm.Cond.code ({ cls := "MarshBells$Rules", name := "close", desc := "()V" } : Jvm.MethodName) prog_10_method_4_code (1 : Nat) (Option.none : Option Jvm.ClassFile.FieldType)) ∈ lw_tbl := tk_5 (List.mem_of_getElem? (i := 23) rfl)
theorem tw_982 : (Jvm.Cond.instanceMethod ({ cls := "MarshBells$Rules", name := "close", desc := "()V" } : Jvm.MethodName)) ∈ lw_tbl := tk_5 (List.mem_of_getElem? (i := 22) rfl)
theorem se_X8_close : Cond.selects RX8 yX8_close yX8_close ∈ lw_tbl := List.mem_append_left _ (List.mem_of_getElem? (i := 61) rfl)
theorem li_X6_137 : kLN RX6 137 RX8 yX8_close "MarshBells" cX8_close 1 none 0 := ⟨tw_980, tw_982, se_X8_close, tw_983, tw_3, by decide +kernel⟩
theorem dX6_readRule_35 : decode cX6_readRule 35 = .ok (.invokevirtual 137, 3) := by decide +kernel
theorem dX6_readRule_38 : decode cX6_readRule 38 = .ok (.return_, 1) := by decide +kernel
theorem dX6_readRule_11 : decode cX6_readRule 11 = .ok (.if_icmp .lt 8, 3) := by decide +kernel
theorem dX6_readRule_14 : decode cX6_readRule 14 = .ok (.aload_n 0, 1) := by decide +kernel
theorem dX6_readRule_15 : decode cX6_readRule 15 = .ok (.iconst 2, 1) := by decide +kernel
theorem dX6_readRule_16 : decode cX6_readRule 16 = .ok (.invokevirtual 78, 3) := by decide +kernel
def fX6_isWord_5_over_p24 (fu : Nat) (g : Nat → Nat → Int32) (L : Nat → Nat → Int64) : Option ((Int32) × zS) :=
  ckb 0 (some (0, (g, L)))
def fX6_isWord_5_over_s28 (fu : Nat) (k28 : Int32 × (Nat → Nat → Int32) × (Nat → Nat → Int64) → Option ((Int32) × zS)) (v2 : Int32) (g : Nat → Nat → Int32) (L : Nat → Nat → Int64) : Option ((Int32) × zS) :=
  if 4 ≤ (v2 : Int32) then ckb 1 (some (1, (g, L)))
  else ck ((g 5 5) + v2) 700 (
  ck v2 4 (
  if (g 14 (Int32.toNatClampNeg ((g 5 5) + v2))) = (sch 12 (Int32.toNatClampNeg v2)) then k28 ((v2 + 1), g, L)
  else ckb 0 (some (0, (g, L)))))
def fX6_isWord_5_over_l28 (fu : Nat) (v2 : Int32) (g : Nat → Nat → Int32) (L : Nat → Nat → Int64) : Option ((Int32) × zS) :=
  whileK (fun k v => fX6_isWord_5_over_s28 fu k v.1 v.2.1 v.2.2) fu (v2, g, L)
def fX6_isWord_5_over (fu : Nat) (g : Nat → Nat → Int32) (L : Nat → Nat → Int64) : Option ((Int32) × zS) :=
  if (g 5 4) = 2 then (if ((g 5 3) - (g 5 5)) = 4 then fX6_isWord_5_over_l28 fu 0 g L
  else fX6_isWord_5_over_p24 fu g L)
  else fX6_isWord_5_over_p24 fu g L
set_option maxHeartbeats 4000000 in
set_option maxRecDepth 100000 in
theorem rX6_isWord_5_over (l : Launch) (G : kG) (sz : Nat) (a : Nat → Nat) (fu : Nat) (g : Nat → Nat → Int32) (L : Nat → Nat → Int64) (res : Int32) (s9 : zS) (h : fX6_isWord_5_over fu g L = some (res, s9)) : kM l yX6_isWord cX6_isWord 3 (some .boolean) { frames := 10, cells := 0, slots := 0, locals := 195 } G [.ref (a 5), .ref (G.2.2.2.2.2.1 12)] (zw G (XS 2) 105 a g L) sz (kQi G (S := Unit) (fun r' _ => r' = res) (fun _ => zw G (XS 2) 105 a s9.1 s9.2)) := by
  refine kM.of (by decide) (Nat.le_of_ble_eq_true rfl) ?_
  intro p e s m below meth c A ls H C hr hlk hnm hP hD hS hl
  have C : kC G p s m c cX6_isWord 3 RX6 A := C
  have hx := C.1
  have hb := C.2.1
  have hl : lv_has ls 3 [(0, .ref (a 5)), (1, .ref (G.2.2.2.2.2.1 12))] := hl
  obtain ⟨locs, hlocs⟩ : ∃ q : List Loc, q = [] := ⟨_, rfl⟩
  rw [← hlocs] at hS
  rw [← hlocs]
  unfold fX6_isWord_5_over at h
  refine lv_aload_n hx hb dX6_isWord_0 rfl (lv_at hl 0 rfl) ?_
  refine x_getv (v := .int (g 5 4)) (Or.inl fl_X6_50) C hP (by decide) xs_5 rfl dX6_isWord_1 ?_
  refine lv_iconst (v := 2) hx hb dX6_isWord_4 (by decide) ?_
  have J24 : ∀ (g : Nat → Nat → Int32) (L : Nat → Nat → Int64) (H : Heap) (locs : List Loc) (ls : Array Slot), fX6_isWord_5_over_p24 fu g L = some (res, s9) → va_P G.1 vwCl (zw G (XS 2) 105 a g L) H → va_D A (zw G (XS 2) 105 a g L) → va_S A s.heap H locs → lv_has ls 3 [] → W p l e { frames := 10, cells := 0, slots := 0, locals := 195 } s m [.ref (a 5), .ref (G.2.2.2.2.2.1 12)].toArray below meth c H locs 0 0 (MQ below ((kQi G (S := Unit) (fun r' _ => r' = res) (fun _ => zw G (XS 2) 105 a s9.1 s9.2)) A) [.ref (a 5), .ref (G.2.2.2.2.2.1 12)].toArray s 0 0 A) (F0 m 24 ls []) := by
    intro g L H locs ls h hP hD hS hl
    unfold fX6_isWord_5_over_p24 at h
    refine lv_iconst (v := 0) hx hb dX6_isWord_24 (by decide) ?_
    exact y_zret C hr hlk hP hD hS h (Nat.le_of_ble_eq_true rfl) (Nat.le_of_ble_eq_true rfl) dX6_isWord_25
  refine lv_icmp_ne (x := (g 5 4)) (y := 2) (tgt := 24) hx hb dX6_isWord_5 (by decide) (fun c1 => ?_) (fun c1 => ?_)
  ·
    have h := ite_e c1 h
    exact J24 g L H locs ls h hP hD hS (lv_sub hl [] rfl)
  ·
    have h := ite_t c1 h
    refine lv_aload_n hx hb dX6_isWord_8 rfl (lv_at hl 0 rfl) ?_
    refine x_getv (v := .int (g 5 3)) (Or.inl fl_X6_34) C hP (by decide) xs_5 rfl dX6_isWord_9 ?_
    refine lv_aload_n hx hb dX6_isWord_12 rfl (lv_at hl 0 rfl) ?_
    refine x_getv (v := .int (g 5 5)) (Or.inl fl_X6_59) C hP (by decide) xs_5 rfl dX6_isWord_13 ?_
    refine lv_isub hx hb dX6_isWord_16 ?_
    refine lv_aload_n hx hb dX6_isWord_17 rfl (lv_at hl 1 rfl) ?_
    refine y_slen (v := 4) C (by decide) (by decide) hP hD hS (kR rfl) hl.1 (Nat.le_of_ble_eq_true rfl) dX6_isWord_18 (fun H locs hP hD hS => ?_)
    refine lv_icmp_eq (x := ((g 5 3) - (g 5 5))) (y := 4) (tgt := 26) hx hb dX6_isWord_21 (by decide) (fun c2 => ?_) (fun c2 => ?_)
    ·
      have h := ite_t c2 h
      refine lv_iconst (v := 0) hx hb dX6_isWord_26 (by decide) ?_
      refine lv_istore_n (lv' := [(2, .int 0), (0, .ref (a 5)), (1, .ref (G.2.2.2.2.2.1 12))]) hx hb dX6_isWord_27 rfl hl (by decide) rfl (fun ls hl => ?_)
      have lp28 : ∀ (_ : True), ∀ (n : Nat) (v : Int32 × (Nat → Nat → Int32) × (Nat → Nat → Int64)), whileK (fun k v => fX6_isWord_5_over_s28 fu k v.1 v.2.1 v.2.2) n v = some (res, s9) → ∀ (H : Heap) (locs : List Loc) (ls : Array Slot), va_P G.1 vwCl (zw G (XS 2) 105 a (v.2.1) (v.2.2)) H → va_D A (zw G (XS 2) 105 a (v.2.1) (v.2.2)) → va_S A s.heap H locs → lv_has ls 3 [(0, .ref (a 5)), (1, .ref (G.2.2.2.2.2.1 12)), (2, .int (v.1))] → W p l e { frames := 10, cells := 0, slots := 0, locals := 195 } s m [.ref (a 5), .ref (G.2.2.2.2.2.1 12)].toArray below meth c H locs 0 0 (MQ below ((kQi G (S := Unit) (fun r' _ => r' = res) (fun _ => zw G (XS 2) 105 a s9.1 s9.2)) A) [.ref (a 5), .ref (G.2.2.2.2.2.1 12)].toArray s 0 0 A) (F0 m 28 ls []) := by
        intro _
        refine while_ind (fun k28 ih28 v h => ?_)
        obtain ⟨v2, g, L⟩ := v
        intro H locs ls hP hD hS hl
        have h : fX6_isWord_5_over_s28 fu k28 v2 g L = some (res, s9) := h
        have hP : va_P G.1 vwCl (zw G (XS 2) 105 a g L) H := hP
        have hD : va_D A (zw G (XS 2) 105 a g L) := hD
        have hl : lv_has ls 3 [(0, .ref (a 5)), (1, .ref (G.2.2.2.2.2.1 12)), (2, .int v2)] := hl
        show W p l e { frames := 10, cells := 0, slots := 0, locals := 195 } s m [.ref (a 5), .ref (G.2.2.2.2.2.1 12)].toArray below meth c H locs 0 0 (MQ below ((kQi G (S := Unit) (fun r' _ => r' = res) (fun _ => zw G (XS 2) 105 a s9.1 s9.2)) A) [.ref (a 5), .ref (G.2.2.2.2.2.1 12)].toArray s 0 0 A) (F0 m 28 ls [])
        unfold fX6_isWord_5_over_s28 at h
        refine lv_iload_n hx hb dX6_isWord_28 rfl (lv_at hl 2 rfl) ?_
        refine lv_aload_n hx hb dX6_isWord_29 rfl (lv_at hl 1 rfl) ?_
        refine y_slen (v := 4) C (by decide) (by decide) hP hD hS (kR rfl) hl.1 (Nat.le_of_ble_eq_true rfl) dX6_isWord_30 (fun H locs hP hD hS => ?_)
        refine lv_icmp_ge (x := v2) (y := 4) (tgt := 63) hx hb dX6_isWord_33 (by decide) (fun c3 => ?_) (fun c3 => ?_)
        ·
          have h := ite_t c3 h
          refine lv_iconst (v := 1) hx hb dX6_isWord_63 (by decide) ?_
          exact y_zret C hr hlk hP hD hS h (Nat.le_of_ble_eq_true rfl) (Nat.le_of_ble_eq_true rfl) dX6_isWord_64
        ·
          have h := ite_e c3 h
          refine lv_aload_n hx hb dX6_isWord_36 rfl (lv_at hl 0 rfl) ?_
          refine x_getr (Or.inl fl_X6_9) C hP (by decide) xs_5 rfl dX6_isWord_37 ?_
          refine lv_aload_n hx hb dX6_isWord_40 rfl (lv_at hl 0 rfl) ?_
          refine x_getv (v := .int (g 5 5)) (Or.inl fl_X6_59) C hP (by decide) xs_5 rfl dX6_isWord_41 ?_
          refine lv_iload_n hx hb dX6_isWord_44 rfl (lv_at hl 2 rfl) ?_
          refine lv_iadd hx hb dX6_isWord_45 ?_
          refine y_ald C hP (by decide) xs_14 dX6_isWord_46 h (fun h => ?_)
          refine lv_aload_n hx hb dX6_isWord_47 rfl (lv_at hl 1 rfl) ?_
          refine lv_iload_n hx hb dX6_isWord_48 rfl (lv_at hl 2 rfl) ?_
          refine y_schr (N := 4) C (by decide) (by decide) hP hD hS (kR rfl) hl.1 (Nat.le_of_ble_eq_true rfl) dX6_isWord_49 h (fun H locs h hP hD hS => ?_)
          refine lv_icmp_eq (x := (g 14 (Int32.toNatClampNeg ((g 5 5) + v2)))) (y := (sch 12 (Int32.toNatClampNeg v2))) (tgt := 57) hx hb dX6_isWord_52 (by decide) (fun c4 => ?_) (fun c4 => ?_)
          ·
            have h := ite_t c4 h
            refine lv_iinc (v := (v2 + 1)) (lv' := [(2, .int (v2 + 1)), (0, .ref (a 5)), (1, .ref (G.2.2.2.2.2.1 12))]) hx hb dX6_isWord_57 hl (k := 2) rfl rfl (by decide) rfl (fun ls hl => ?_)
            refine lv_goto (tgt := 28) hx hb dX6_isWord_60 (by decide) ?_
            exact ih28 ((v2 + 1), g, L) h H locs ls hP hD hS (lv_sub hl [1, 2, 0] rfl)
          ·
            have h := ite_e c4 h
            refine lv_iconst (v := 0) hx hb dX6_isWord_55 (by decide) ?_
            exact y_zret C hr hlk hP hD hS h (Nat.le_of_ble_eq_true rfl) (Nat.le_of_ble_eq_true rfl) dX6_isWord_56
      exact lp28 trivial fu (0, g, L) h H locs ls hP hD hS (lv_sub hl [1, 2, 0] rfl)
    ·
      have h := ite_e c2 h
      exact J24 g L H locs ls h hP hD hS (lv_sub hl [] rfl)
def fX6_isWord_5_late_p24 (fu : Nat) (g : Nat → Nat → Int32) (L : Nat → Nat → Int64) : Option ((Int32) × zS) :=
  ckb 0 (some (0, (g, L)))
def fX6_isWord_5_late_s28 (fu : Nat) (k28 : Int32 × (Nat → Nat → Int32) × (Nat → Nat → Int64) → Option ((Int32) × zS)) (v2 : Int32) (g : Nat → Nat → Int32) (L : Nat → Nat → Int64) : Option ((Int32) × zS) :=
  if 4 ≤ (v2 : Int32) then ckb 1 (some (1, (g, L)))
  else ck ((g 5 5) + v2) 700 (
  ck v2 4 (
  if (g 14 (Int32.toNatClampNeg ((g 5 5) + v2))) = (sch 13 (Int32.toNatClampNeg v2)) then k28 ((v2 + 1), g, L)
  else ckb 0 (some (0, (g, L)))))
def fX6_isWord_5_late_l28 (fu : Nat) (v2 : Int32) (g : Nat → Nat → Int32) (L : Nat → Nat → Int64) : Option ((Int32) × zS) :=
  whileK (fun k v => fX6_isWord_5_late_s28 fu k v.1 v.2.1 v.2.2) fu (v2, g, L)
def fX6_isWord_5_late (fu : Nat) (g : Nat → Nat → Int32) (L : Nat → Nat → Int64) : Option ((Int32) × zS) :=
  if (g 5 4) = 2 then (if ((g 5 3) - (g 5 5)) = 4 then fX6_isWord_5_late_l28 fu 0 g L
  else fX6_isWord_5_late_p24 fu g L)
  else fX6_isWord_5_late_p24 fu g L
set_option maxHeartbeats 4000000 in
set_option maxRecDepth 100000 in
theorem rX6_isWord_5_late (l : Launch) (G : kG) (sz : Nat) (a : Nat → Nat) (fu : Nat) (g : Nat → Nat → Int32) (L : Nat → Nat → Int64) (res : Int32) (s9 : zS) (h : fX6_isWord_5_late fu g L = some (res, s9)) : kM l yX6_isWord cX6_isWord 3 (some .boolean) { frames := 10, cells := 0, slots := 0, locals := 195 } G [.ref (a 5), .ref (G.2.2.2.2.2.1 13)] (zw G (XS 2) 105 a g L) sz (kQi G (S := Unit) (fun r' _ => r' = res) (fun _ => zw G (XS 2) 105 a s9.1 s9.2)) := by
  refine kM.of (by decide) (Nat.le_of_ble_eq_true rfl) ?_
  intro p e s m below meth c A ls H C hr hlk hnm hP hD hS hl
  have C : kC G p s m c cX6_isWord 3 RX6 A := C
  have hx := C.1
  have hb := C.2.1
  have hl : lv_has ls 3 [(0, .ref (a 5)), (1, .ref (G.2.2.2.2.2.1 13))] := hl
  obtain ⟨locs, hlocs⟩ : ∃ q : List Loc, q = [] := ⟨_, rfl⟩
  rw [← hlocs] at hS
  rw [← hlocs]
  unfold fX6_isWord_5_late at h
  refine lv_aload_n hx hb dX6_isWord_0 rfl (lv_at hl 0 rfl) ?_
  refine x_getv (v := .int (g 5 4)) (Or.inl fl_X6_50) C hP (by decide) xs_5 rfl dX6_isWord_1 ?_
  refine lv_iconst (v := 2) hx hb dX6_isWord_4 (by decide) ?_
  have J24 : ∀ (g : Nat → Nat → Int32) (L : Nat → Nat → Int64) (H : Heap) (locs : List Loc) (ls : Array Slot), fX6_isWord_5_late_p24 fu g L = some (res, s9) → va_P G.1 vwCl (zw G (XS 2) 105 a g L) H → va_D A (zw G (XS 2) 105 a g L) → va_S A s.heap H locs → lv_has ls 3 [] → W p l e { frames := 10, cells := 0, slots := 0, locals := 195 } s m [.ref (a 5), .ref (G.2.2.2.2.2.1 13)].toArray below meth c H locs 0 0 (MQ below ((kQi G (S := Unit) (fun r' _ => r' = res) (fun _ => zw G (XS 2) 105 a s9.1 s9.2)) A) [.ref (a 5), .ref (G.2.2.2.2.2.1 13)].toArray s 0 0 A) (F0 m 24 ls []) := by
    intro g L H locs ls h hP hD hS hl
    unfold fX6_isWord_5_late_p24 at h
    refine lv_iconst (v := 0) hx hb dX6_isWord_24 (by decide) ?_
    exact y_zret C hr hlk hP hD hS h (Nat.le_of_ble_eq_true rfl) (Nat.le_of_ble_eq_true rfl) dX6_isWord_25
  refine lv_icmp_ne (x := (g 5 4)) (y := 2) (tgt := 24) hx hb dX6_isWord_5 (by decide) (fun c1 => ?_) (fun c1 => ?_)
  ·
    have h := ite_e c1 h
    exact J24 g L H locs ls h hP hD hS (lv_sub hl [] rfl)
  ·
    have h := ite_t c1 h
    refine lv_aload_n hx hb dX6_isWord_8 rfl (lv_at hl 0 rfl) ?_
    refine x_getv (v := .int (g 5 3)) (Or.inl fl_X6_34) C hP (by decide) xs_5 rfl dX6_isWord_9 ?_
    refine lv_aload_n hx hb dX6_isWord_12 rfl (lv_at hl 0 rfl) ?_
    refine x_getv (v := .int (g 5 5)) (Or.inl fl_X6_59) C hP (by decide) xs_5 rfl dX6_isWord_13 ?_
    refine lv_isub hx hb dX6_isWord_16 ?_
    refine lv_aload_n hx hb dX6_isWord_17 rfl (lv_at hl 1 rfl) ?_
    refine y_slen (v := 4) C (by decide) (by decide) hP hD hS (kR rfl) hl.1 (Nat.le_of_ble_eq_true rfl) dX6_isWord_18 (fun H locs hP hD hS => ?_)
    refine lv_icmp_eq (x := ((g 5 3) - (g 5 5))) (y := 4) (tgt := 26) hx hb dX6_isWord_21 (by decide) (fun c2 => ?_) (fun c2 => ?_)
    ·
      have h := ite_t c2 h
      refine lv_iconst (v := 0) hx hb dX6_isWord_26 (by decide) ?_
      refine lv_istore_n (lv' := [(2, .int 0), (0, .ref (a 5)), (1, .ref (G.2.2.2.2.2.1 13))]) hx hb dX6_isWord_27 rfl hl (by decide) rfl (fun ls hl => ?_)
      have lp28 : ∀ (_ : True), ∀ (n : Nat) (v : Int32 × (Nat → Nat → Int32) × (Nat → Nat → Int64)), whileK (fun k v => fX6_isWord_5_late_s28 fu k v.1 v.2.1 v.2.2) n v = some (res, s9) → ∀ (H : Heap) (locs : List Loc) (ls : Array Slot), va_P G.1 vwCl (zw G (XS 2) 105 a (v.2.1) (v.2.2)) H → va_D A (zw G (XS 2) 105 a (v.2.1) (v.2.2)) → va_S A s.heap H locs → lv_has ls 3 [(0, .ref (a 5)), (1, .ref (G.2.2.2.2.2.1 13)), (2, .int (v.1))] → W p l e { frames := 10, cells := 0, slots := 0, locals := 195 } s m [.ref (a 5), .ref (G.2.2.2.2.2.1 13)].toArray below meth c H locs 0 0 (MQ below ((kQi G (S := Unit) (fun r' _ => r' = res) (fun _ => zw G (XS 2) 105 a s9.1 s9.2)) A) [.ref (a 5), .ref (G.2.2.2.2.2.1 13)].toArray s 0 0 A) (F0 m 28 ls []) := by
        intro _
        refine while_ind (fun k28 ih28 v h => ?_)
        obtain ⟨v2, g, L⟩ := v
        intro H locs ls hP hD hS hl
        have h : fX6_isWord_5_late_s28 fu k28 v2 g L = some (res, s9) := h
        have hP : va_P G.1 vwCl (zw G (XS 2) 105 a g L) H := hP
        have hD : va_D A (zw G (XS 2) 105 a g L) := hD
        have hl : lv_has ls 3 [(0, .ref (a 5)), (1, .ref (G.2.2.2.2.2.1 13)), (2, .int v2)] := hl
        show W p l e { frames := 10, cells := 0, slots := 0, locals := 195 } s m [.ref (a 5), .ref (G.2.2.2.2.2.1 13)].toArray below meth c H locs 0 0 (MQ below ((kQi G (S := Unit) (fun r' _ => r' = res) (fun _ => zw G (XS 2) 105 a s9.1 s9.2)) A) [.ref (a 5), .ref (G.2.2.2.2.2.1 13)].toArray s 0 0 A) (F0 m 28 ls [])
        unfold fX6_isWord_5_late_s28 at h
        refine lv_iload_n hx hb dX6_isWord_28 rfl (lv_at hl 2 rfl) ?_
        refine lv_aload_n hx hb dX6_isWord_29 rfl (lv_at hl 1 rfl) ?_
        refine y_slen (v := 4) C (by decide) (by decide) hP hD hS (kR rfl) hl.1 (Nat.le_of_ble_eq_true rfl) dX6_isWord_30 (fun H locs hP hD hS => ?_)
        refine lv_icmp_ge (x := v2) (y := 4) (tgt := 63) hx hb dX6_isWord_33 (by decide) (fun c3 => ?_) (fun c3 => ?_)
        ·
          have h := ite_t c3 h
          refine lv_iconst (v := 1) hx hb dX6_isWord_63 (by decide) ?_
          exact y_zret C hr hlk hP hD hS h (Nat.le_of_ble_eq_true rfl) (Nat.le_of_ble_eq_true rfl) dX6_isWord_64
        ·
          have h := ite_e c3 h
          refine lv_aload_n hx hb dX6_isWord_36 rfl (lv_at hl 0 rfl) ?_
          refine x_getr (Or.inl fl_X6_9) C hP (by decide) xs_5 rfl dX6_isWord_37 ?_
          refine lv_aload_n hx hb dX6_isWord_40 rfl (lv_at hl 0 rfl) ?_
          refine x_getv (v := .int (g 5 5)) (Or.inl fl_X6_59) C hP (by decide) xs_5 rfl dX6_isWord_41 ?_
          refine lv_iload_n hx hb dX6_isWord_44 rfl (lv_at hl 2 rfl) ?_
          refine lv_iadd hx hb dX6_isWord_45 ?_
          refine y_ald C hP (by decide) xs_14 dX6_isWord_46 h (fun h => ?_)
          refine lv_aload_n hx hb dX6_isWord_47 rfl (lv_at hl 1 rfl) ?_
          refine lv_iload_n hx hb dX6_isWord_48 rfl (lv_at hl 2 rfl) ?_
          refine y_schr (N := 4) C (by decide) (by decide) hP hD hS (kR rfl) hl.1 (Nat.le_of_ble_eq_true rfl) dX6_isWord_49 h (fun H locs h hP hD hS => ?_)
          refine lv_icmp_eq (x := (g 14 (Int32.toNatClampNeg ((g 5 5) + v2)))) (y := (sch 13 (Int32.toNatClampNeg v2))) (tgt := 57) hx hb dX6_isWord_52 (by decide) (fun c4 => ?_) (fun c4 => ?_)
          ·
            have h := ite_t c4 h
            refine lv_iinc (v := (v2 + 1)) (lv' := [(2, .int (v2 + 1)), (0, .ref (a 5)), (1, .ref (G.2.2.2.2.2.1 13))]) hx hb dX6_isWord_57 hl (k := 2) rfl rfl (by decide) rfl (fun ls hl => ?_)
            refine lv_goto (tgt := 28) hx hb dX6_isWord_60 (by decide) ?_
            exact ih28 ((v2 + 1), g, L) h H locs ls hP hD hS (lv_sub hl [1, 2, 0] rfl)
          ·
            have h := ite_e c4 h
            refine lv_iconst (v := 0) hx hb dX6_isWord_55 (by decide) ?_
            exact y_zret C hr hlk hP hD hS h (Nat.le_of_ble_eq_true rfl) (Nat.le_of_ble_eq_true rfl) dX6_isWord_56
      exact lp28 trivial fu (0, g, L) h H locs ls hP hD hS (lv_sub hl [1, 2, 0] rfl)
    ·
      have h := ite_e c2 h
      exact J24 g L H locs ls h hP hD hS (lv_sub hl [] rfl)
def fX6_isWord_5_clock_p24 (fu : Nat) (g : Nat → Nat → Int32) (L : Nat → Nat → Int64) : Option ((Int32) × zS) :=
  ckb 0 (some (0, (g, L)))
def fX6_isWord_5_clock_s28 (fu : Nat) (k28 : Int32 × (Nat → Nat → Int32) × (Nat → Nat → Int64) → Option ((Int32) × zS)) (v2 : Int32) (g : Nat → Nat → Int32) (L : Nat → Nat → Int64) : Option ((Int32) × zS) :=
  if 5 ≤ (v2 : Int32) then ckb 1 (some (1, (g, L)))
  else ck ((g 5 5) + v2) 700 (
  ck v2 5 (
  if (g 14 (Int32.toNatClampNeg ((g 5 5) + v2))) = (sch 14 (Int32.toNatClampNeg v2)) then k28 ((v2 + 1), g, L)
  else ckb 0 (some (0, (g, L)))))
def fX6_isWord_5_clock_l28 (fu : Nat) (v2 : Int32) (g : Nat → Nat → Int32) (L : Nat → Nat → Int64) : Option ((Int32) × zS) :=
  whileK (fun k v => fX6_isWord_5_clock_s28 fu k v.1 v.2.1 v.2.2) fu (v2, g, L)
def fX6_isWord_5_clock (fu : Nat) (g : Nat → Nat → Int32) (L : Nat → Nat → Int64) : Option ((Int32) × zS) :=
  if (g 5 4) = 2 then (if ((g 5 3) - (g 5 5)) = 5 then fX6_isWord_5_clock_l28 fu 0 g L
  else fX6_isWord_5_clock_p24 fu g L)
  else fX6_isWord_5_clock_p24 fu g L
set_option maxHeartbeats 4000000 in
set_option maxRecDepth 100000 in
theorem rX6_isWord_5_clock (l : Launch) (G : kG) (sz : Nat) (a : Nat → Nat) (fu : Nat) (g : Nat → Nat → Int32) (L : Nat → Nat → Int64) (res : Int32) (s9 : zS) (h : fX6_isWord_5_clock fu g L = some (res, s9)) : kM l yX6_isWord cX6_isWord 3 (some .boolean) { frames := 10, cells := 0, slots := 0, locals := 195 } G [.ref (a 5), .ref (G.2.2.2.2.2.1 14)] (zw G (XS 2) 105 a g L) sz (kQi G (S := Unit) (fun r' _ => r' = res) (fun _ => zw G (XS 2) 105 a s9.1 s9.2)) := by
  refine kM.of (by decide) (Nat.le_of_ble_eq_true rfl) ?_
  intro p e s m below meth c A ls H C hr hlk hnm hP hD hS hl
  have C : kC G p s m c cX6_isWord 3 RX6 A := C
  have hx := C.1
  have hb := C.2.1
  have hl : lv_has ls 3 [(0, .ref (a 5)), (1, .ref (G.2.2.2.2.2.1 14))] := hl
  obtain ⟨locs, hlocs⟩ : ∃ q : List Loc, q = [] := ⟨_, rfl⟩
  rw [← hlocs] at hS
  rw [← hlocs]
  unfold fX6_isWord_5_clock at h
  refine lv_aload_n hx hb dX6_isWord_0 rfl (lv_at hl 0 rfl) ?_
  refine x_getv (v := .int (g 5 4)) (Or.inl fl_X6_50) C hP (by decide) xs_5 rfl dX6_isWord_1 ?_
  refine lv_iconst (v := 2) hx hb dX6_isWord_4 (by decide) ?_
  have J24 : ∀ (g : Nat → Nat → Int32) (L : Nat → Nat → Int64) (H : Heap) (locs : List Loc) (ls : Array Slot), fX6_isWord_5_clock_p24 fu g L = some (res, s9) → va_P G.1 vwCl (zw G (XS 2) 105 a g L) H → va_D A (zw G (XS 2) 105 a g L) → va_S A s.heap H locs → lv_has ls 3 [] → W p l e { frames := 10, cells := 0, slots := 0, locals := 195 } s m [.ref (a 5), .ref (G.2.2.2.2.2.1 14)].toArray below meth c H locs 0 0 (MQ below ((kQi G (S := Unit) (fun r' _ => r' = res) (fun _ => zw G (XS 2) 105 a s9.1 s9.2)) A) [.ref (a 5), .ref (G.2.2.2.2.2.1 14)].toArray s 0 0 A) (F0 m 24 ls []) := by
    intro g L H locs ls h hP hD hS hl
    unfold fX6_isWord_5_clock_p24 at h
    refine lv_iconst (v := 0) hx hb dX6_isWord_24 (by decide) ?_
    exact y_zret C hr hlk hP hD hS h (Nat.le_of_ble_eq_true rfl) (Nat.le_of_ble_eq_true rfl) dX6_isWord_25
  refine lv_icmp_ne (x := (g 5 4)) (y := 2) (tgt := 24) hx hb dX6_isWord_5 (by decide) (fun c1 => ?_) (fun c1 => ?_)
  ·
    have h := ite_e c1 h
    exact J24 g L H locs ls h hP hD hS (lv_sub hl [] rfl)
  ·
    have h := ite_t c1 h
    refine lv_aload_n hx hb dX6_isWord_8 rfl (lv_at hl 0 rfl) ?_
    refine x_getv (v := .int (g 5 3)) (Or.inl fl_X6_34) C hP (by decide) xs_5 rfl dX6_isWord_9 ?_
    refine lv_aload_n hx hb dX6_isWord_12 rfl (lv_at hl 0 rfl) ?_
    refine x_getv (v := .int (g 5 5)) (Or.inl fl_X6_59) C hP (by decide) xs_5 rfl dX6_isWord_13 ?_
    refine lv_isub hx hb dX6_isWord_16 ?_
    refine lv_aload_n hx hb dX6_isWord_17 rfl (lv_at hl 1 rfl) ?_
    refine y_slen (v := 5) C (by decide) (by decide) hP hD hS (kR rfl) hl.1 (Nat.le_of_ble_eq_true rfl) dX6_isWord_18 (fun H locs hP hD hS => ?_)
    refine lv_icmp_eq (x := ((g 5 3) - (g 5 5))) (y := 5) (tgt := 26) hx hb dX6_isWord_21 (by decide) (fun c2 => ?_) (fun c2 => ?_)
    ·
      have h := ite_t c2 h
      refine lv_iconst (v := 0) hx hb dX6_isWord_26 (by decide) ?_
      refine lv_istore_n (lv' := [(2, .int 0), (0, .ref (a 5)), (1, .ref (G.2.2.2.2.2.1 14))]) hx hb dX6_isWord_27 rfl hl (by decide) rfl (fun ls hl => ?_)
      have lp28 : ∀ (_ : True), ∀ (n : Nat) (v : Int32 × (Nat → Nat → Int32) × (Nat → Nat → Int64)), whileK (fun k v => fX6_isWord_5_clock_s28 fu k v.1 v.2.1 v.2.2) n v = some (res, s9) → ∀ (H : Heap) (locs : List Loc) (ls : Array Slot), va_P G.1 vwCl (zw G (XS 2) 105 a (v.2.1) (v.2.2)) H → va_D A (zw G (XS 2) 105 a (v.2.1) (v.2.2)) → va_S A s.heap H locs → lv_has ls 3 [(0, .ref (a 5)), (1, .ref (G.2.2.2.2.2.1 14)), (2, .int (v.1))] → W p l e { frames := 10, cells := 0, slots := 0, locals := 195 } s m [.ref (a 5), .ref (G.2.2.2.2.2.1 14)].toArray below meth c H locs 0 0 (MQ below ((kQi G (S := Unit) (fun r' _ => r' = res) (fun _ => zw G (XS 2) 105 a s9.1 s9.2)) A) [.ref (a 5), .ref (G.2.2.2.2.2.1 14)].toArray s 0 0 A) (F0 m 28 ls []) := by
        intro _
        refine while_ind (fun k28 ih28 v h => ?_)
        obtain ⟨v2, g, L⟩ := v
        intro H locs ls hP hD hS hl
        have h : fX6_isWord_5_clock_s28 fu k28 v2 g L = some (res, s9) := h
        have hP : va_P G.1 vwCl (zw G (XS 2) 105 a g L) H := hP
        have hD : va_D A (zw G (XS 2) 105 a g L) := hD
        have hl : lv_has ls 3 [(0, .ref (a 5)), (1, .ref (G.2.2.2.2.2.1 14)), (2, .int v2)] := hl
        show W p l e { frames := 10, cells := 0, slots := 0, locals := 195 } s m [.ref (a 5), .ref (G.2.2.2.2.2.1 14)].toArray below meth c H locs 0 0 (MQ below ((kQi G (S := Unit) (fun r' _ => r' = res) (fun _ => zw G (XS 2) 105 a s9.1 s9.2)) A) [.ref (a 5), .ref (G.2.2.2.2.2.1 14)].toArray s 0 0 A) (F0 m 28 ls [])
        unfold fX6_isWord_5_clock_s28 at h
        refine lv_iload_n hx hb dX6_isWord_28 rfl (lv_at hl 2 rfl) ?_
        refine lv_aload_n hx hb dX6_isWord_29 rfl (lv_at hl 1 rfl) ?_
        refine y_slen (v := 5) C (by decide) (by decide) hP hD hS (kR rfl) hl.1 (Nat.le_of_ble_eq_true rfl) dX6_isWord_30 (fun H locs hP hD hS => ?_)
        refine lv_icmp_ge (x := v2) (y := 5) (tgt := 63) hx hb dX6_isWord_33 (by decide) (fun c3 => ?_) (fun c3 => ?_)
        ·
          have h := ite_t c3 h
          refine lv_iconst (v := 1) hx hb dX6_isWord_63 (by decide) ?_
          exact y_zret C hr hlk hP hD hS h (Nat.le_of_ble_eq_true rfl) (Nat.le_of_ble_eq_true rfl) dX6_isWord_64
        ·
          have h := ite_e c3 h
          refine lv_aload_n hx hb dX6_isWord_36 rfl (lv_at hl 0 rfl) ?_
          refine x_getr (Or.inl fl_X6_9) C hP (by decide) xs_5 rfl dX6_isWord_37 ?_
          refine lv_aload_n hx hb dX6_isWord_40 rfl (lv_at hl 0 rfl) ?_
          refine x_getv (v := .int (g 5 5)) (Or.inl fl_X6_59) C hP (by decide) xs_5 rfl dX6_isWord_41 ?_
          refine lv_iload_n hx hb dX6_isWord_44 rfl (lv_at hl 2 rfl) ?_
          refine lv_iadd hx hb dX6_isWord_45 ?_
          refine y_ald C hP (by decide) xs_14 dX6_isWord_46 h (fun h => ?_)
          refine lv_aload_n hx hb dX6_isWord_47 rfl (lv_at hl 1 rfl) ?_
          refine lv_iload_n hx hb dX6_isWord_48 rfl (lv_at hl 2 rfl) ?_
          refine y_schr (N := 5) C (by decide) (by decide) hP hD hS (kR rfl) hl.1 (Nat.le_of_ble_eq_true rfl) dX6_isWord_49 h (fun H locs h hP hD hS => ?_)
          refine lv_icmp_eq (x := (g 14 (Int32.toNatClampNeg ((g 5 5) + v2)))) (y := (sch 14 (Int32.toNatClampNeg v2))) (tgt := 57) hx hb dX6_isWord_52 (by decide) (fun c4 => ?_) (fun c4 => ?_)
          ·
            have h := ite_t c4 h
            refine lv_iinc (v := (v2 + 1)) (lv' := [(2, .int (v2 + 1)), (0, .ref (a 5)), (1, .ref (G.2.2.2.2.2.1 14))]) hx hb dX6_isWord_57 hl (k := 2) rfl rfl (by decide) rfl (fun ls hl => ?_)
            refine lv_goto (tgt := 28) hx hb dX6_isWord_60 (by decide) ?_
            exact ih28 ((v2 + 1), g, L) h H locs ls hP hD hS (lv_sub hl [1, 2, 0] rfl)
          ·
            have h := ite_e c4 h
            refine lv_iconst (v := 0) hx hb dX6_isWord_55 (by decide) ?_
            exact y_zret C hr hlk hP hD hS h (Nat.le_of_ble_eq_true rfl) (Nat.le_of_ble_eq_true rfl) dX6_isWord_56
      exact lp28 trivial fu (0, g, L) h H locs ls hP hD hS (lv_sub hl [1, 2, 0] rfl)
    ·
      have h := ite_e c2 h
      exact J24 g L H locs ls h hP hD hS (lv_sub hl [] rfl)
def fX6_isWord_5_room_p24 (fu : Nat) (g : Nat → Nat → Int32) (L : Nat → Nat → Int64) : Option ((Int32) × zS) :=
  ckb 0 (some (0, (g, L)))
def fX6_isWord_5_room_s28 (fu : Nat) (k28 : Int32 × (Nat → Nat → Int32) × (Nat → Nat → Int64) → Option ((Int32) × zS)) (v2 : Int32) (g : Nat → Nat → Int32) (L : Nat → Nat → Int64) : Option ((Int32) × zS) :=
  if 4 ≤ (v2 : Int32) then ckb 1 (some (1, (g, L)))
  else ck ((g 5 5) + v2) 700 (
  ck v2 4 (
  if (g 14 (Int32.toNatClampNeg ((g 5 5) + v2))) = (sch 15 (Int32.toNatClampNeg v2)) then k28 ((v2 + 1), g, L)
  else ckb 0 (some (0, (g, L)))))
def fX6_isWord_5_room_l28 (fu : Nat) (v2 : Int32) (g : Nat → Nat → Int32) (L : Nat → Nat → Int64) : Option ((Int32) × zS) :=
  whileK (fun k v => fX6_isWord_5_room_s28 fu k v.1 v.2.1 v.2.2) fu (v2, g, L)
def fX6_isWord_5_room (fu : Nat) (g : Nat → Nat → Int32) (L : Nat → Nat → Int64) : Option ((Int32) × zS) :=
  if (g 5 4) = 2 then (if ((g 5 3) - (g 5 5)) = 4 then fX6_isWord_5_room_l28 fu 0 g L
  else fX6_isWord_5_room_p24 fu g L)
  else fX6_isWord_5_room_p24 fu g L
set_option maxHeartbeats 4000000 in
set_option maxRecDepth 100000 in
theorem rX6_isWord_5_room (l : Launch) (G : kG) (sz : Nat) (a : Nat → Nat) (fu : Nat) (g : Nat → Nat → Int32) (L : Nat → Nat → Int64) (res : Int32) (s9 : zS) (h : fX6_isWord_5_room fu g L = some (res, s9)) : kM l yX6_isWord cX6_isWord 3 (some .boolean) { frames := 10, cells := 0, slots := 0, locals := 195 } G [.ref (a 5), .ref (G.2.2.2.2.2.1 15)] (zw G (XS 2) 105 a g L) sz (kQi G (S := Unit) (fun r' _ => r' = res) (fun _ => zw G (XS 2) 105 a s9.1 s9.2)) := by
  refine kM.of (by decide) (Nat.le_of_ble_eq_true rfl) ?_
  intro p e s m below meth c A ls H C hr hlk hnm hP hD hS hl
  have C : kC G p s m c cX6_isWord 3 RX6 A := C
  have hx := C.1
  have hb := C.2.1
  have hl : lv_has ls 3 [(0, .ref (a 5)), (1, .ref (G.2.2.2.2.2.1 15))] := hl
  obtain ⟨locs, hlocs⟩ : ∃ q : List Loc, q = [] := ⟨_, rfl⟩
  rw [← hlocs] at hS
  rw [← hlocs]
  unfold fX6_isWord_5_room at h
  refine lv_aload_n hx hb dX6_isWord_0 rfl (lv_at hl 0 rfl) ?_
  refine x_getv (v := .int (g 5 4)) (Or.inl fl_X6_50) C hP (by decide) xs_5 rfl dX6_isWord_1 ?_
  refine lv_iconst (v := 2) hx hb dX6_isWord_4 (by decide) ?_
  have J24 : ∀ (g : Nat → Nat → Int32) (L : Nat → Nat → Int64) (H : Heap) (locs : List Loc) (ls : Array Slot), fX6_isWord_5_room_p24 fu g L = some (res, s9) → va_P G.1 vwCl (zw G (XS 2) 105 a g L) H → va_D A (zw G (XS 2) 105 a g L) → va_S A s.heap H locs → lv_has ls 3 [] → W p l e { frames := 10, cells := 0, slots := 0, locals := 195 } s m [.ref (a 5), .ref (G.2.2.2.2.2.1 15)].toArray below meth c H locs 0 0 (MQ below ((kQi G (S := Unit) (fun r' _ => r' = res) (fun _ => zw G (XS 2) 105 a s9.1 s9.2)) A) [.ref (a 5), .ref (G.2.2.2.2.2.1 15)].toArray s 0 0 A) (F0 m 24 ls []) := by
    intro g L H locs ls h hP hD hS hl
    unfold fX6_isWord_5_room_p24 at h
    refine lv_iconst (v := 0) hx hb dX6_isWord_24 (by decide) ?_
    exact y_zret C hr hlk hP hD hS h (Nat.le_of_ble_eq_true rfl) (Nat.le_of_ble_eq_true rfl) dX6_isWord_25
  refine lv_icmp_ne (x := (g 5 4)) (y := 2) (tgt := 24) hx hb dX6_isWord_5 (by decide) (fun c1 => ?_) (fun c1 => ?_)
  ·
    have h := ite_e c1 h
    exact J24 g L H locs ls h hP hD hS (lv_sub hl [] rfl)
  ·
    have h := ite_t c1 h
    refine lv_aload_n hx hb dX6_isWord_8 rfl (lv_at hl 0 rfl) ?_
    refine x_getv (v := .int (g 5 3)) (Or.inl fl_X6_34) C hP (by decide) xs_5 rfl dX6_isWord_9 ?_
    refine lv_aload_n hx hb dX6_isWord_12 rfl (lv_at hl 0 rfl) ?_
    refine x_getv (v := .int (g 5 5)) (Or.inl fl_X6_59) C hP (by decide) xs_5 rfl dX6_isWord_13 ?_
    refine lv_isub hx hb dX6_isWord_16 ?_
    refine lv_aload_n hx hb dX6_isWord_17 rfl (lv_at hl 1 rfl) ?_
    refine y_slen (v := 4) C (by decide) (by decide) hP hD hS (kR rfl) hl.1 (Nat.le_of_ble_eq_true rfl) dX6_isWord_18 (fun H locs hP hD hS => ?_)
    refine lv_icmp_eq (x := ((g 5 3) - (g 5 5))) (y := 4) (tgt := 26) hx hb dX6_isWord_21 (by decide) (fun c2 => ?_) (fun c2 => ?_)
    ·
      have h := ite_t c2 h
      refine lv_iconst (v := 0) hx hb dX6_isWord_26 (by decide) ?_
      refine lv_istore_n (lv' := [(2, .int 0), (0, .ref (a 5)), (1, .ref (G.2.2.2.2.2.1 15))]) hx hb dX6_isWord_27 rfl hl (by decide) rfl (fun ls hl => ?_)
      have lp28 : ∀ (_ : True), ∀ (n : Nat) (v : Int32 × (Nat → Nat → Int32) × (Nat → Nat → Int64)), whileK (fun k v => fX6_isWord_5_room_s28 fu k v.1 v.2.1 v.2.2) n v = some (res, s9) → ∀ (H : Heap) (locs : List Loc) (ls : Array Slot), va_P G.1 vwCl (zw G (XS 2) 105 a (v.2.1) (v.2.2)) H → va_D A (zw G (XS 2) 105 a (v.2.1) (v.2.2)) → va_S A s.heap H locs → lv_has ls 3 [(0, .ref (a 5)), (1, .ref (G.2.2.2.2.2.1 15)), (2, .int (v.1))] → W p l e { frames := 10, cells := 0, slots := 0, locals := 195 } s m [.ref (a 5), .ref (G.2.2.2.2.2.1 15)].toArray below meth c H locs 0 0 (MQ below ((kQi G (S := Unit) (fun r' _ => r' = res) (fun _ => zw G (XS 2) 105 a s9.1 s9.2)) A) [.ref (a 5), .ref (G.2.2.2.2.2.1 15)].toArray s 0 0 A) (F0 m 28 ls []) := by
        intro _
        refine while_ind (fun k28 ih28 v h => ?_)
        obtain ⟨v2, g, L⟩ := v
        intro H locs ls hP hD hS hl
        have h : fX6_isWord_5_room_s28 fu k28 v2 g L = some (res, s9) := h
        have hP : va_P G.1 vwCl (zw G (XS 2) 105 a g L) H := hP
        have hD : va_D A (zw G (XS 2) 105 a g L) := hD
        have hl : lv_has ls 3 [(0, .ref (a 5)), (1, .ref (G.2.2.2.2.2.1 15)), (2, .int v2)] := hl
        show W p l e { frames := 10, cells := 0, slots := 0, locals := 195 } s m [.ref (a 5), .ref (G.2.2.2.2.2.1 15)].toArray below meth c H locs 0 0 (MQ below ((kQi G (S := Unit) (fun r' _ => r' = res) (fun _ => zw G (XS 2) 105 a s9.1 s9.2)) A) [.ref (a 5), .ref (G.2.2.2.2.2.1 15)].toArray s 0 0 A) (F0 m 28 ls [])
        unfold fX6_isWord_5_room_s28 at h
        refine lv_iload_n hx hb dX6_isWord_28 rfl (lv_at hl 2 rfl) ?_
        refine lv_aload_n hx hb dX6_isWord_29 rfl (lv_at hl 1 rfl) ?_
        refine y_slen (v := 4) C (by decide) (by decide) hP hD hS (kR rfl) hl.1 (Nat.le_of_ble_eq_true rfl) dX6_isWord_30 (fun H locs hP hD hS => ?_)
        refine lv_icmp_ge (x := v2) (y := 4) (tgt := 63) hx hb dX6_isWord_33 (by decide) (fun c3 => ?_) (fun c3 => ?_)
        ·
          have h := ite_t c3 h
          refine lv_iconst (v := 1) hx hb dX6_isWord_63 (by decide) ?_
          exact y_zret C hr hlk hP hD hS h (Nat.le_of_ble_eq_true rfl) (Nat.le_of_ble_eq_true rfl) dX6_isWord_64
        ·
          have h := ite_e c3 h
          refine lv_aload_n hx hb dX6_isWord_36 rfl (lv_at hl 0 rfl) ?_
          refine x_getr (Or.inl fl_X6_9) C hP (by decide) xs_5 rfl dX6_isWord_37 ?_
          refine lv_aload_n hx hb dX6_isWord_40 rfl (lv_at hl 0 rfl) ?_
          refine x_getv (v := .int (g 5 5)) (Or.inl fl_X6_59) C hP (by decide) xs_5 rfl dX6_isWord_41 ?_
          refine lv_iload_n hx hb dX6_isWord_44 rfl (lv_at hl 2 rfl) ?_
          refine lv_iadd hx hb dX6_isWord_45 ?_
          refine y_ald C hP (by decide) xs_14 dX6_isWord_46 h (fun h => ?_)
          refine lv_aload_n hx hb dX6_isWord_47 rfl (lv_at hl 1 rfl) ?_
          refine lv_iload_n hx hb dX6_isWord_48 rfl (lv_at hl 2 rfl) ?_
          refine y_schr (N := 4) C (by decide) (by decide) hP hD hS (kR rfl) hl.1 (Nat.le_of_ble_eq_true rfl) dX6_isWord_49 h (fun H locs h hP hD hS => ?_)
          refine lv_icmp_eq (x := (g 14 (Int32.toNatClampNeg ((g 5 5) + v2)))) (y := (sch 15 (Int32.toNatClampNeg v2))) (tgt := 57) hx hb dX6_isWord_52 (by decide) (fun c4 => ?_) (fun c4 => ?_)
          ·
            have h := ite_t c4 h
            refine lv_iinc (v := (v2 + 1)) (lv' := [(2, .int (v2 + 1)), (0, .ref (a 5)), (1, .ref (G.2.2.2.2.2.1 15))]) hx hb dX6_isWord_57 hl (k := 2) rfl rfl (by decide) rfl (fun ls hl => ?_)
            refine lv_goto (tgt := 28) hx hb dX6_isWord_60 (by decide) ?_
            exact ih28 ((v2 + 1), g, L) h H locs ls hP hD hS (lv_sub hl [1, 2, 0] rfl)
          ·
            have h := ite_e c4 h
            refine lv_iconst (v := 0) hx hb dX6_isWord_55 (by decide) ?_
            exact y_zret C hr hlk hP hD hS h (Nat.le_of_ble_eq_true rfl) (Nat.le_of_ble_eq_true rfl) dX6_isWord_56
      exact lp28 trivial fu (0, g, L) h H locs ls hP hD hS (lv_sub hl [1, 2, 0] rfl)
    ·
      have h := ite_e c2 h
      exact J24 g L H locs ls h hP hD hS (lv_sub hl [] rfl)
def fX6_isWord_5_people_p24 (fu : Nat) (g : Nat → Nat → Int32) (L : Nat → Nat → Int64) : Option ((Int32) × zS) :=
  ckb 0 (some (0, (g, L)))
def fX6_isWord_5_people_s28 (fu : Nat) (k28 : Int32 × (Nat → Nat → Int32) × (Nat → Nat → Int64) → Option ((Int32) × zS)) (v2 : Int32) (g : Nat → Nat → Int32) (L : Nat → Nat → Int64) : Option ((Int32) × zS) :=
  if 6 ≤ (v2 : Int32) then ckb 1 (some (1, (g, L)))
  else ck ((g 5 5) + v2) 700 (
  ck v2 6 (
  if (g 14 (Int32.toNatClampNeg ((g 5 5) + v2))) = (sch 16 (Int32.toNatClampNeg v2)) then k28 ((v2 + 1), g, L)
  else ckb 0 (some (0, (g, L)))))
def fX6_isWord_5_people_l28 (fu : Nat) (v2 : Int32) (g : Nat → Nat → Int32) (L : Nat → Nat → Int64) : Option ((Int32) × zS) :=
  whileK (fun k v => fX6_isWord_5_people_s28 fu k v.1 v.2.1 v.2.2) fu (v2, g, L)
def fX6_isWord_5_people (fu : Nat) (g : Nat → Nat → Int32) (L : Nat → Nat → Int64) : Option ((Int32) × zS) :=
  if (g 5 4) = 2 then (if ((g 5 3) - (g 5 5)) = 6 then fX6_isWord_5_people_l28 fu 0 g L
  else fX6_isWord_5_people_p24 fu g L)
  else fX6_isWord_5_people_p24 fu g L
set_option maxHeartbeats 4000000 in
set_option maxRecDepth 100000 in
theorem rX6_isWord_5_people (l : Launch) (G : kG) (sz : Nat) (a : Nat → Nat) (fu : Nat) (g : Nat → Nat → Int32) (L : Nat → Nat → Int64) (res : Int32) (s9 : zS) (h : fX6_isWord_5_people fu g L = some (res, s9)) : kM l yX6_isWord cX6_isWord 3 (some .boolean) { frames := 10, cells := 0, slots := 0, locals := 195 } G [.ref (a 5), .ref (G.2.2.2.2.2.1 16)] (zw G (XS 2) 105 a g L) sz (kQi G (S := Unit) (fun r' _ => r' = res) (fun _ => zw G (XS 2) 105 a s9.1 s9.2)) := by
  refine kM.of (by decide) (Nat.le_of_ble_eq_true rfl) ?_
  intro p e s m below meth c A ls H C hr hlk hnm hP hD hS hl
  have C : kC G p s m c cX6_isWord 3 RX6 A := C
  have hx := C.1
  have hb := C.2.1
  have hl : lv_has ls 3 [(0, .ref (a 5)), (1, .ref (G.2.2.2.2.2.1 16))] := hl
  obtain ⟨locs, hlocs⟩ : ∃ q : List Loc, q = [] := ⟨_, rfl⟩
  rw [← hlocs] at hS
  rw [← hlocs]
  unfold fX6_isWord_5_people at h
  refine lv_aload_n hx hb dX6_isWord_0 rfl (lv_at hl 0 rfl) ?_
  refine x_getv (v := .int (g 5 4)) (Or.inl fl_X6_50) C hP (by decide) xs_5 rfl dX6_isWord_1 ?_
  refine lv_iconst (v := 2) hx hb dX6_isWord_4 (by decide) ?_
  have J24 : ∀ (g : Nat → Nat → Int32) (L : Nat → Nat → Int64) (H : Heap) (locs : List Loc) (ls : Array Slot), fX6_isWord_5_people_p24 fu g L = some (res, s9) → va_P G.1 vwCl (zw G (XS 2) 105 a g L) H → va_D A (zw G (XS 2) 105 a g L) → va_S A s.heap H locs → lv_has ls 3 [] → W p l e { frames := 10, cells := 0, slots := 0, locals := 195 } s m [.ref (a 5), .ref (G.2.2.2.2.2.1 16)].toArray below meth c H locs 0 0 (MQ below ((kQi G (S := Unit) (fun r' _ => r' = res) (fun _ => zw G (XS 2) 105 a s9.1 s9.2)) A) [.ref (a 5), .ref (G.2.2.2.2.2.1 16)].toArray s 0 0 A) (F0 m 24 ls []) := by
    intro g L H locs ls h hP hD hS hl
    unfold fX6_isWord_5_people_p24 at h
    refine lv_iconst (v := 0) hx hb dX6_isWord_24 (by decide) ?_
    exact y_zret C hr hlk hP hD hS h (Nat.le_of_ble_eq_true rfl) (Nat.le_of_ble_eq_true rfl) dX6_isWord_25
  refine lv_icmp_ne (x := (g 5 4)) (y := 2) (tgt := 24) hx hb dX6_isWord_5 (by decide) (fun c1 => ?_) (fun c1 => ?_)
  ·
    have h := ite_e c1 h
    exact J24 g L H locs ls h hP hD hS (lv_sub hl [] rfl)
  ·
    have h := ite_t c1 h
    refine lv_aload_n hx hb dX6_isWord_8 rfl (lv_at hl 0 rfl) ?_
    refine x_getv (v := .int (g 5 3)) (Or.inl fl_X6_34) C hP (by decide) xs_5 rfl dX6_isWord_9 ?_
    refine lv_aload_n hx hb dX6_isWord_12 rfl (lv_at hl 0 rfl) ?_
    refine x_getv (v := .int (g 5 5)) (Or.inl fl_X6_59) C hP (by decide) xs_5 rfl dX6_isWord_13 ?_
    refine lv_isub hx hb dX6_isWord_16 ?_
    refine lv_aload_n hx hb dX6_isWord_17 rfl (lv_at hl 1 rfl) ?_
    refine y_slen (v := 6) C (by decide) (by decide) hP hD hS (kR rfl) hl.1 (Nat.le_of_ble_eq_true rfl) dX6_isWord_18 (fun H locs hP hD hS => ?_)
    refine lv_icmp_eq (x := ((g 5 3) - (g 5 5))) (y := 6) (tgt := 26) hx hb dX6_isWord_21 (by decide) (fun c2 => ?_) (fun c2 => ?_)
    ·
      have h := ite_t c2 h
      refine lv_iconst (v := 0) hx hb dX6_isWord_26 (by decide) ?_
      refine lv_istore_n (lv' := [(2, .int 0), (0, .ref (a 5)), (1, .ref (G.2.2.2.2.2.1 16))]) hx hb dX6_isWord_27 rfl hl (by decide) rfl (fun ls hl => ?_)
      have lp28 : ∀ (_ : True), ∀ (n : Nat) (v : Int32 × (Nat → Nat → Int32) × (Nat → Nat → Int64)), whileK (fun k v => fX6_isWord_5_people_s28 fu k v.1 v.2.1 v.2.2) n v = some (res, s9) → ∀ (H : Heap) (locs : List Loc) (ls : Array Slot), va_P G.1 vwCl (zw G (XS 2) 105 a (v.2.1) (v.2.2)) H → va_D A (zw G (XS 2) 105 a (v.2.1) (v.2.2)) → va_S A s.heap H locs → lv_has ls 3 [(0, .ref (a 5)), (1, .ref (G.2.2.2.2.2.1 16)), (2, .int (v.1))] → W p l e { frames := 10, cells := 0, slots := 0, locals := 195 } s m [.ref (a 5), .ref (G.2.2.2.2.2.1 16)].toArray below meth c H locs 0 0 (MQ below ((kQi G (S := Unit) (fun r' _ => r' = res) (fun _ => zw G (XS 2) 105 a s9.1 s9.2)) A) [.ref (a 5), .ref (G.2.2.2.2.2.1 16)].toArray s 0 0 A) (F0 m 28 ls []) := by
        intro _
        refine while_ind (fun k28 ih28 v h => ?_)
        obtain ⟨v2, g, L⟩ := v
        intro H locs ls hP hD hS hl
        have h : fX6_isWord_5_people_s28 fu k28 v2 g L = some (res, s9) := h
        have hP : va_P G.1 vwCl (zw G (XS 2) 105 a g L) H := hP
        have hD : va_D A (zw G (XS 2) 105 a g L) := hD
        have hl : lv_has ls 3 [(0, .ref (a 5)), (1, .ref (G.2.2.2.2.2.1 16)), (2, .int v2)] := hl
        show W p l e { frames := 10, cells := 0, slots := 0, locals := 195 } s m [.ref (a 5), .ref (G.2.2.2.2.2.1 16)].toArray below meth c H locs 0 0 (MQ below ((kQi G (S := Unit) (fun r' _ => r' = res) (fun _ => zw G (XS 2) 105 a s9.1 s9.2)) A) [.ref (a 5), .ref (G.2.2.2.2.2.1 16)].toArray s 0 0 A) (F0 m 28 ls [])
        unfold fX6_isWord_5_people_s28 at h
        refine lv_iload_n hx hb dX6_isWord_28 rfl (lv_at hl 2 rfl) ?_
        refine lv_aload_n hx hb dX6_isWord_29 rfl (lv_at hl 1 rfl) ?_
        refine y_slen (v := 6) C (by decide) (by decide) hP hD hS (kR rfl) hl.1 (Nat.le_of_ble_eq_true rfl) dX6_isWord_30 (fun H locs hP hD hS => ?_)
        refine lv_icmp_ge (x := v2) (y := 6) (tgt := 63) hx hb dX6_isWord_33 (by decide) (fun c3 => ?_) (fun c3 => ?_)
        ·
          have h := ite_t c3 h
          refine lv_iconst (v := 1) hx hb dX6_isWord_63 (by decide) ?_
          exact y_zret C hr hlk hP hD hS h (Nat.le_of_ble_eq_true rfl) (Nat.le_of_ble_eq_true rfl) dX6_isWord_64
        ·
          have h := ite_e c3 h
          refine lv_aload_n hx hb dX6_isWord_36 rfl (lv_at hl 0 rfl) ?_
          refine x_getr (Or.inl fl_X6_9) C hP (by decide) xs_5 rfl dX6_isWord_37 ?_
          refine lv_aload_n hx hb dX6_isWord_40 rfl (lv_at hl 0 rfl) ?_
          refine x_getv (v := .int (g 5 5)) (Or.inl fl_X6_59) C hP (by decide) xs_5 rfl dX6_isWord_41 ?_
          refine lv_iload_n hx hb dX6_isWord_44 rfl (lv_at hl 2 rfl) ?_
          refine lv_iadd hx hb dX6_isWord_45 ?_
          refine y_ald C hP (by decide) xs_14 dX6_isWord_46 h (fun h => ?_)
          refine lv_aload_n hx hb dX6_isWord_47 rfl (lv_at hl 1 rfl) ?_
          refine lv_iload_n hx hb dX6_isWord_48 rfl (lv_at hl 2 rfl) ?_
          refine y_schr (N := 6) C (by decide) (by decide) hP hD hS (kR rfl) hl.1 (Nat.le_of_ble_eq_true rfl) dX6_isWord_49 h (fun H locs h hP hD hS => ?_)
          refine lv_icmp_eq (x := (g 14 (Int32.toNatClampNeg ((g 5 5) + v2)))) (y := (sch 16 (Int32.toNatClampNeg v2))) (tgt := 57) hx hb dX6_isWord_52 (by decide) (fun c4 => ?_) (fun c4 => ?_)
          ·
            have h := ite_t c4 h
            refine lv_iinc (v := (v2 + 1)) (lv' := [(2, .int (v2 + 1)), (0, .ref (a 5)), (1, .ref (G.2.2.2.2.2.1 16))]) hx hb dX6_isWord_57 hl (k := 2) rfl rfl (by decide) rfl (fun ls hl => ?_)
            refine lv_goto (tgt := 28) hx hb dX6_isWord_60 (by decide) ?_
            exact ih28 ((v2 + 1), g, L) h H locs ls hP hD hS (lv_sub hl [1, 2, 0] rfl)
          ·
            have h := ite_e c4 h
            refine lv_iconst (v := 0) hx hb dX6_isWord_55 (by decide) ?_
            exact y_zret C hr hlk hP hD hS h (Nat.le_of_ble_eq_true rfl) (Nat.le_of_ble_eq_true rfl) dX6_isWord_56
      exact lp28 trivial fu (0, g, L) h H locs ls hP hD hS (lv_sub hl [1, 2, 0] rfl)
    ·
      have h := ite_e c2 h
      exact J24 g L H locs ls h hP hD hS (lv_sub hl [] rfl)
def fX6_isWord_5_lesson_p24 (fu : Nat) (g : Nat → Nat → Int32) (L : Nat → Nat → Int64) : Option ((Int32) × zS) :=
  ckb 0 (some (0, (g, L)))
def fX6_isWord_5_lesson_s28 (fu : Nat) (k28 : Int32 × (Nat → Nat → Int32) × (Nat → Nat → Int64) → Option ((Int32) × zS)) (v2 : Int32) (g : Nat → Nat → Int32) (L : Nat → Nat → Int64) : Option ((Int32) × zS) :=
  if 6 ≤ (v2 : Int32) then ckb 1 (some (1, (g, L)))
  else ck ((g 5 5) + v2) 700 (
  ck v2 6 (
  if (g 14 (Int32.toNatClampNeg ((g 5 5) + v2))) = (sch 0 (Int32.toNatClampNeg v2)) then k28 ((v2 + 1), g, L)
  else ckb 0 (some (0, (g, L)))))
def fX6_isWord_5_lesson_l28 (fu : Nat) (v2 : Int32) (g : Nat → Nat → Int32) (L : Nat → Nat → Int64) : Option ((Int32) × zS) :=
  whileK (fun k v => fX6_isWord_5_lesson_s28 fu k v.1 v.2.1 v.2.2) fu (v2, g, L)
def fX6_isWord_5_lesson (fu : Nat) (g : Nat → Nat → Int32) (L : Nat → Nat → Int64) : Option ((Int32) × zS) :=
  if (g 5 4) = 2 then (if ((g 5 3) - (g 5 5)) = 6 then fX6_isWord_5_lesson_l28 fu 0 g L
  else fX6_isWord_5_lesson_p24 fu g L)
  else fX6_isWord_5_lesson_p24 fu g L
set_option maxHeartbeats 4000000 in
set_option maxRecDepth 100000 in
theorem rX6_isWord_5_lesson (l : Launch) (G : kG) (sz : Nat) (a : Nat → Nat) (fu : Nat) (g : Nat → Nat → Int32) (L : Nat → Nat → Int64) (res : Int32) (s9 : zS) (h : fX6_isWord_5_lesson fu g L = some (res, s9)) : kM l yX6_isWord cX6_isWord 3 (some .boolean) { frames := 10, cells := 0, slots := 0, locals := 195 } G [.ref (a 5), .ref (G.2.2.2.2.2.1 0)] (zw G (XS 2) 105 a g L) sz (kQi G (S := Unit) (fun r' _ => r' = res) (fun _ => zw G (XS 2) 105 a s9.1 s9.2)) := by
  refine kM.of (by decide) (Nat.le_of_ble_eq_true rfl) ?_
  intro p e s m below meth c A ls H C hr hlk hnm hP hD hS hl
  have C : kC G p s m c cX6_isWord 3 RX6 A := C
  have hx := C.1
  have hb := C.2.1
  have hl : lv_has ls 3 [(0, .ref (a 5)), (1, .ref (G.2.2.2.2.2.1 0))] := hl
  obtain ⟨locs, hlocs⟩ : ∃ q : List Loc, q = [] := ⟨_, rfl⟩
  rw [← hlocs] at hS
  rw [← hlocs]
  unfold fX6_isWord_5_lesson at h
  refine lv_aload_n hx hb dX6_isWord_0 rfl (lv_at hl 0 rfl) ?_
  refine x_getv (v := .int (g 5 4)) (Or.inl fl_X6_50) C hP (by decide) xs_5 rfl dX6_isWord_1 ?_
  refine lv_iconst (v := 2) hx hb dX6_isWord_4 (by decide) ?_
  have J24 : ∀ (g : Nat → Nat → Int32) (L : Nat → Nat → Int64) (H : Heap) (locs : List Loc) (ls : Array Slot), fX6_isWord_5_lesson_p24 fu g L = some (res, s9) → va_P G.1 vwCl (zw G (XS 2) 105 a g L) H → va_D A (zw G (XS 2) 105 a g L) → va_S A s.heap H locs → lv_has ls 3 [] → W p l e { frames := 10, cells := 0, slots := 0, locals := 195 } s m [.ref (a 5), .ref (G.2.2.2.2.2.1 0)].toArray below meth c H locs 0 0 (MQ below ((kQi G (S := Unit) (fun r' _ => r' = res) (fun _ => zw G (XS 2) 105 a s9.1 s9.2)) A) [.ref (a 5), .ref (G.2.2.2.2.2.1 0)].toArray s 0 0 A) (F0 m 24 ls []) := by
    intro g L H locs ls h hP hD hS hl
    unfold fX6_isWord_5_lesson_p24 at h
    refine lv_iconst (v := 0) hx hb dX6_isWord_24 (by decide) ?_
    exact y_zret C hr hlk hP hD hS h (Nat.le_of_ble_eq_true rfl) (Nat.le_of_ble_eq_true rfl) dX6_isWord_25
  refine lv_icmp_ne (x := (g 5 4)) (y := 2) (tgt := 24) hx hb dX6_isWord_5 (by decide) (fun c1 => ?_) (fun c1 => ?_)
  ·
    have h := ite_e c1 h
    exact J24 g L H locs ls h hP hD hS (lv_sub hl [] rfl)
  ·
    have h := ite_t c1 h
    refine lv_aload_n hx hb dX6_isWord_8 rfl (lv_at hl 0 rfl) ?_
    refine x_getv (v := .int (g 5 3)) (Or.inl fl_X6_34) C hP (by decide) xs_5 rfl dX6_isWord_9 ?_
    refine lv_aload_n hx hb dX6_isWord_12 rfl (lv_at hl 0 rfl) ?_
    refine x_getv (v := .int (g 5 5)) (Or.inl fl_X6_59) C hP (by decide) xs_5 rfl dX6_isWord_13 ?_
    refine lv_isub hx hb dX6_isWord_16 ?_
    refine lv_aload_n hx hb dX6_isWord_17 rfl (lv_at hl 1 rfl) ?_
    refine y_slen (v := 6) C (by decide) (by decide) hP hD hS (kR rfl) hl.1 (Nat.le_of_ble_eq_true rfl) dX6_isWord_18 (fun H locs hP hD hS => ?_)
    refine lv_icmp_eq (x := ((g 5 3) - (g 5 5))) (y := 6) (tgt := 26) hx hb dX6_isWord_21 (by decide) (fun c2 => ?_) (fun c2 => ?_)
    ·
      have h := ite_t c2 h
      refine lv_iconst (v := 0) hx hb dX6_isWord_26 (by decide) ?_
      refine lv_istore_n (lv' := [(2, .int 0), (0, .ref (a 5)), (1, .ref (G.2.2.2.2.2.1 0))]) hx hb dX6_isWord_27 rfl hl (by decide) rfl (fun ls hl => ?_)
      have lp28 : ∀ (_ : True), ∀ (n : Nat) (v : Int32 × (Nat → Nat → Int32) × (Nat → Nat → Int64)), whileK (fun k v => fX6_isWord_5_lesson_s28 fu k v.1 v.2.1 v.2.2) n v = some (res, s9) → ∀ (H : Heap) (locs : List Loc) (ls : Array Slot), va_P G.1 vwCl (zw G (XS 2) 105 a (v.2.1) (v.2.2)) H → va_D A (zw G (XS 2) 105 a (v.2.1) (v.2.2)) → va_S A s.heap H locs → lv_has ls 3 [(0, .ref (a 5)), (1, .ref (G.2.2.2.2.2.1 0)), (2, .int (v.1))] → W p l e { frames := 10, cells := 0, slots := 0, locals := 195 } s m [.ref (a 5), .ref (G.2.2.2.2.2.1 0)].toArray below meth c H locs 0 0 (MQ below ((kQi G (S := Unit) (fun r' _ => r' = res) (fun _ => zw G (XS 2) 105 a s9.1 s9.2)) A) [.ref (a 5), .ref (G.2.2.2.2.2.1 0)].toArray s 0 0 A) (F0 m 28 ls []) := by
        intro _
        refine while_ind (fun k28 ih28 v h => ?_)
        obtain ⟨v2, g, L⟩ := v
        intro H locs ls hP hD hS hl
        have h : fX6_isWord_5_lesson_s28 fu k28 v2 g L = some (res, s9) := h
        have hP : va_P G.1 vwCl (zw G (XS 2) 105 a g L) H := hP
        have hD : va_D A (zw G (XS 2) 105 a g L) := hD
        have hl : lv_has ls 3 [(0, .ref (a 5)), (1, .ref (G.2.2.2.2.2.1 0)), (2, .int v2)] := hl
        show W p l e { frames := 10, cells := 0, slots := 0, locals := 195 } s m [.ref (a 5), .ref (G.2.2.2.2.2.1 0)].toArray below meth c H locs 0 0 (MQ below ((kQi G (S := Unit) (fun r' _ => r' = res) (fun _ => zw G (XS 2) 105 a s9.1 s9.2)) A) [.ref (a 5), .ref (G.2.2.2.2.2.1 0)].toArray s 0 0 A) (F0 m 28 ls [])
        unfold fX6_isWord_5_lesson_s28 at h
        refine lv_iload_n hx hb dX6_isWord_28 rfl (lv_at hl 2 rfl) ?_
        refine lv_aload_n hx hb dX6_isWord_29 rfl (lv_at hl 1 rfl) ?_
        refine y_slen (v := 6) C (by decide) (by decide) hP hD hS (kR rfl) hl.1 (Nat.le_of_ble_eq_true rfl) dX6_isWord_30 (fun H locs hP hD hS => ?_)
        refine lv_icmp_ge (x := v2) (y := 6) (tgt := 63) hx hb dX6_isWord_33 (by decide) (fun c3 => ?_) (fun c3 => ?_)
        ·
          have h := ite_t c3 h
          refine lv_iconst (v := 1) hx hb dX6_isWord_63 (by decide) ?_
          exact y_zret C hr hlk hP hD hS h (Nat.le_of_ble_eq_true rfl) (Nat.le_of_ble_eq_true rfl) dX6_isWord_64
        ·
          have h := ite_e c3 h
          refine lv_aload_n hx hb dX6_isWord_36 rfl (lv_at hl 0 rfl) ?_
          refine x_getr (Or.inl fl_X6_9) C hP (by decide) xs_5 rfl dX6_isWord_37 ?_
          refine lv_aload_n hx hb dX6_isWord_40 rfl (lv_at hl 0 rfl) ?_
          refine x_getv (v := .int (g 5 5)) (Or.inl fl_X6_59) C hP (by decide) xs_5 rfl dX6_isWord_41 ?_
          refine lv_iload_n hx hb dX6_isWord_44 rfl (lv_at hl 2 rfl) ?_
          refine lv_iadd hx hb dX6_isWord_45 ?_
          refine y_ald C hP (by decide) xs_14 dX6_isWord_46 h (fun h => ?_)
          refine lv_aload_n hx hb dX6_isWord_47 rfl (lv_at hl 1 rfl) ?_
          refine lv_iload_n hx hb dX6_isWord_48 rfl (lv_at hl 2 rfl) ?_
          refine y_schr (N := 6) C (by decide) (by decide) hP hD hS (kR rfl) hl.1 (Nat.le_of_ble_eq_true rfl) dX6_isWord_49 h (fun H locs h hP hD hS => ?_)
          refine lv_icmp_eq (x := (g 14 (Int32.toNatClampNeg ((g 5 5) + v2)))) (y := (sch 0 (Int32.toNatClampNeg v2))) (tgt := 57) hx hb dX6_isWord_52 (by decide) (fun c4 => ?_) (fun c4 => ?_)
          ·
            have h := ite_t c4 h
            refine lv_iinc (v := (v2 + 1)) (lv' := [(2, .int (v2 + 1)), (0, .ref (a 5)), (1, .ref (G.2.2.2.2.2.1 0))]) hx hb dX6_isWord_57 hl (k := 2) rfl rfl (by decide) rfl (fun ls hl => ?_)
            refine lv_goto (tgt := 28) hx hb dX6_isWord_60 (by decide) ?_
            exact ih28 ((v2 + 1), g, L) h H locs ls hP hD hS (lv_sub hl [1, 2, 0] rfl)
          ·
            have h := ite_e c4 h
            refine lv_iconst (v := 0) hx hb dX6_isWord_55 (by decide) ?_
            exact y_zret C hr hlk hP hD hS h (Nat.le_of_ble_eq_true rfl) (Nat.le_of_ble_eq_true rfl) dX6_isWord_56
      exact lp28 trivial fu (0, g, L) h H locs ls hP hD hS (lv_sub hl [1, 2, 0] rfl)
    ·
      have h := ite_e c2 h
      exact J24 g L H locs ls h hP hD hS (lv_sub hl [] rfl)
def fX6_valueNow_5_p69 (fu : Nat) (t0 : Int32) (g : Nat → Nat → Int32) (L : Nat → Nat → Int64) : Option ((Int32) × zS) :=
  some (t0, (g, L))
def fX6_valueNow_5 (fu : Nat) (g : Nat → Nat → Int32) (L : Nat → Nat → Int64) : Option ((Int32) × zS) :=
  cb (fX6_isWord_5_over fu g L) (fun x1 g2 L3 =>
  if x1 = 0 then cb (fX6_isWord_5_late fu g2 L3) (fun x6 g7 L8 =>
  if x6 = 0 then cb (fX6_isWord_5_clock fu g7 L8) (fun x11 g12 L13 =>
  if x11 = 0 then cb (fX6_isWord_5_room fu g12 L13) (fun x16 g17 L18 =>
  if x16 = 0 then cb (fX6_isWord_5_people fu g17 L18) (fun x21 g22 L23 =>
  if x21 = 0 then cb (fX6_isWord_5_lesson fu g22 L23) (fun x26 g27 L28 =>
  if x26 = 0 then fX6_valueNow_5_p69 fu (-1) g27 L28
  else fX6_valueNow_5_p69 fu 5 g27 L28)
  else some (4, (g22, L23)))
  else some (3, (g17, L18)))
  else some (2, (g12, L13)))
  else some (1, (g7, L8)))
  else some (0, (g2, L3)))
set_option maxHeartbeats 4000000 in
set_option maxRecDepth 100000 in
theorem rX6_valueNow_5 (l : Launch) (G : kG) (sz : Nat) (a : Nat → Nat) (fu : Nat) (g : Nat → Nat → Int32) (L : Nat → Nat → Int64) (res : Int32) (s9 : zS) (h : fX6_valueNow_5 fu g L = some (res, s9)) : kM l yX6_valueNow cX6_valueNow 1 (some .int) { frames := 11, cells := 0, slots := 0, locals := 217 } G [.ref (a 5)] (zw G (XS 2) 105 a g L) sz (kQi G (S := Unit) (fun r' _ => r' = res) (fun _ => zw G (XS 2) 105 a s9.1 s9.2)) := by
  refine kM.of (by decide) (Nat.le_of_ble_eq_true rfl) ?_
  intro p e s m below meth c A ls H C hr hlk hnm hP hD hS hl
  have C : kC G p s m c cX6_valueNow 1 RX6 A := C
  have hx := C.1
  have hb := C.2.1
  have hl : lv_has ls 1 [(0, .ref (a 5))] := hl
  obtain ⟨locs, hlocs⟩ : ∃ q : List Loc, q = [] := ⟨_, rfl⟩
  rw [← hlocs] at hS
  rw [← hlocs]
  unfold fX6_valueNow_5 at h
  refine lv_aload_n hx hb dX6_valueNow_0 rfl (lv_at hl 0 rfl) ?_
  refine y_ldcS (i := 12) C (by decide) rfl dX6_valueNow_1 ?_
  obtain ⟨z_, g2, L3, hf4, h⟩ := cb_some h
  refine x_callVi (rest := []) li_X6_92 C (rX6_isWord_5_over l G H.size a fu g L z_ (g2, L3) hf4) (kR rfl) hP hD hS 5 6 rfl (zat (by decide) xs_5) rfl hl.1 rfl (Nat.le_of_ble_eq_true rfl) dX6_valueNow_3 (fun x1 u_ H locs e_ hP hD hS => ?_)
  have e_ : x1 = z_ := e_
  subst e_
  have hP : va_P G.1 vwCl (zw G (XS 2) 105 a g2 L3) H := hP
  have hD : va_D A (zw G (XS 2) 105 a g2 L3) := hD
  refine lv_if_eq (x := x1) (tgt := 11) hx hb dX6_valueNow_6 (by decide) (fun c5 => ?_) (fun c5 => ?_)
  ·
    have h := ite_t c5 h
    refine lv_aload_n hx hb dX6_valueNow_11 rfl (lv_at hl 0 rfl) ?_
    refine y_ldcS (i := 13) C (by decide) rfl dX6_valueNow_12 ?_
    obtain ⟨z_, g7, L8, hf9, h⟩ := cb_some h
    refine x_callVi (rest := []) li_X6_92 C (rX6_isWord_5_late l G H.size a fu g2 L3 z_ (g7, L8) hf9) (kR rfl) hP hD hS 5 6 rfl (zat (by decide) xs_5) rfl hl.1 rfl (Nat.le_of_ble_eq_true rfl) dX6_valueNow_14 (fun x6 u_ H locs e_ hP hD hS => ?_)
    have e_ : x6 = z_ := e_
    subst e_
    have hP : va_P G.1 vwCl (zw G (XS 2) 105 a g7 L8) H := hP
    have hD : va_D A (zw G (XS 2) 105 a g7 L8) := hD
    refine lv_if_eq (x := x6) (tgt := 22) hx hb dX6_valueNow_17 (by decide) (fun c10 => ?_) (fun c10 => ?_)
    ·
      have h := ite_t c10 h
      refine lv_aload_n hx hb dX6_valueNow_22 rfl (lv_at hl 0 rfl) ?_
      refine y_ldcS (i := 14) C (by decide) rfl dX6_valueNow_23 ?_
      obtain ⟨z_, g12, L13, hf14, h⟩ := cb_some h
      refine x_callVi (rest := []) li_X6_92 C (rX6_isWord_5_clock l G H.size a fu g7 L8 z_ (g12, L13) hf14) (kR rfl) hP hD hS 5 6 rfl (zat (by decide) xs_5) rfl hl.1 rfl (Nat.le_of_ble_eq_true rfl) dX6_valueNow_25 (fun x11 u_ H locs e_ hP hD hS => ?_)
      have e_ : x11 = z_ := e_
      subst e_
      have hP : va_P G.1 vwCl (zw G (XS 2) 105 a g12 L13) H := hP
      have hD : va_D A (zw G (XS 2) 105 a g12 L13) := hD
      refine lv_if_eq (x := x11) (tgt := 33) hx hb dX6_valueNow_28 (by decide) (fun c15 => ?_) (fun c15 => ?_)
      ·
        have h := ite_t c15 h
        refine lv_aload_n hx hb dX6_valueNow_33 rfl (lv_at hl 0 rfl) ?_
        refine y_ldcS (i := 15) C (by decide) rfl dX6_valueNow_34 ?_
        obtain ⟨z_, g17, L18, hf19, h⟩ := cb_some h
        refine x_callVi (rest := []) li_X6_92 C (rX6_isWord_5_room l G H.size a fu g12 L13 z_ (g17, L18) hf19) (kR rfl) hP hD hS 5 6 rfl (zat (by decide) xs_5) rfl hl.1 rfl (Nat.le_of_ble_eq_true rfl) dX6_valueNow_36 (fun x16 u_ H locs e_ hP hD hS => ?_)
        have e_ : x16 = z_ := e_
        subst e_
        have hP : va_P G.1 vwCl (zw G (XS 2) 105 a g17 L18) H := hP
        have hD : va_D A (zw G (XS 2) 105 a g17 L18) := hD
        refine lv_if_eq (x := x16) (tgt := 44) hx hb dX6_valueNow_39 (by decide) (fun c20 => ?_) (fun c20 => ?_)
        ·
          have h := ite_t c20 h
          refine lv_aload_n hx hb dX6_valueNow_44 rfl (lv_at hl 0 rfl) ?_
          refine y_ldcS (i := 16) C (by decide) rfl dX6_valueNow_45 ?_
          obtain ⟨z_, g22, L23, hf24, h⟩ := cb_some h
          refine x_callVi (rest := []) li_X6_92 C (rX6_isWord_5_people l G H.size a fu g17 L18 z_ (g22, L23) hf24) (kR rfl) hP hD hS 5 6 rfl (zat (by decide) xs_5) rfl hl.1 rfl (Nat.le_of_ble_eq_true rfl) dX6_valueNow_47 (fun x21 u_ H locs e_ hP hD hS => ?_)
          have e_ : x21 = z_ := e_
          subst e_
          have hP : va_P G.1 vwCl (zw G (XS 2) 105 a g22 L23) H := hP
          have hD : va_D A (zw G (XS 2) 105 a g22 L23) := hD
          refine lv_if_eq (x := x21) (tgt := 55) hx hb dX6_valueNow_50 (by decide) (fun c25 => ?_) (fun c25 => ?_)
          ·
            have h := ite_t c25 h
            refine lv_aload_n hx hb dX6_valueNow_55 rfl (lv_at hl 0 rfl) ?_
            refine y_ldcS (i := 0) C (by decide) rfl dX6_valueNow_56 ?_
            obtain ⟨z_, g27, L28, hf29, h⟩ := cb_some h
            refine x_callVi (rest := []) li_X6_92 C (rX6_isWord_5_lesson l G H.size a fu g22 L23 z_ (g27, L28) hf29) (kR rfl) hP hD hS 5 6 rfl (zat (by decide) xs_5) rfl hl.1 rfl (Nat.le_of_ble_eq_true rfl) dX6_valueNow_58 (fun x26 u_ H locs e_ hP hD hS => ?_)
            have e_ : x26 = z_ := e_
            subst e_
            have hP : va_P G.1 vwCl (zw G (XS 2) 105 a g27 L28) H := hP
            have hD : va_D A (zw G (XS 2) 105 a g27 L28) := hD
            have J69 : ∀ (t0 : Int32) (g : Nat → Nat → Int32) (L : Nat → Nat → Int64) (H : Heap) (locs : List Loc) (ls : Array Slot), fX6_valueNow_5_p69 fu t0 g L = some (res, s9) → va_P G.1 vwCl (zw G (XS 2) 105 a g L) H → va_D A (zw G (XS 2) 105 a g L) → va_S A s.heap H locs → lv_has ls 1 [] → W p l e { frames := 11, cells := 0, slots := 0, locals := 217 } s m [.ref (a 5)].toArray below meth c H locs 0 0 (MQ below ((kQi G (S := Unit) (fun r' _ => r' = res) (fun _ => zw G (XS 2) 105 a s9.1 s9.2)) A) [.ref (a 5)].toArray s 0 0 A) (F0 m 69 ls [.int t0]) := by
              intro t0 g L H locs ls h hP hD hS hl
              unfold fX6_valueNow_5_p69 at h
              exact y_iret C hr hlk hP hD hS h (Nat.le_of_ble_eq_true rfl) (Nat.le_of_ble_eq_true rfl) dX6_valueNow_69
            refine lv_if_eq (x := x26) (tgt := 68) hx hb dX6_valueNow_61 (by decide) (fun c30 => ?_) (fun c30 => ?_)
            ·
              have h := ite_t c30 h
              refine lv_iconst (v := -1) hx hb dX6_valueNow_68 (by decide) ?_
              exact J69 (-1) g27 L28 H locs ls h hP hD hS (lv_sub hl [] rfl)
            ·
              have h := ite_e c30 h
              refine lv_iconst (v := 5) hx hb dX6_valueNow_64 (by decide) ?_
              refine lv_goto (tgt := 69) hx hb dX6_valueNow_65 (by decide) ?_
              exact J69 5 g27 L28 H locs ls h hP hD hS (lv_sub hl [] rfl)
          ·
            have h := ite_e c25 h
            refine lv_iconst (v := 4) hx hb dX6_valueNow_53 (by decide) ?_
            exact y_iret C hr hlk hP hD hS h (Nat.le_of_ble_eq_true rfl) (Nat.le_of_ble_eq_true rfl) dX6_valueNow_54
        ·
          have h := ite_e c20 h
          refine lv_iconst (v := 3) hx hb dX6_valueNow_42 (by decide) ?_
          exact y_iret C hr hlk hP hD hS h (Nat.le_of_ble_eq_true rfl) (Nat.le_of_ble_eq_true rfl) dX6_valueNow_43
      ·
        have h := ite_e c15 h
        refine lv_iconst (v := 2) hx hb dX6_valueNow_31 (by decide) ?_
        exact y_iret C hr hlk hP hD hS h (Nat.le_of_ble_eq_true rfl) (Nat.le_of_ble_eq_true rfl) dX6_valueNow_32
    ·
      have h := ite_e c10 h
      refine lv_iconst (v := 1) hx hb dX6_valueNow_20 (by decide) ?_
      exact y_iret C hr hlk hP hD hS h (Nat.le_of_ble_eq_true rfl) (Nat.le_of_ble_eq_true rfl) dX6_valueNow_21
  ·
    have h := ite_e c5 h
    refine lv_iconst (v := 0) hx hb dX6_valueNow_9 (by decide) ?_
    exact y_iret C hr hlk hP hD hS h (Nat.le_of_ble_eq_true rfl) (Nat.le_of_ble_eq_true rfl) dX6_valueNow_10
def fX6_isWord_5_not_p24 (fu : Nat) (g : Nat → Nat → Int32) (L : Nat → Nat → Int64) : Option ((Int32) × zS) :=
  ckb 0 (some (0, (g, L)))
def fX6_isWord_5_not_s28 (fu : Nat) (k28 : Int32 × (Nat → Nat → Int32) × (Nat → Nat → Int64) → Option ((Int32) × zS)) (v2 : Int32) (g : Nat → Nat → Int32) (L : Nat → Nat → Int64) : Option ((Int32) × zS) :=
  if 3 ≤ (v2 : Int32) then ckb 1 (some (1, (g, L)))
  else ck ((g 5 5) + v2) 700 (
  ck v2 3 (
  if (g 14 (Int32.toNatClampNeg ((g 5 5) + v2))) = (sch 11 (Int32.toNatClampNeg v2)) then k28 ((v2 + 1), g, L)
  else ckb 0 (some (0, (g, L)))))
def fX6_isWord_5_not_l28 (fu : Nat) (v2 : Int32) (g : Nat → Nat → Int32) (L : Nat → Nat → Int64) : Option ((Int32) × zS) :=
  whileK (fun k v => fX6_isWord_5_not_s28 fu k v.1 v.2.1 v.2.2) fu (v2, g, L)
def fX6_isWord_5_not (fu : Nat) (g : Nat → Nat → Int32) (L : Nat → Nat → Int64) : Option ((Int32) × zS) :=
  if (g 5 4) = 2 then (if ((g 5 3) - (g 5 5)) = 3 then fX6_isWord_5_not_l28 fu 0 g L
  else fX6_isWord_5_not_p24 fu g L)
  else fX6_isWord_5_not_p24 fu g L
set_option maxHeartbeats 4000000 in
set_option maxRecDepth 100000 in
theorem rX6_isWord_5_not (l : Launch) (G : kG) (sz : Nat) (a : Nat → Nat) (fu : Nat) (g : Nat → Nat → Int32) (L : Nat → Nat → Int64) (res : Int32) (s9 : zS) (h : fX6_isWord_5_not fu g L = some (res, s9)) : kM l yX6_isWord cX6_isWord 3 (some .boolean) { frames := 10, cells := 0, slots := 0, locals := 195 } G [.ref (a 5), .ref (G.2.2.2.2.2.1 11)] (zw G (XS 2) 105 a g L) sz (kQi G (S := Unit) (fun r' _ => r' = res) (fun _ => zw G (XS 2) 105 a s9.1 s9.2)) := by
  refine kM.of (by decide) (Nat.le_of_ble_eq_true rfl) ?_
  intro p e s m below meth c A ls H C hr hlk hnm hP hD hS hl
  have C : kC G p s m c cX6_isWord 3 RX6 A := C
  have hx := C.1
  have hb := C.2.1
  have hl : lv_has ls 3 [(0, .ref (a 5)), (1, .ref (G.2.2.2.2.2.1 11))] := hl
  obtain ⟨locs, hlocs⟩ : ∃ q : List Loc, q = [] := ⟨_, rfl⟩
  rw [← hlocs] at hS
  rw [← hlocs]
  unfold fX6_isWord_5_not at h
  refine lv_aload_n hx hb dX6_isWord_0 rfl (lv_at hl 0 rfl) ?_
  refine x_getv (v := .int (g 5 4)) (Or.inl fl_X6_50) C hP (by decide) xs_5 rfl dX6_isWord_1 ?_
  refine lv_iconst (v := 2) hx hb dX6_isWord_4 (by decide) ?_
  have J24 : ∀ (g : Nat → Nat → Int32) (L : Nat → Nat → Int64) (H : Heap) (locs : List Loc) (ls : Array Slot), fX6_isWord_5_not_p24 fu g L = some (res, s9) → va_P G.1 vwCl (zw G (XS 2) 105 a g L) H → va_D A (zw G (XS 2) 105 a g L) → va_S A s.heap H locs → lv_has ls 3 [] → W p l e { frames := 10, cells := 0, slots := 0, locals := 195 } s m [.ref (a 5), .ref (G.2.2.2.2.2.1 11)].toArray below meth c H locs 0 0 (MQ below ((kQi G (S := Unit) (fun r' _ => r' = res) (fun _ => zw G (XS 2) 105 a s9.1 s9.2)) A) [.ref (a 5), .ref (G.2.2.2.2.2.1 11)].toArray s 0 0 A) (F0 m 24 ls []) := by
    intro g L H locs ls h hP hD hS hl
    unfold fX6_isWord_5_not_p24 at h
    refine lv_iconst (v := 0) hx hb dX6_isWord_24 (by decide) ?_
    exact y_zret C hr hlk hP hD hS h (Nat.le_of_ble_eq_true rfl) (Nat.le_of_ble_eq_true rfl) dX6_isWord_25
  refine lv_icmp_ne (x := (g 5 4)) (y := 2) (tgt := 24) hx hb dX6_isWord_5 (by decide) (fun c1 => ?_) (fun c1 => ?_)
  ·
    have h := ite_e c1 h
    exact J24 g L H locs ls h hP hD hS (lv_sub hl [] rfl)
  ·
    have h := ite_t c1 h
    refine lv_aload_n hx hb dX6_isWord_8 rfl (lv_at hl 0 rfl) ?_
    refine x_getv (v := .int (g 5 3)) (Or.inl fl_X6_34) C hP (by decide) xs_5 rfl dX6_isWord_9 ?_
    refine lv_aload_n hx hb dX6_isWord_12 rfl (lv_at hl 0 rfl) ?_
    refine x_getv (v := .int (g 5 5)) (Or.inl fl_X6_59) C hP (by decide) xs_5 rfl dX6_isWord_13 ?_
    refine lv_isub hx hb dX6_isWord_16 ?_
    refine lv_aload_n hx hb dX6_isWord_17 rfl (lv_at hl 1 rfl) ?_
    refine y_slen (v := 3) C (by decide) (by decide) hP hD hS (kR rfl) hl.1 (Nat.le_of_ble_eq_true rfl) dX6_isWord_18 (fun H locs hP hD hS => ?_)
    refine lv_icmp_eq (x := ((g 5 3) - (g 5 5))) (y := 3) (tgt := 26) hx hb dX6_isWord_21 (by decide) (fun c2 => ?_) (fun c2 => ?_)
    ·
      have h := ite_t c2 h
      refine lv_iconst (v := 0) hx hb dX6_isWord_26 (by decide) ?_
      refine lv_istore_n (lv' := [(2, .int 0), (0, .ref (a 5)), (1, .ref (G.2.2.2.2.2.1 11))]) hx hb dX6_isWord_27 rfl hl (by decide) rfl (fun ls hl => ?_)
      have lp28 : ∀ (_ : True), ∀ (n : Nat) (v : Int32 × (Nat → Nat → Int32) × (Nat → Nat → Int64)), whileK (fun k v => fX6_isWord_5_not_s28 fu k v.1 v.2.1 v.2.2) n v = some (res, s9) → ∀ (H : Heap) (locs : List Loc) (ls : Array Slot), va_P G.1 vwCl (zw G (XS 2) 105 a (v.2.1) (v.2.2)) H → va_D A (zw G (XS 2) 105 a (v.2.1) (v.2.2)) → va_S A s.heap H locs → lv_has ls 3 [(0, .ref (a 5)), (1, .ref (G.2.2.2.2.2.1 11)), (2, .int (v.1))] → W p l e { frames := 10, cells := 0, slots := 0, locals := 195 } s m [.ref (a 5), .ref (G.2.2.2.2.2.1 11)].toArray below meth c H locs 0 0 (MQ below ((kQi G (S := Unit) (fun r' _ => r' = res) (fun _ => zw G (XS 2) 105 a s9.1 s9.2)) A) [.ref (a 5), .ref (G.2.2.2.2.2.1 11)].toArray s 0 0 A) (F0 m 28 ls []) := by
        intro _
        refine while_ind (fun k28 ih28 v h => ?_)
        obtain ⟨v2, g, L⟩ := v
        intro H locs ls hP hD hS hl
        have h : fX6_isWord_5_not_s28 fu k28 v2 g L = some (res, s9) := h
        have hP : va_P G.1 vwCl (zw G (XS 2) 105 a g L) H := hP
        have hD : va_D A (zw G (XS 2) 105 a g L) := hD
        have hl : lv_has ls 3 [(0, .ref (a 5)), (1, .ref (G.2.2.2.2.2.1 11)), (2, .int v2)] := hl
        show W p l e { frames := 10, cells := 0, slots := 0, locals := 195 } s m [.ref (a 5), .ref (G.2.2.2.2.2.1 11)].toArray below meth c H locs 0 0 (MQ below ((kQi G (S := Unit) (fun r' _ => r' = res) (fun _ => zw G (XS 2) 105 a s9.1 s9.2)) A) [.ref (a 5), .ref (G.2.2.2.2.2.1 11)].toArray s 0 0 A) (F0 m 28 ls [])
        unfold fX6_isWord_5_not_s28 at h
        refine lv_iload_n hx hb dX6_isWord_28 rfl (lv_at hl 2 rfl) ?_
        refine lv_aload_n hx hb dX6_isWord_29 rfl (lv_at hl 1 rfl) ?_
        refine y_slen (v := 3) C (by decide) (by decide) hP hD hS (kR rfl) hl.1 (Nat.le_of_ble_eq_true rfl) dX6_isWord_30 (fun H locs hP hD hS => ?_)
        refine lv_icmp_ge (x := v2) (y := 3) (tgt := 63) hx hb dX6_isWord_33 (by decide) (fun c3 => ?_) (fun c3 => ?_)
        ·
          have h := ite_t c3 h
          refine lv_iconst (v := 1) hx hb dX6_isWord_63 (by decide) ?_
          exact y_zret C hr hlk hP hD hS h (Nat.le_of_ble_eq_true rfl) (Nat.le_of_ble_eq_true rfl) dX6_isWord_64
        ·
          have h := ite_e c3 h
          refine lv_aload_n hx hb dX6_isWord_36 rfl (lv_at hl 0 rfl) ?_
          refine x_getr (Or.inl fl_X6_9) C hP (by decide) xs_5 rfl dX6_isWord_37 ?_
          refine lv_aload_n hx hb dX6_isWord_40 rfl (lv_at hl 0 rfl) ?_
          refine x_getv (v := .int (g 5 5)) (Or.inl fl_X6_59) C hP (by decide) xs_5 rfl dX6_isWord_41 ?_
          refine lv_iload_n hx hb dX6_isWord_44 rfl (lv_at hl 2 rfl) ?_
          refine lv_iadd hx hb dX6_isWord_45 ?_
          refine y_ald C hP (by decide) xs_14 dX6_isWord_46 h (fun h => ?_)
          refine lv_aload_n hx hb dX6_isWord_47 rfl (lv_at hl 1 rfl) ?_
          refine lv_iload_n hx hb dX6_isWord_48 rfl (lv_at hl 2 rfl) ?_
          refine y_schr (N := 3) C (by decide) (by decide) hP hD hS (kR rfl) hl.1 (Nat.le_of_ble_eq_true rfl) dX6_isWord_49 h (fun H locs h hP hD hS => ?_)
          refine lv_icmp_eq (x := (g 14 (Int32.toNatClampNeg ((g 5 5) + v2)))) (y := (sch 11 (Int32.toNatClampNeg v2))) (tgt := 57) hx hb dX6_isWord_52 (by decide) (fun c4 => ?_) (fun c4 => ?_)
          ·
            have h := ite_t c4 h
            refine lv_iinc (v := (v2 + 1)) (lv' := [(2, .int (v2 + 1)), (0, .ref (a 5)), (1, .ref (G.2.2.2.2.2.1 11))]) hx hb dX6_isWord_57 hl (k := 2) rfl rfl (by decide) rfl (fun ls hl => ?_)
            refine lv_goto (tgt := 28) hx hb dX6_isWord_60 (by decide) ?_
            exact ih28 ((v2 + 1), g, L) h H locs ls hP hD hS (lv_sub hl [1, 2, 0] rfl)
          ·
            have h := ite_e c4 h
            refine lv_iconst (v := 0) hx hb dX6_isWord_55 (by decide) ?_
            exact y_zret C hr hlk hP hD hS h (Nat.le_of_ble_eq_true rfl) (Nat.le_of_ble_eq_true rfl) dX6_isWord_56
      exact lp28 trivial fu (0, g, L) h H locs ls hP hD hS (lv_sub hl [1, 2, 0] rfl)
    ·
      have h := ite_e c2 h
      exact J24 g L H locs ls h hP hD hS (lv_sub hl [] rfl)
def fX6_isWord_5_and_p24 (fu : Nat) (g : Nat → Nat → Int32) (L : Nat → Nat → Int64) : Option ((Int32) × zS) :=
  ckb 0 (some (0, (g, L)))
def fX6_isWord_5_and_s28 (fu : Nat) (k28 : Int32 × (Nat → Nat → Int32) × (Nat → Nat → Int64) → Option ((Int32) × zS)) (v2 : Int32) (g : Nat → Nat → Int32) (L : Nat → Nat → Int64) : Option ((Int32) × zS) :=
  if 3 ≤ (v2 : Int32) then ckb 1 (some (1, (g, L)))
  else ck ((g 5 5) + v2) 700 (
  ck v2 3 (
  if (g 14 (Int32.toNatClampNeg ((g 5 5) + v2))) = (sch 10 (Int32.toNatClampNeg v2)) then k28 ((v2 + 1), g, L)
  else ckb 0 (some (0, (g, L)))))
def fX6_isWord_5_and_l28 (fu : Nat) (v2 : Int32) (g : Nat → Nat → Int32) (L : Nat → Nat → Int64) : Option ((Int32) × zS) :=
  whileK (fun k v => fX6_isWord_5_and_s28 fu k v.1 v.2.1 v.2.2) fu (v2, g, L)
def fX6_isWord_5_and (fu : Nat) (g : Nat → Nat → Int32) (L : Nat → Nat → Int64) : Option ((Int32) × zS) :=
  if (g 5 4) = 2 then (if ((g 5 3) - (g 5 5)) = 3 then fX6_isWord_5_and_l28 fu 0 g L
  else fX6_isWord_5_and_p24 fu g L)
  else fX6_isWord_5_and_p24 fu g L
set_option maxHeartbeats 4000000 in
set_option maxRecDepth 100000 in
theorem rX6_isWord_5_and (l : Launch) (G : kG) (sz : Nat) (a : Nat → Nat) (fu : Nat) (g : Nat → Nat → Int32) (L : Nat → Nat → Int64) (res : Int32) (s9 : zS) (h : fX6_isWord_5_and fu g L = some (res, s9)) : kM l yX6_isWord cX6_isWord 3 (some .boolean) { frames := 10, cells := 0, slots := 0, locals := 195 } G [.ref (a 5), .ref (G.2.2.2.2.2.1 10)] (zw G (XS 2) 105 a g L) sz (kQi G (S := Unit) (fun r' _ => r' = res) (fun _ => zw G (XS 2) 105 a s9.1 s9.2)) := by
  refine kM.of (by decide) (Nat.le_of_ble_eq_true rfl) ?_
  intro p e s m below meth c A ls H C hr hlk hnm hP hD hS hl
  have C : kC G p s m c cX6_isWord 3 RX6 A := C
  have hx := C.1
  have hb := C.2.1
  have hl : lv_has ls 3 [(0, .ref (a 5)), (1, .ref (G.2.2.2.2.2.1 10))] := hl
  obtain ⟨locs, hlocs⟩ : ∃ q : List Loc, q = [] := ⟨_, rfl⟩
  rw [← hlocs] at hS
  rw [← hlocs]
  unfold fX6_isWord_5_and at h
  refine lv_aload_n hx hb dX6_isWord_0 rfl (lv_at hl 0 rfl) ?_
  refine x_getv (v := .int (g 5 4)) (Or.inl fl_X6_50) C hP (by decide) xs_5 rfl dX6_isWord_1 ?_
  refine lv_iconst (v := 2) hx hb dX6_isWord_4 (by decide) ?_
  have J24 : ∀ (g : Nat → Nat → Int32) (L : Nat → Nat → Int64) (H : Heap) (locs : List Loc) (ls : Array Slot), fX6_isWord_5_and_p24 fu g L = some (res, s9) → va_P G.1 vwCl (zw G (XS 2) 105 a g L) H → va_D A (zw G (XS 2) 105 a g L) → va_S A s.heap H locs → lv_has ls 3 [] → W p l e { frames := 10, cells := 0, slots := 0, locals := 195 } s m [.ref (a 5), .ref (G.2.2.2.2.2.1 10)].toArray below meth c H locs 0 0 (MQ below ((kQi G (S := Unit) (fun r' _ => r' = res) (fun _ => zw G (XS 2) 105 a s9.1 s9.2)) A) [.ref (a 5), .ref (G.2.2.2.2.2.1 10)].toArray s 0 0 A) (F0 m 24 ls []) := by
    intro g L H locs ls h hP hD hS hl
    unfold fX6_isWord_5_and_p24 at h
    refine lv_iconst (v := 0) hx hb dX6_isWord_24 (by decide) ?_
    exact y_zret C hr hlk hP hD hS h (Nat.le_of_ble_eq_true rfl) (Nat.le_of_ble_eq_true rfl) dX6_isWord_25
  refine lv_icmp_ne (x := (g 5 4)) (y := 2) (tgt := 24) hx hb dX6_isWord_5 (by decide) (fun c1 => ?_) (fun c1 => ?_)
  ·
    have h := ite_e c1 h
    exact J24 g L H locs ls h hP hD hS (lv_sub hl [] rfl)
  ·
    have h := ite_t c1 h
    refine lv_aload_n hx hb dX6_isWord_8 rfl (lv_at hl 0 rfl) ?_
    refine x_getv (v := .int (g 5 3)) (Or.inl fl_X6_34) C hP (by decide) xs_5 rfl dX6_isWord_9 ?_
    refine lv_aload_n hx hb dX6_isWord_12 rfl (lv_at hl 0 rfl) ?_
    refine x_getv (v := .int (g 5 5)) (Or.inl fl_X6_59) C hP (by decide) xs_5 rfl dX6_isWord_13 ?_
    refine lv_isub hx hb dX6_isWord_16 ?_
    refine lv_aload_n hx hb dX6_isWord_17 rfl (lv_at hl 1 rfl) ?_
    refine y_slen (v := 3) C (by decide) (by decide) hP hD hS (kR rfl) hl.1 (Nat.le_of_ble_eq_true rfl) dX6_isWord_18 (fun H locs hP hD hS => ?_)
    refine lv_icmp_eq (x := ((g 5 3) - (g 5 5))) (y := 3) (tgt := 26) hx hb dX6_isWord_21 (by decide) (fun c2 => ?_) (fun c2 => ?_)
    ·
      have h := ite_t c2 h
      refine lv_iconst (v := 0) hx hb dX6_isWord_26 (by decide) ?_
      refine lv_istore_n (lv' := [(2, .int 0), (0, .ref (a 5)), (1, .ref (G.2.2.2.2.2.1 10))]) hx hb dX6_isWord_27 rfl hl (by decide) rfl (fun ls hl => ?_)
      have lp28 : ∀ (_ : True), ∀ (n : Nat) (v : Int32 × (Nat → Nat → Int32) × (Nat → Nat → Int64)), whileK (fun k v => fX6_isWord_5_and_s28 fu k v.1 v.2.1 v.2.2) n v = some (res, s9) → ∀ (H : Heap) (locs : List Loc) (ls : Array Slot), va_P G.1 vwCl (zw G (XS 2) 105 a (v.2.1) (v.2.2)) H → va_D A (zw G (XS 2) 105 a (v.2.1) (v.2.2)) → va_S A s.heap H locs → lv_has ls 3 [(0, .ref (a 5)), (1, .ref (G.2.2.2.2.2.1 10)), (2, .int (v.1))] → W p l e { frames := 10, cells := 0, slots := 0, locals := 195 } s m [.ref (a 5), .ref (G.2.2.2.2.2.1 10)].toArray below meth c H locs 0 0 (MQ below ((kQi G (S := Unit) (fun r' _ => r' = res) (fun _ => zw G (XS 2) 105 a s9.1 s9.2)) A) [.ref (a 5), .ref (G.2.2.2.2.2.1 10)].toArray s 0 0 A) (F0 m 28 ls []) := by
        intro _
        refine while_ind (fun k28 ih28 v h => ?_)
        obtain ⟨v2, g, L⟩ := v
        intro H locs ls hP hD hS hl
        have h : fX6_isWord_5_and_s28 fu k28 v2 g L = some (res, s9) := h
        have hP : va_P G.1 vwCl (zw G (XS 2) 105 a g L) H := hP
        have hD : va_D A (zw G (XS 2) 105 a g L) := hD
        have hl : lv_has ls 3 [(0, .ref (a 5)), (1, .ref (G.2.2.2.2.2.1 10)), (2, .int v2)] := hl
        show W p l e { frames := 10, cells := 0, slots := 0, locals := 195 } s m [.ref (a 5), .ref (G.2.2.2.2.2.1 10)].toArray below meth c H locs 0 0 (MQ below ((kQi G (S := Unit) (fun r' _ => r' = res) (fun _ => zw G (XS 2) 105 a s9.1 s9.2)) A) [.ref (a 5), .ref (G.2.2.2.2.2.1 10)].toArray s 0 0 A) (F0 m 28 ls [])
        unfold fX6_isWord_5_and_s28 at h
        refine lv_iload_n hx hb dX6_isWord_28 rfl (lv_at hl 2 rfl) ?_
        refine lv_aload_n hx hb dX6_isWord_29 rfl (lv_at hl 1 rfl) ?_
        refine y_slen (v := 3) C (by decide) (by decide) hP hD hS (kR rfl) hl.1 (Nat.le_of_ble_eq_true rfl) dX6_isWord_30 (fun H locs hP hD hS => ?_)
        refine lv_icmp_ge (x := v2) (y := 3) (tgt := 63) hx hb dX6_isWord_33 (by decide) (fun c3 => ?_) (fun c3 => ?_)
        ·
          have h := ite_t c3 h
          refine lv_iconst (v := 1) hx hb dX6_isWord_63 (by decide) ?_
          exact y_zret C hr hlk hP hD hS h (Nat.le_of_ble_eq_true rfl) (Nat.le_of_ble_eq_true rfl) dX6_isWord_64
        ·
          have h := ite_e c3 h
          refine lv_aload_n hx hb dX6_isWord_36 rfl (lv_at hl 0 rfl) ?_
          refine x_getr (Or.inl fl_X6_9) C hP (by decide) xs_5 rfl dX6_isWord_37 ?_
          refine lv_aload_n hx hb dX6_isWord_40 rfl (lv_at hl 0 rfl) ?_
          refine x_getv (v := .int (g 5 5)) (Or.inl fl_X6_59) C hP (by decide) xs_5 rfl dX6_isWord_41 ?_
          refine lv_iload_n hx hb dX6_isWord_44 rfl (lv_at hl 2 rfl) ?_
          refine lv_iadd hx hb dX6_isWord_45 ?_
          refine y_ald C hP (by decide) xs_14 dX6_isWord_46 h (fun h => ?_)
          refine lv_aload_n hx hb dX6_isWord_47 rfl (lv_at hl 1 rfl) ?_
          refine lv_iload_n hx hb dX6_isWord_48 rfl (lv_at hl 2 rfl) ?_
          refine y_schr (N := 3) C (by decide) (by decide) hP hD hS (kR rfl) hl.1 (Nat.le_of_ble_eq_true rfl) dX6_isWord_49 h (fun H locs h hP hD hS => ?_)
          refine lv_icmp_eq (x := (g 14 (Int32.toNatClampNeg ((g 5 5) + v2)))) (y := (sch 10 (Int32.toNatClampNeg v2))) (tgt := 57) hx hb dX6_isWord_52 (by decide) (fun c4 => ?_) (fun c4 => ?_)
          ·
            have h := ite_t c4 h
            refine lv_iinc (v := (v2 + 1)) (lv' := [(2, .int (v2 + 1)), (0, .ref (a 5)), (1, .ref (G.2.2.2.2.2.1 10))]) hx hb dX6_isWord_57 hl (k := 2) rfl rfl (by decide) rfl (fun ls hl => ?_)
            refine lv_goto (tgt := 28) hx hb dX6_isWord_60 (by decide) ?_
            exact ih28 ((v2 + 1), g, L) h H locs ls hP hD hS (lv_sub hl [1, 2, 0] rfl)
          ·
            have h := ite_e c4 h
            refine lv_iconst (v := 0) hx hb dX6_isWord_55 (by decide) ?_
            exact y_zret C hr hlk hP hD hS h (Nat.le_of_ble_eq_true rfl) (Nat.le_of_ble_eq_true rfl) dX6_isWord_56
      exact lp28 trivial fu (0, g, L) h H locs ls hP hD hS (lv_sub hl [1, 2, 0] rfl)
    ·
      have h := ite_e c2 h
      exact J24 g L H locs ls h hP hD hS (lv_sub hl [] rfl)
def fX6_isWord_5_or_p24 (fu : Nat) (g : Nat → Nat → Int32) (L : Nat → Nat → Int64) : Option ((Int32) × zS) :=
  ckb 0 (some (0, (g, L)))
def fX6_isWord_5_or_s28 (fu : Nat) (k28 : Int32 × (Nat → Nat → Int32) × (Nat → Nat → Int64) → Option ((Int32) × zS)) (v2 : Int32) (g : Nat → Nat → Int32) (L : Nat → Nat → Int64) : Option ((Int32) × zS) :=
  if 2 ≤ (v2 : Int32) then ckb 1 (some (1, (g, L)))
  else ck ((g 5 5) + v2) 700 (
  ck v2 2 (
  if (g 14 (Int32.toNatClampNeg ((g 5 5) + v2))) = (sch 9 (Int32.toNatClampNeg v2)) then k28 ((v2 + 1), g, L)
  else ckb 0 (some (0, (g, L)))))
def fX6_isWord_5_or_l28 (fu : Nat) (v2 : Int32) (g : Nat → Nat → Int32) (L : Nat → Nat → Int64) : Option ((Int32) × zS) :=
  whileK (fun k v => fX6_isWord_5_or_s28 fu k v.1 v.2.1 v.2.2) fu (v2, g, L)
def fX6_isWord_5_or (fu : Nat) (g : Nat → Nat → Int32) (L : Nat → Nat → Int64) : Option ((Int32) × zS) :=
  if (g 5 4) = 2 then (if ((g 5 3) - (g 5 5)) = 2 then fX6_isWord_5_or_l28 fu 0 g L
  else fX6_isWord_5_or_p24 fu g L)
  else fX6_isWord_5_or_p24 fu g L
set_option maxHeartbeats 4000000 in
set_option maxRecDepth 100000 in
theorem rX6_isWord_5_or (l : Launch) (G : kG) (sz : Nat) (a : Nat → Nat) (fu : Nat) (g : Nat → Nat → Int32) (L : Nat → Nat → Int64) (res : Int32) (s9 : zS) (h : fX6_isWord_5_or fu g L = some (res, s9)) : kM l yX6_isWord cX6_isWord 3 (some .boolean) { frames := 10, cells := 0, slots := 0, locals := 195 } G [.ref (a 5), .ref (G.2.2.2.2.2.1 9)] (zw G (XS 2) 105 a g L) sz (kQi G (S := Unit) (fun r' _ => r' = res) (fun _ => zw G (XS 2) 105 a s9.1 s9.2)) := by
  refine kM.of (by decide) (Nat.le_of_ble_eq_true rfl) ?_
  intro p e s m below meth c A ls H C hr hlk hnm hP hD hS hl
  have C : kC G p s m c cX6_isWord 3 RX6 A := C
  have hx := C.1
  have hb := C.2.1
  have hl : lv_has ls 3 [(0, .ref (a 5)), (1, .ref (G.2.2.2.2.2.1 9))] := hl
  obtain ⟨locs, hlocs⟩ : ∃ q : List Loc, q = [] := ⟨_, rfl⟩
  rw [← hlocs] at hS
  rw [← hlocs]
  unfold fX6_isWord_5_or at h
  refine lv_aload_n hx hb dX6_isWord_0 rfl (lv_at hl 0 rfl) ?_
  refine x_getv (v := .int (g 5 4)) (Or.inl fl_X6_50) C hP (by decide) xs_5 rfl dX6_isWord_1 ?_
  refine lv_iconst (v := 2) hx hb dX6_isWord_4 (by decide) ?_
  have J24 : ∀ (g : Nat → Nat → Int32) (L : Nat → Nat → Int64) (H : Heap) (locs : List Loc) (ls : Array Slot), fX6_isWord_5_or_p24 fu g L = some (res, s9) → va_P G.1 vwCl (zw G (XS 2) 105 a g L) H → va_D A (zw G (XS 2) 105 a g L) → va_S A s.heap H locs → lv_has ls 3 [] → W p l e { frames := 10, cells := 0, slots := 0, locals := 195 } s m [.ref (a 5), .ref (G.2.2.2.2.2.1 9)].toArray below meth c H locs 0 0 (MQ below ((kQi G (S := Unit) (fun r' _ => r' = res) (fun _ => zw G (XS 2) 105 a s9.1 s9.2)) A) [.ref (a 5), .ref (G.2.2.2.2.2.1 9)].toArray s 0 0 A) (F0 m 24 ls []) := by
    intro g L H locs ls h hP hD hS hl
    unfold fX6_isWord_5_or_p24 at h
    refine lv_iconst (v := 0) hx hb dX6_isWord_24 (by decide) ?_
    exact y_zret C hr hlk hP hD hS h (Nat.le_of_ble_eq_true rfl) (Nat.le_of_ble_eq_true rfl) dX6_isWord_25
  refine lv_icmp_ne (x := (g 5 4)) (y := 2) (tgt := 24) hx hb dX6_isWord_5 (by decide) (fun c1 => ?_) (fun c1 => ?_)
  ·
    have h := ite_e c1 h
    exact J24 g L H locs ls h hP hD hS (lv_sub hl [] rfl)
  ·
    have h := ite_t c1 h
    refine lv_aload_n hx hb dX6_isWord_8 rfl (lv_at hl 0 rfl) ?_
    refine x_getv (v := .int (g 5 3)) (Or.inl fl_X6_34) C hP (by decide) xs_5 rfl dX6_isWord_9 ?_
    refine lv_aload_n hx hb dX6_isWord_12 rfl (lv_at hl 0 rfl) ?_
    refine x_getv (v := .int (g 5 5)) (Or.inl fl_X6_59) C hP (by decide) xs_5 rfl dX6_isWord_13 ?_
    refine lv_isub hx hb dX6_isWord_16 ?_
    refine lv_aload_n hx hb dX6_isWord_17 rfl (lv_at hl 1 rfl) ?_
    refine y_slen (v := 2) C (by decide) (by decide) hP hD hS (kR rfl) hl.1 (Nat.le_of_ble_eq_true rfl) dX6_isWord_18 (fun H locs hP hD hS => ?_)
    refine lv_icmp_eq (x := ((g 5 3) - (g 5 5))) (y := 2) (tgt := 26) hx hb dX6_isWord_21 (by decide) (fun c2 => ?_) (fun c2 => ?_)
    ·
      have h := ite_t c2 h
      refine lv_iconst (v := 0) hx hb dX6_isWord_26 (by decide) ?_
      refine lv_istore_n (lv' := [(2, .int 0), (0, .ref (a 5)), (1, .ref (G.2.2.2.2.2.1 9))]) hx hb dX6_isWord_27 rfl hl (by decide) rfl (fun ls hl => ?_)
      have lp28 : ∀ (_ : True), ∀ (n : Nat) (v : Int32 × (Nat → Nat → Int32) × (Nat → Nat → Int64)), whileK (fun k v => fX6_isWord_5_or_s28 fu k v.1 v.2.1 v.2.2) n v = some (res, s9) → ∀ (H : Heap) (locs : List Loc) (ls : Array Slot), va_P G.1 vwCl (zw G (XS 2) 105 a (v.2.1) (v.2.2)) H → va_D A (zw G (XS 2) 105 a (v.2.1) (v.2.2)) → va_S A s.heap H locs → lv_has ls 3 [(0, .ref (a 5)), (1, .ref (G.2.2.2.2.2.1 9)), (2, .int (v.1))] → W p l e { frames := 10, cells := 0, slots := 0, locals := 195 } s m [.ref (a 5), .ref (G.2.2.2.2.2.1 9)].toArray below meth c H locs 0 0 (MQ below ((kQi G (S := Unit) (fun r' _ => r' = res) (fun _ => zw G (XS 2) 105 a s9.1 s9.2)) A) [.ref (a 5), .ref (G.2.2.2.2.2.1 9)].toArray s 0 0 A) (F0 m 28 ls []) := by
        intro _
        refine while_ind (fun k28 ih28 v h => ?_)
        obtain ⟨v2, g, L⟩ := v
        intro H locs ls hP hD hS hl
        have h : fX6_isWord_5_or_s28 fu k28 v2 g L = some (res, s9) := h
        have hP : va_P G.1 vwCl (zw G (XS 2) 105 a g L) H := hP
        have hD : va_D A (zw G (XS 2) 105 a g L) := hD
        have hl : lv_has ls 3 [(0, .ref (a 5)), (1, .ref (G.2.2.2.2.2.1 9)), (2, .int v2)] := hl
        show W p l e { frames := 10, cells := 0, slots := 0, locals := 195 } s m [.ref (a 5), .ref (G.2.2.2.2.2.1 9)].toArray below meth c H locs 0 0 (MQ below ((kQi G (S := Unit) (fun r' _ => r' = res) (fun _ => zw G (XS 2) 105 a s9.1 s9.2)) A) [.ref (a 5), .ref (G.2.2.2.2.2.1 9)].toArray s 0 0 A) (F0 m 28 ls [])
        unfold fX6_isWord_5_or_s28 at h
        refine lv_iload_n hx hb dX6_isWord_28 rfl (lv_at hl 2 rfl) ?_
        refine lv_aload_n hx hb dX6_isWord_29 rfl (lv_at hl 1 rfl) ?_
        refine y_slen (v := 2) C (by decide) (by decide) hP hD hS (kR rfl) hl.1 (Nat.le_of_ble_eq_true rfl) dX6_isWord_30 (fun H locs hP hD hS => ?_)
        refine lv_icmp_ge (x := v2) (y := 2) (tgt := 63) hx hb dX6_isWord_33 (by decide) (fun c3 => ?_) (fun c3 => ?_)
        ·
          have h := ite_t c3 h
          refine lv_iconst (v := 1) hx hb dX6_isWord_63 (by decide) ?_
          exact y_zret C hr hlk hP hD hS h (Nat.le_of_ble_eq_true rfl) (Nat.le_of_ble_eq_true rfl) dX6_isWord_64
        ·
          have h := ite_e c3 h
          refine lv_aload_n hx hb dX6_isWord_36 rfl (lv_at hl 0 rfl) ?_
          refine x_getr (Or.inl fl_X6_9) C hP (by decide) xs_5 rfl dX6_isWord_37 ?_
          refine lv_aload_n hx hb dX6_isWord_40 rfl (lv_at hl 0 rfl) ?_
          refine x_getv (v := .int (g 5 5)) (Or.inl fl_X6_59) C hP (by decide) xs_5 rfl dX6_isWord_41 ?_
          refine lv_iload_n hx hb dX6_isWord_44 rfl (lv_at hl 2 rfl) ?_
          refine lv_iadd hx hb dX6_isWord_45 ?_
          refine y_ald C hP (by decide) xs_14 dX6_isWord_46 h (fun h => ?_)
          refine lv_aload_n hx hb dX6_isWord_47 rfl (lv_at hl 1 rfl) ?_
          refine lv_iload_n hx hb dX6_isWord_48 rfl (lv_at hl 2 rfl) ?_
          refine y_schr (N := 2) C (by decide) (by decide) hP hD hS (kR rfl) hl.1 (Nat.le_of_ble_eq_true rfl) dX6_isWord_49 h (fun H locs h hP hD hS => ?_)
          refine lv_icmp_eq (x := (g 14 (Int32.toNatClampNeg ((g 5 5) + v2)))) (y := (sch 9 (Int32.toNatClampNeg v2))) (tgt := 57) hx hb dX6_isWord_52 (by decide) (fun c4 => ?_) (fun c4 => ?_)
          ·
            have h := ite_t c4 h
            refine lv_iinc (v := (v2 + 1)) (lv' := [(2, .int (v2 + 1)), (0, .ref (a 5)), (1, .ref (G.2.2.2.2.2.1 9))]) hx hb dX6_isWord_57 hl (k := 2) rfl rfl (by decide) rfl (fun ls hl => ?_)
            refine lv_goto (tgt := 28) hx hb dX6_isWord_60 (by decide) ?_
            exact ih28 ((v2 + 1), g, L) h H locs ls hP hD hS (lv_sub hl [1, 2, 0] rfl)
          ·
            have h := ite_e c4 h
            refine lv_iconst (v := 0) hx hb dX6_isWord_55 (by decide) ?_
            exact y_zret C hr hlk hP hD hS h (Nat.le_of_ble_eq_true rfl) (Nat.le_of_ble_eq_true rfl) dX6_isWord_56
      exact lp28 trivial fu (0, g, L) h H locs ls hP hD hS (lv_sub hl [1, 2, 0] rfl)
    ·
      have h := ite_e c2 h
      exact J24 g L H locs ls h hP hD hS (lv_sub hl [] rfl)
def fX6_readPart_5_p111 (fu : Nat) (rc : Int32 → (Nat → Nat → Int32) → (Nat → Nat → Int64) → Option ((Unit) × zS)) (g : Nat → Nat → Int32) (L : Nat → Nat → Int64) : Option ((Unit) × zS) :=
  some ((), (g, L))
def fX6_readPart_5_p106 (fu : Nat) (rc : Int32 → (Nat → Nat → Int32) → (Nat → Nat → Int64) → Option ((Unit) × zS)) (g : Nat → Nat → Int32) (L : Nat → Nat → Int64) : Option ((Unit) × zS) :=
  cb (fX6_refuse_5 fu 1 g L) (fun x7 g8 L9 =>
  fX6_readPart_5_p111 fu rc g8 L9)
def fX6_readPart_5_p52 (fu : Nat) (rc : Int32 → (Nat → Nat → Int32) → (Nat → Nat → Int64) → Option ((Unit) × zS)) (v2 : Int32) (g : Nat → Nat → Int32) (L : Nat → Nat → Int64) : Option ((Unit) × zS) :=
  cb (fX8_add_4 fu ((-1) - v2) g L) (fun x29 g30 L31 =>
  cb (fX6_advance_5 fu g30 L31) (fun x33 g34 L35 =>
  fX6_readPart_5_p111 fu rc g34 L35))
def fX6_readPart_5 (fu : Nat) (rc : Int32 → (Nat → Nat → Int32) → (Nat → Nat → Int64) → Option ((Unit) × zS)) (p1 : Int32) (g : Nat → Nat → Int32) (L : Nat → Nat → Int64) : Option ((Unit) × zS) :=
  if (g 5 4) = 1 then cb (fX6_readNumber_5 fu 0 9999 g L) (fun x42 g43 L44 =>
  cb (fX8_add_4 fu x42 g43 L44) (fun x46 g47 L48 =>
  fX6_readPart_5_p111 fu rc g47 L48))
  else if (g 5 4) = 2 then cb (fX6_valueNow_5 fu g L) (fun x25 g26 L27 =>
  if (x25 : Int32) = (-1) then cb (fX6_refuse_5 fu 3 g26 L27) (fun x38 g39 L40 =>
  fX6_readPart_5_p52 fu rc x25 g39 L40)
  else fX6_readPart_5_p52 fu rc x25 g26 L27)
  else cb (fX6_isSignNow_5 fu 40 g L) (fun x3 g4 L5 =>
  if x3 = 0 then fX6_readPart_5_p106 fu rc g4 L5
  else if 5 < (p1 : Int32) then fX6_readPart_5_p106 fu rc g4 L5
  else cb (fX6_advance_5 fu g4 L5) (fun x13 g14 L15 =>
  cb (rc (p1 + 1) g14 L15) (fun x17 g18 L19 =>
  cb (fX6_readSign_5 fu 41 g18 L19) (fun x21 g22 L23 =>
  fX6_readPart_5_p111 fu rc g22 L23))))
def fX6_readProduct_5_p75 (fu : Nat) (rc : Int32 → (Nat → Nat → Int32) → (Nat → Nat → Int64) → Option ((Unit) × zS)) (g : Nat → Nat → Int32) (L : Nat → Nat → Int64) : Option ((Unit) × zS) :=
  some ((), (g, L))
def fX6_readProduct_5_p48 (fu : Nat) (rc : Int32 → (Nat → Nat → Int32) → (Nat → Nat → Int64) → Option ((Unit) × zS)) (k7 : Int32 × (Nat → Nat → Int32) × (Nat → Nat → Int64) → Option ((Unit) × zS)) (v1 : Int32) (v2 : Int32) (t0 : Int32) (g : Nat → Nat → Int32) (L : Nat → Nat → Int64) : Option ((Unit) × zS) :=
  cb (fX6_advance_5 fu g L) (fun x14 g15 L16 =>
  cb (fX6_readPart_5 fu rc v1 g15 L16) (fun x18 g19 L20 =>
  cb (fX8_add_4 fu t0 g19 L20) (fun x22 g23 L24 =>
  k7 ((v2 + 1), g23, L24))))
def fX6_readProduct_5_p32 (fu : Nat) (rc : Int32 → (Nat → Nat → Int32) → (Nat → Nat → Int64) → Option ((Unit) × zS)) (k7 : Int32 × (Nat → Nat → Int32) × (Nat → Nat → Int64) → Option ((Unit) × zS)) (v1 : Int32) (v2 : Int32) (g : Nat → Nat → Int32) (L : Nat → Nat → Int64) : Option ((Unit) × zS) :=
  cb (fX6_isSignNow_5 fu 42 g L) (fun x10 g11 L12 =>
  if x10 = 0 then fX6_readProduct_5_p48 fu rc k7 v1 v2 (-10) g11 L12
  else fX6_readProduct_5_p48 fu rc k7 v1 v2 (-9) g11 L12)
def fX6_readProduct_5_s7 (fu : Nat) (rc : Int32 → (Nat → Nat → Int32) → (Nat → Nat → Int64) → Option ((Unit) × zS)) (v1 : Int32) (k7 : Int32 × (Nat → Nat → Int32) × (Nat → Nat → Int64) → Option ((Unit) × zS)) (v2 : Int32) (g : Nat → Nat → Int32) (L : Nat → Nat → Int64) : Option ((Unit) × zS) :=
  if 700 ≤ (v2 : Int32) then fX6_readProduct_5_p75 fu rc g L
  else cb (fX6_isSignNow_5 fu 42 g L) (fun x6 g7 L8 =>
  if x6 = 0 then cb (fX6_isSignNow_5 fu 47 g7 L8) (fun x28 g29 L30 =>
  if x28 = 0 then fX6_readProduct_5_p75 fu rc g29 L30
  else fX6_readProduct_5_p32 fu rc k7 v1 v2 g29 L30)
  else fX6_readProduct_5_p32 fu rc k7 v1 v2 g7 L8)
def fX6_readProduct_5_l7 (fu : Nat) (rc : Int32 → (Nat → Nat → Int32) → (Nat → Nat → Int64) → Option ((Unit) × zS)) (v1 : Int32) (v2 : Int32) (g : Nat → Nat → Int32) (L : Nat → Nat → Int64) : Option ((Unit) × zS) :=
  whileK (fun k v => fX6_readProduct_5_s7 fu rc v1 k v.1 v.2.1 v.2.2) fu (v2, g, L)
def fX6_readProduct_5 (fu : Nat) (rc : Int32 → (Nat → Nat → Int32) → (Nat → Nat → Int64) → Option ((Unit) × zS)) (p1 : Int32) (g : Nat → Nat → Int32) (L : Nat → Nat → Int64) : Option ((Unit) × zS) :=
  cb (fX6_readPart_5 fu rc p1 g L) (fun x1 g2 L3 =>
  fX6_readProduct_5_l7 fu rc p1 0 g2 L3)
def fX6_readSum_5_p75 (fu : Nat) (rc : Int32 → (Nat → Nat → Int32) → (Nat → Nat → Int64) → Option ((Unit) × zS)) (g : Nat → Nat → Int32) (L : Nat → Nat → Int64) : Option ((Unit) × zS) :=
  some ((), (g, L))
def fX6_readSum_5_p48 (fu : Nat) (rc : Int32 → (Nat → Nat → Int32) → (Nat → Nat → Int64) → Option ((Unit) × zS)) (k7 : Int32 × (Nat → Nat → Int32) × (Nat → Nat → Int64) → Option ((Unit) × zS)) (v1 : Int32) (v2 : Int32) (t0 : Int32) (g : Nat → Nat → Int32) (L : Nat → Nat → Int64) : Option ((Unit) × zS) :=
  cb (fX6_advance_5 fu g L) (fun x14 g15 L16 =>
  cb (fX6_readProduct_5 fu rc v1 g15 L16) (fun x18 g19 L20 =>
  cb (fX8_add_4 fu t0 g19 L20) (fun x22 g23 L24 =>
  k7 ((v2 + 1), g23, L24))))
def fX6_readSum_5_p32 (fu : Nat) (rc : Int32 → (Nat → Nat → Int32) → (Nat → Nat → Int64) → Option ((Unit) × zS)) (k7 : Int32 × (Nat → Nat → Int32) × (Nat → Nat → Int64) → Option ((Unit) × zS)) (v1 : Int32) (v2 : Int32) (g : Nat → Nat → Int32) (L : Nat → Nat → Int64) : Option ((Unit) × zS) :=
  cb (fX6_isSignNow_5 fu 43 g L) (fun x10 g11 L12 =>
  if x10 = 0 then fX6_readSum_5_p48 fu rc k7 v1 v2 (-8) g11 L12
  else fX6_readSum_5_p48 fu rc k7 v1 v2 (-7) g11 L12)
def fX6_readSum_5_s7 (fu : Nat) (rc : Int32 → (Nat → Nat → Int32) → (Nat → Nat → Int64) → Option ((Unit) × zS)) (v1 : Int32) (k7 : Int32 × (Nat → Nat → Int32) × (Nat → Nat → Int64) → Option ((Unit) × zS)) (v2 : Int32) (g : Nat → Nat → Int32) (L : Nat → Nat → Int64) : Option ((Unit) × zS) :=
  if 700 ≤ (v2 : Int32) then fX6_readSum_5_p75 fu rc g L
  else cb (fX6_isSignNow_5 fu 43 g L) (fun x6 g7 L8 =>
  if x6 = 0 then cb (fX6_isSignNow_5 fu 45 g7 L8) (fun x28 g29 L30 =>
  if x28 = 0 then fX6_readSum_5_p75 fu rc g29 L30
  else fX6_readSum_5_p32 fu rc k7 v1 v2 g29 L30)
  else fX6_readSum_5_p32 fu rc k7 v1 v2 g7 L8)
def fX6_readSum_5_l7 (fu : Nat) (rc : Int32 → (Nat → Nat → Int32) → (Nat → Nat → Int64) → Option ((Unit) × zS)) (v1 : Int32) (v2 : Int32) (g : Nat → Nat → Int32) (L : Nat → Nat → Int64) : Option ((Unit) × zS) :=
  whileK (fun k v => fX6_readSum_5_s7 fu rc v1 k v.1 v.2.1 v.2.2) fu (v2, g, L)
def fX6_readSum_5 (fu : Nat) (rc : Int32 → (Nat → Nat → Int32) → (Nat → Nat → Int64) → Option ((Unit) × zS)) (p1 : Int32) (g : Nat → Nat → Int32) (L : Nat → Nat → Int64) : Option ((Unit) × zS) :=
  cb (fX6_readProduct_5 fu rc p1 g L) (fun x1 g2 L3 =>
  fX6_readSum_5_l7 fu rc p1 0 g2 L3)
def fX6_readTest_5_p68 (fu : Nat) (rc : Int32 → (Nat → Nat → Int32) → (Nat → Nat → Int64) → Option ((Unit) × zS)) (g : Nat → Nat → Int32) (L : Nat → Nat → Int64) : Option ((Unit) × zS) :=
  some ((), (g, L))
def fX6_readTest_5 (fu : Nat) (rc : Int32 → (Nat → Nat → Int32) → (Nat → Nat → Int64) → Option ((Unit) × zS)) (p1 : Int32) (g : Nat → Nat → Int32) (L : Nat → Nat → Int64) : Option ((Unit) × zS) :=
  cb (fX6_readSum_5 fu rc p1 g L) (fun x1 g2 L3 =>
  cb (fX6_isSignNow_5 fu 60 g2 L3) (fun x5 g6 L7 =>
  if x5 = 0 then cb (fX6_isSignNow_5 fu 61 g6 L7) (fun x10 g11 L12 =>
  if x10 = 0 then fX6_readTest_5_p68 fu rc g11 L12
  else cb (fX6_advance_5 fu g11 L12) (fun x15 g16 L17 =>
  cb (fX6_readSum_5 fu rc p1 g16 L17) (fun x19 g20 L21 =>
  cb (fX8_add_4 fu (-12) g20 L21) (fun x23 g24 L25 =>
  fX6_readTest_5_p68 fu rc g24 L25))))
  else cb (fX6_advance_5 fu g6 L7) (fun x27 g28 L29 =>
  cb (fX6_readSum_5 fu rc p1 g28 L29) (fun x31 g32 L33 =>
  cb (fX8_add_4 fu (-11) g32 L33) (fun x35 g36 L37 =>
  fX6_readTest_5_p68 fu rc g36 L37)))))
def fX6_readNot_5_s54 (fu : Nat) (rc : Int32 → (Nat → Nat → Int32) → (Nat → Nat → Int64) → Option ((Unit) × zS)) (v2 : Int32) (k54 : Int32 × (Nat → Nat → Int32) × (Nat → Nat → Int64) → Option ((Unit) × zS)) (v3 : Int32) (g : Nat → Nat → Int32) (L : Nat → Nat → Int64) : Option ((Unit) × zS) :=
  if v2 ≤ (v3 : Int32) then some ((), (g, L))
  else cb (fX8_add_4 fu (-15) g L) (fun x10 g11 L12 =>
  k54 ((v3 + 1), g11, L12))
def fX6_readNot_5_l54 (fu : Nat) (rc : Int32 → (Nat → Nat → Int32) → (Nat → Nat → Int64) → Option ((Unit) × zS)) (v2 : Int32) (v3 : Int32) (g : Nat → Nat → Int32) (L : Nat → Nat → Int64) : Option ((Unit) × zS) :=
  whileK (fun k v => fX6_readNot_5_s54 fu rc v2 k v.1 v.2.1 v.2.2) fu (v3, g, L)
def fX6_readNot_5_p47 (fu : Nat) (rc : Int32 → (Nat → Nat → Int32) → (Nat → Nat → Int64) → Option ((Unit) × zS)) (v1 : Int32) (v2 : Int32) (g : Nat → Nat → Int32) (L : Nat → Nat → Int64) : Option ((Unit) × zS) :=
  cb (fX6_readTest_5 fu rc v1 g L) (fun x5 g6 L7 =>
  fX6_readNot_5_l54 fu rc v2 0 g6 L7)
def fX6_readNot_5_p27 (fu : Nat) (rc : Int32 → (Nat → Nat → Int32) → (Nat → Nat → Int64) → Option ((Unit) × zS)) (v1 : Int32) (v2 : Int32) (g : Nat → Nat → Int32) (L : Nat → Nat → Int64) : Option ((Unit) × zS) :=
  cb (fX6_isWord_5_not fu g L) (fun x1 g2 L3 =>
  if x1 = 0 then fX6_readNot_5_p47 fu rc v1 v2 g2 L3
  else if (v2 : Int32) < 6 then fX6_readNot_5_p47 fu rc v1 v2 g2 L3
  else cb (fX6_refuse_5 fu 2 g2 L3) (fun x16 g17 L18 =>
  fX6_readNot_5_p47 fu rc v1 v2 g17 L18))
def fX6_readNot_5_s2 (fu : Nat) (rc : Int32 → (Nat → Nat → Int32) → (Nat → Nat → Int64) → Option ((Unit) × zS)) (v1 : Int32) (k2 : Int32 × (Nat → Nat → Int32) × (Nat → Nat → Int64) → Option ((Unit) × zS)) (v2 : Int32) (g : Nat → Nat → Int32) (L : Nat → Nat → Int64) : Option ((Unit) × zS) :=
  if 6 ≤ (v2 : Int32) then fX6_readNot_5_p27 fu rc v1 v2 g L
  else cb (fX6_isWord_5_not fu g L) (fun x21 g22 L23 =>
  if x21 = 0 then fX6_readNot_5_p27 fu rc v1 v2 g22 L23
  else cb (fX6_advance_5 fu g22 L23) (fun x26 g27 L28 =>
  k2 ((v2 + 1), g27, L28)))
def fX6_readNot_5_l2 (fu : Nat) (rc : Int32 → (Nat → Nat → Int32) → (Nat → Nat → Int64) → Option ((Unit) × zS)) (v1 : Int32) (v2 : Int32) (g : Nat → Nat → Int32) (L : Nat → Nat → Int64) : Option ((Unit) × zS) :=
  whileK (fun k v => fX6_readNot_5_s2 fu rc v1 k v.1 v.2.1 v.2.2) fu (v2, g, L)
def fX6_readNot_5 (fu : Nat) (rc : Int32 → (Nat → Nat → Int32) → (Nat → Nat → Int64) → Option ((Unit) × zS)) (p1 : Int32) (g : Nat → Nat → Int32) (L : Nat → Nat → Int64) : Option ((Unit) × zS) :=
  fX6_readNot_5_l2 fu rc p1 0 g L
def fX6_readAnd_5_p50 (fu : Nat) (rc : Int32 → (Nat → Nat → Int32) → (Nat → Nat → Int64) → Option ((Unit) × zS)) (g : Nat → Nat → Int32) (L : Nat → Nat → Int64) : Option ((Unit) × zS) :=
  some ((), (g, L))
def fX6_readAnd_5_s7 (fu : Nat) (rc : Int32 → (Nat → Nat → Int32) → (Nat → Nat → Int64) → Option ((Unit) × zS)) (v1 : Int32) (k7 : Int32 × (Nat → Nat → Int32) × (Nat → Nat → Int64) → Option ((Unit) × zS)) (v2 : Int32) (g : Nat → Nat → Int32) (L : Nat → Nat → Int64) : Option ((Unit) × zS) :=
  if 700 ≤ (v2 : Int32) then fX6_readAnd_5_p50 fu rc g L
  else cb (fX6_isWord_5_and fu g L) (fun x6 g7 L8 =>
  if x6 = 0 then fX6_readAnd_5_p50 fu rc g7 L8
  else cb (fX6_advance_5 fu g7 L8) (fun x11 g12 L13 =>
  cb (fX6_readNot_5 fu rc v1 g12 L13) (fun x15 g16 L17 =>
  cb (fX8_add_4 fu (-13) g16 L17) (fun x19 g20 L21 =>
  k7 ((v2 + 1), g20, L21)))))
def fX6_readAnd_5_l7 (fu : Nat) (rc : Int32 → (Nat → Nat → Int32) → (Nat → Nat → Int64) → Option ((Unit) × zS)) (v1 : Int32) (v2 : Int32) (g : Nat → Nat → Int32) (L : Nat → Nat → Int64) : Option ((Unit) × zS) :=
  whileK (fun k v => fX6_readAnd_5_s7 fu rc v1 k v.1 v.2.1 v.2.2) fu (v2, g, L)
def fX6_readAnd_5 (fu : Nat) (rc : Int32 → (Nat → Nat → Int32) → (Nat → Nat → Int64) → Option ((Unit) × zS)) (p1 : Int32) (g : Nat → Nat → Int32) (L : Nat → Nat → Int64) : Option ((Unit) × zS) :=
  cb (fX6_readNot_5 fu rc p1 g L) (fun x1 g2 L3 =>
  fX6_readAnd_5_l7 fu rc p1 0 g2 L3)
def fX6_readExpr_5_p85 (fu : Nat) (rc : Int32 → (Nat → Nat → Int32) → (Nat → Nat → Int64) → Option ((Unit) × zS)) (g : Nat → Nat → Int32) (L : Nat → Nat → Int64) : Option ((Unit) × zS) :=
  some ((), (g, L))
def fX6_readExpr_5_s42 (fu : Nat) (rc : Int32 → (Nat → Nat → Int32) → (Nat → Nat → Int64) → Option ((Unit) × zS)) (v1 : Int32) (k42 : Int32 × (Nat → Nat → Int32) × (Nat → Nat → Int64) → Option ((Unit) × zS)) (v2 : Int32) (g : Nat → Nat → Int32) (L : Nat → Nat → Int64) : Option ((Unit) × zS) :=
  if 700 ≤ (v2 : Int32) then fX6_readExpr_5_p85 fu rc g L
  else cb (fX6_isWord_5_or fu g L) (fun x6 g7 L8 =>
  if x6 = 0 then fX6_readExpr_5_p85 fu rc g7 L8
  else cb (fX6_advance_5 fu g7 L8) (fun x11 g12 L13 =>
  cb (fX6_readAnd_5 fu rc v1 g12 L13) (fun x15 g16 L17 =>
  cb (fX8_add_4 fu (-14) g16 L17) (fun x19 g20 L21 =>
  k42 ((v2 + 1), g20, L21)))))
def fX6_readExpr_5_l42 (fu : Nat) (rc : Int32 → (Nat → Nat → Int32) → (Nat → Nat → Int64) → Option ((Unit) × zS)) (v1 : Int32) (v2 : Int32) (g : Nat → Nat → Int32) (L : Nat → Nat → Int64) : Option ((Unit) × zS) :=
  whileK (fun k v => fX6_readExpr_5_s42 fu rc v1 k v.1 v.2.1 v.2.2) fu (v2, g, L)
def fX6_readExpr_5_p35 (fu : Nat) (rc : Int32 → (Nat → Nat → Int32) → (Nat → Nat → Int64) → Option ((Unit) × zS)) (v1 : Int32) (g : Nat → Nat → Int32) (L : Nat → Nat → Int64) : Option ((Unit) × zS) :=
  cb (fX6_readAnd_5 fu rc v1 g L) (fun x1 g2 L3 =>
  fX6_readExpr_5_l42 fu rc v1 0 g2 L3)
def fX6_readExpr_5_p30 (fu : Nat) (rc : Int32 → (Nat → Nat → Int32) → (Nat → Nat → Int64) → Option ((Unit) × zS)) (v1 : Int32) (g : Nat → Nat → Int32) (L : Nat → Nat → Int64) : Option ((Unit) × zS) :=
  cb (fX6_refuse_5 fu 2 g L) (fun x24 g25 L26 =>
  fX6_readExpr_5_p35 fu rc v1 g25 L26)
def fX6_readExpr_5B (fu : Nat) (rc : Int32 → (Nat → Nat → Int32) → (Nat → Nat → Int64) → Option ((Unit) × zS)) (p1 : Int32) (g : Nat → Nat → Int32) (L : Nat → Nat → Int64) : Option ((Unit) × zS) :=
  if (p1 : Int32) ≤ 5 then fX6_readExpr_5_p35 fu rc p1 g L
  else if (g 5 4) = 1 then fX6_readExpr_5_p30 fu rc p1 g L
  else if (g 5 4) = 2 then fX6_readExpr_5_p30 fu rc p1 g L
  else cb (fX6_isSignNow_5 fu 40 g L) (fun x30 g31 L32 =>
  if x30 = 0 then fX6_readExpr_5_p35 fu rc p1 g31 L32
  else fX6_readExpr_5_p30 fu rc p1 g31 L32)
def fX6_readExpr_5 (fu : Nat) : Nat → Int32 → (Nat → Nat → Int32) → (Nat → Nat → Int64) → Option ((Unit) × zS)
  | 0 => fun _ _ _ => none
  | n + 1 => fX6_readExpr_5B fu (fX6_readExpr_5 fu n)
theorem fX6_readExpr_5_succ (fu n : Nat) : fX6_readExpr_5 fu (n + 1) = fX6_readExpr_5B fu (fX6_readExpr_5 fu n) := rfl
theorem rX6_readExpr_5_L0 (l : Launch) (G : kG) (sz : Nat) (a : Nat → Nat) (fu : Nat) (g : Nat → Nat → Int32) (L : Nat → Nat → Int64) (p1 : Int32) (res : Unit) (s9 : zS) (h : fX6_readExpr_5 fu 0 p1 g L = some (res, s9)) : kM l yX6_readExpr cX6_readExpr 3 none { frames := 6, cells := 0, slots := 0, locals := 110 } G [.ref (a 5), .int p1] (zw G (XS 2) 105 a g L) sz (kQv G (S := Unit) (fun _ => True) (fun _ => zw G (XS 2) 105 a s9.1 s9.2)) := nomatch h
set_option maxHeartbeats 4000000 in
set_option maxRecDepth 100000 in
theorem rX6_readPart_5_L1 (l : Launch) (G : kG) (sz : Nat) (a : Nat → Nat) (fu : Nat) (g : Nat → Nat → Int32) (L : Nat → Nat → Int64) (p1 : Int32) (res : Unit) (s9 : zS) (h : fX6_readPart_5 fu (fX6_readExpr_5 fu 0) p1 g L = some (res, s9)) : kM l yX6_readPart cX6_readPart 3 none { frames := 12, cells := 0, slots := 0, locals := 237 } G [.ref (a 5), .int p1] (zw G (XS 2) 105 a g L) sz (kQv G (S := Unit) (fun _ => True) (fun _ => zw G (XS 2) 105 a s9.1 s9.2)) := by
  refine kM.of (by decide) (Nat.le_of_ble_eq_true rfl) ?_
  intro p e s m below meth c A ls H C hr hlk hnm hP hD hS hl
  have C : kC G p s m c cX6_readPart 3 RX6 A := C
  have hx := C.1
  have hb := C.2.1
  have hl : lv_has ls 3 [(0, .ref (a 5)), (1, .int p1)] := hl
  obtain ⟨locs, hlocs⟩ : ∃ q : List Loc, q = [] := ⟨_, rfl⟩
  rw [← hlocs] at hS
  rw [← hlocs]
  unfold fX6_readPart_5 at h
  refine lv_aload_n hx hb dX6_readPart_0 rfl (lv_at hl 0 rfl) ?_
  refine x_getv (v := .int (g 5 4)) (Or.inl fl_X6_50) C hP (by decide) xs_5 rfl dX6_readPart_1 ?_
  refine lv_iconst (v := 1) hx hb dX6_readPart_4 (by decide) ?_
  have J111 : ∀ (g : Nat → Nat → Int32) (L : Nat → Nat → Int64) (H : Heap) (locs : List Loc) (ls : Array Slot), fX6_readPart_5_p111 fu (fX6_readExpr_5 fu 0) g L = some (res, s9) → va_P G.1 vwCl (zw G (XS 2) 105 a g L) H → va_D A (zw G (XS 2) 105 a g L) → va_S A s.heap H locs → lv_has ls 3 [] → W p l e { frames := 12, cells := 0, slots := 0, locals := 237 } s m [.ref (a 5), .int p1].toArray below meth c H locs 0 0 (MQ below ((kQv G (S := Unit) (fun _ => True) (fun _ => zw G (XS 2) 105 a s9.1 s9.2)) A) [.ref (a 5), .int p1].toArray s 0 0 A) (F0 m 111 ls []) := by
    intro g L H locs ls h hP hD hS hl
    unfold fX6_readPart_5_p111 at h
    exact y_vret C hr hlk hP hD hS h (Nat.le_of_ble_eq_true rfl) (Nat.le_of_ble_eq_true rfl) dX6_readPart_111
  refine lv_icmp_ne (x := (g 5 4)) (y := 1) (tgt := 29) hx hb dX6_readPart_5 (by decide) (fun c1 => ?_) (fun c1 => ?_)
  ·
    have h := ite_e c1 h
    refine lv_aload_n hx hb dX6_readPart_29 rfl (lv_at hl 0 rfl) ?_
    refine x_getv (v := .int (g 5 4)) (Or.inl fl_X6_50) C hP (by decide) xs_5 rfl dX6_readPart_30 ?_
    refine lv_iconst (v := 2) hx hb dX6_readPart_33 (by decide) ?_
    refine lv_icmp_ne (x := (g 5 4)) (y := 2) (tgt := 72) hx hb dX6_readPart_34 (by decide) (fun c2 => ?_) (fun c2 => ?_)
    ·
      have h := ite_e c2 h
      refine lv_aload_n hx hb dX6_readPart_72 rfl (lv_at hl 0 rfl) ?_
      refine lv_bipush (v := 40) hx hb dX6_readPart_73 (by decide) ?_
      obtain ⟨z_, g4, L5, hf6, h⟩ := cb_some h
      refine x_callVi (rest := []) li_X6_86 C (rX6_isSignNow_5 l G H.size a fu g L 40 z_ (g4, L5) hf6) (kR rfl) hP hD hS 5 6 rfl (zat (by decide) xs_5) rfl hl.1 rfl (Nat.le_of_ble_eq_true rfl) dX6_readPart_75 (fun x3 u_ H locs e_ hP hD hS => ?_)
      have e_ : x3 = z_ := e_
      subst e_
      have hP : va_P G.1 vwCl (zw G (XS 2) 105 a g4 L5) H := hP
      have hD : va_D A (zw G (XS 2) 105 a g4 L5) := hD
      have J106 : ∀ (g : Nat → Nat → Int32) (L : Nat → Nat → Int64) (H : Heap) (locs : List Loc) (ls : Array Slot), fX6_readPart_5_p106 fu (fX6_readExpr_5 fu 0) g L = some (res, s9) → va_P G.1 vwCl (zw G (XS 2) 105 a g L) H → va_D A (zw G (XS 2) 105 a g L) → va_S A s.heap H locs → lv_has ls 3 [(0, .ref (a 5))] → W p l e { frames := 12, cells := 0, slots := 0, locals := 237 } s m [.ref (a 5), .int p1].toArray below meth c H locs 0 0 (MQ below ((kQv G (S := Unit) (fun _ => True) (fun _ => zw G (XS 2) 105 a s9.1 s9.2)) A) [.ref (a 5), .int p1].toArray s 0 0 A) (F0 m 106 ls []) := by
        intro g L H locs ls h hP hD hS hl
        unfold fX6_readPart_5_p106 at h
        refine lv_aload_n hx hb dX6_readPart_106 rfl (lv_at hl 0 rfl) ?_
        refine lv_iconst (v := 1) hx hb dX6_readPart_107 (by decide) ?_
        obtain ⟨z_, g8, L9, hf10, h⟩ := cb_some h
        refine x_callVv (rest := []) li_X6_78 C (rX6_refuse_5 l G H.size a fu g L 1 z_ (g8, L9) hf10) (kR rfl) hP hD hS 5 6 rfl (zat (by decide) xs_5) rfl hl.1 rfl (Nat.le_of_ble_eq_true rfl) dX6_readPart_108 (fun u_ H locs e_ hP hD hS => ?_)
        have hP : va_P G.1 vwCl (zw G (XS 2) 105 a g8 L9) H := hP
        have hD : va_D A (zw G (XS 2) 105 a g8 L9) := hD
        exact J111 g8 L9 H locs ls h hP hD hS (lv_sub hl [] rfl)
      refine lv_if_eq (x := x3) (tgt := 106) hx hb dX6_readPart_78 (by decide) (fun c11 => ?_) (fun c11 => ?_)
      ·
        have h := ite_t c11 h
        exact J106 g4 L5 H locs ls h hP hD hS (lv_sub hl [0] rfl)
      ·
        have h := ite_e c11 h
        refine lv_iload_n hx hb dX6_readPart_81 rfl (lv_at hl 1 rfl) ?_
        refine lv_iconst (v := 5) hx hb dX6_readPart_82 (by decide) ?_
        refine lv_icmp_gt (x := p1) (y := 5) (tgt := 106) hx hb dX6_readPart_83 (by decide) (fun c12 => ?_) (fun c12 => ?_)
        ·
          have h := ite_t c12 h
          exact J106 g4 L5 H locs ls h hP hD hS (lv_sub hl [0] rfl)
        ·
          have h := ite_e c12 h
          refine lv_aload_n hx hb dX6_readPart_86 rfl (lv_at hl 0 rfl) ?_
          obtain ⟨z_, g14, L15, hf16, h⟩ := cb_some h
          refine x_callVv (rest := []) li_X6_53 C (rX6_advance_5 l G H.size a fu g4 L5 z_ (g14, L15) hf16) (kR rfl) hP hD hS 5 6 rfl (zat (by decide) xs_5) rfl hl.1 rfl (Nat.le_of_ble_eq_true rfl) dX6_readPart_87 (fun u_ H locs e_ hP hD hS => ?_)
          have hP : va_P G.1 vwCl (zw G (XS 2) 105 a g14 L15) H := hP
          have hD : va_D A (zw G (XS 2) 105 a g14 L15) := hD
          refine lv_aload_n hx hb dX6_readPart_90 rfl (lv_at hl 0 rfl) ?_
          refine lv_iload_n hx hb dX6_readPart_91 rfl (lv_at hl 1 rfl) ?_
          refine lv_iconst (v := 1) hx hb dX6_readPart_92 (by decide) ?_
          refine lv_iadd hx hb dX6_readPart_93 ?_
          obtain ⟨z_, g18, L19, hf20, h⟩ := cb_some h
          refine x_callVv (rest := []) li_X6_134 C (rX6_readExpr_5_L0 l G H.size a fu g14 L15 (p1 + 1) z_ (g18, L19) hf20) (kR rfl) hP hD hS 5 6 rfl (zat (by decide) xs_5) rfl hl.1 rfl (Nat.le_of_ble_eq_true rfl) dX6_readPart_94 (fun u_ H locs e_ hP hD hS => ?_)
          have hP : va_P G.1 vwCl (zw G (XS 2) 105 a g18 L19) H := hP
          have hD : va_D A (zw G (XS 2) 105 a g18 L19) := hD
          refine lv_aload_n hx hb dX6_readPart_97 rfl (lv_at hl 0 rfl) ?_
          refine lv_bipush (v := 41) hx hb dX6_readPart_98 (by decide) ?_
          obtain ⟨z_, g22, L23, hf24, h⟩ := cb_some h
          refine x_callVv (rest := []) li_X6_114 C (rX6_readSign_5 l G H.size a fu g18 L19 41 z_ (g22, L23) hf24) (kR rfl) hP hD hS 5 6 rfl (zat (by decide) xs_5) rfl hl.1 rfl (Nat.le_of_ble_eq_true rfl) dX6_readPart_100 (fun u_ H locs e_ hP hD hS => ?_)
          have hP : va_P G.1 vwCl (zw G (XS 2) 105 a g22 L23) H := hP
          have hD : va_D A (zw G (XS 2) 105 a g22 L23) := hD
          refine lv_goto (tgt := 111) hx hb dX6_readPart_103 (by decide) ?_
          exact J111 g22 L23 H locs ls h hP hD hS (lv_sub hl [] rfl)
    ·
      have h := ite_t c2 h
      refine lv_aload_n hx hb dX6_readPart_37 rfl (lv_at hl 0 rfl) ?_
      obtain ⟨z_, g26, L27, hf28, h⟩ := cb_some h
      refine x_callVi (rest := []) li_X6_233 C (rX6_valueNow_5 l G H.size a fu g L z_ (g26, L27) hf28) (kR rfl) hP hD hS 5 6 rfl (zat (by decide) xs_5) rfl hl.1 rfl (Nat.le_of_ble_eq_true rfl) dX6_readPart_38 (fun x25 u_ H locs e_ hP hD hS => ?_)
      have e_ : x25 = z_ := e_
      subst e_
      have hP : va_P G.1 vwCl (zw G (XS 2) 105 a g26 L27) H := hP
      have hD : va_D A (zw G (XS 2) 105 a g26 L27) := hD
      refine lv_istore_n (lv' := [(2, .int x25), (0, .ref (a 5)), (1, .int p1)]) hx hb dX6_readPart_41 rfl hl (by decide) rfl (fun ls hl => ?_)
      refine lv_iload_n hx hb dX6_readPart_42 rfl (lv_at hl 0 rfl) ?_
      refine lv_iconst (v := -1) hx hb dX6_readPart_43 (by decide) ?_
      have J52 : ∀ (v2 : Int32) (g : Nat → Nat → Int32) (L : Nat → Nat → Int64) (H : Heap) (locs : List Loc) (ls : Array Slot), fX6_readPart_5_p52 fu (fX6_readExpr_5 fu 0) v2 g L = some (res, s9) → va_P G.1 vwCl (zw G (XS 2) 105 a g L) H → va_D A (zw G (XS 2) 105 a g L) → va_S A s.heap H locs → lv_has ls 3 [(0, .ref (a 5)), (2, .int v2)] → W p l e { frames := 12, cells := 0, slots := 0, locals := 237 } s m [.ref (a 5), .int p1].toArray below meth c H locs 0 0 (MQ below ((kQv G (S := Unit) (fun _ => True) (fun _ => zw G (XS 2) 105 a s9.1 s9.2)) A) [.ref (a 5), .int p1].toArray s 0 0 A) (F0 m 52 ls []) := by
        intro v2 g L H locs ls h hP hD hS hl
        unfold fX6_readPart_5_p52 at h
        refine lv_aload_n hx hb dX6_readPart_52 rfl (lv_at hl 0 rfl) ?_
        refine x_getr (Or.inl fl_X6_15) C hP (by decide) xs_5 rfl dX6_readPart_53 ?_
        refine x_getr (Or.inr fl_X6_125) C hP (by decide) xs_2 rfl dX6_readPart_56 ?_
        refine lv_iconst (v := -1) hx hb dX6_readPart_59 (by decide) ?_
        refine lv_iload_n hx hb dX6_readPart_60 rfl (lv_at hl 1 rfl) ?_
        refine lv_isub hx hb dX6_readPart_61 ?_
        obtain ⟨z_, g30, L31, hf32, h⟩ := cb_some h
        refine x_callNv (rest := []) li_X6_211 C (rX8_add_4 l G H.size 2 a fu g L ((-1) - v2) z_ (g30, L31) hf32) (kR rfl) hP hD hS 4 8 rfl (zat (by decide) xs_4) rfl hl.1 rfl (Nat.le_of_ble_eq_true rfl) dX6_readPart_62 (fun u_ H locs e_ hP hD hS => ?_)
        have hP : va_P G.1 vwCl (zw G (XS 2) 105 a g30 L31) H := hP
        have hD : va_D A (zw G (XS 2) 105 a g30 L31) := hD
        refine lv_aload_n hx hb dX6_readPart_65 rfl (lv_at hl 0 rfl) ?_
        obtain ⟨z_, g34, L35, hf36, h⟩ := cb_some h
        refine x_callVv (rest := []) li_X6_53 C (rX6_advance_5 l G H.size a fu g30 L31 z_ (g34, L35) hf36) (kR rfl) hP hD hS 5 6 rfl (zat (by decide) xs_5) rfl hl.1 rfl (Nat.le_of_ble_eq_true rfl) dX6_readPart_66 (fun u_ H locs e_ hP hD hS => ?_)
        have hP : va_P G.1 vwCl (zw G (XS 2) 105 a g34 L35) H := hP
        have hD : va_D A (zw G (XS 2) 105 a g34 L35) := hD
        refine lv_goto (tgt := 111) hx hb dX6_readPart_69 (by decide) ?_
        exact J111 g34 L35 H locs ls h hP hD hS (lv_sub hl [] rfl)
      refine lv_icmp_ne (x := x25) (y := (-1)) (tgt := 52) hx hb dX6_readPart_44 (by decide) (fun c37 => ?_) (fun c37 => ?_)
      ·
        have h := ite_e c37 h
        exact J52 x25 g26 L27 H locs ls h hP hD hS (lv_sub hl [1, 0] rfl)
      ·
        have h := ite_t c37 h
        refine lv_aload_n hx hb dX6_readPart_47 rfl (lv_at hl 1 rfl) ?_
        refine lv_iconst (v := 3) hx hb dX6_readPart_48 (by decide) ?_
        obtain ⟨z_, g39, L40, hf41, h⟩ := cb_some h
        refine x_callVv (rest := []) li_X6_78 C (rX6_refuse_5 l G H.size a fu g26 L27 3 z_ (g39, L40) hf41) (kR rfl) hP hD hS 5 6 rfl (zat (by decide) xs_5) rfl hl.1 rfl (Nat.le_of_ble_eq_true rfl) dX6_readPart_49 (fun u_ H locs e_ hP hD hS => ?_)
        have hP : va_P G.1 vwCl (zw G (XS 2) 105 a g39 L40) H := hP
        have hD : va_D A (zw G (XS 2) 105 a g39 L40) := hD
        exact J52 x25 g39 L40 H locs ls h hP hD hS (lv_sub hl [1, 0] rfl)
  ·
    have h := ite_t c1 h
    refine lv_aload_n hx hb dX6_readPart_8 rfl (lv_at hl 0 rfl) ?_
    refine x_getr (Or.inl fl_X6_15) C hP (by decide) xs_5 rfl dX6_readPart_9 ?_
    refine x_getr (Or.inr fl_X6_125) C hP (by decide) xs_2 rfl dX6_readPart_12 ?_
    refine lv_aload_n hx hb dX6_readPart_15 rfl (lv_at hl 0 rfl) ?_
    refine lv_iconst (v := 0) hx hb dX6_readPart_16 (by decide) ?_
    refine lv_sipush (v := 9999) hx hb dX6_readPart_17 (by decide) ?_
    obtain ⟨z_, g43, L44, hf45, h⟩ := cb_some h
    refine x_callVi (rest := [.ref (a 4)]) li_X6_118 C (rX6_readNumber_5 l G H.size a fu g L 0 9999 z_ (g43, L44) hf45) (kR rfl) hP hD hS 5 6 rfl (zat (by decide) xs_5) rfl hl.1 rfl (Nat.le_of_ble_eq_true rfl) dX6_readPart_20 (fun x42 u_ H locs e_ hP hD hS => ?_)
    have e_ : x42 = z_ := e_
    subst e_
    have hP : va_P G.1 vwCl (zw G (XS 2) 105 a g43 L44) H := hP
    have hD : va_D A (zw G (XS 2) 105 a g43 L44) := hD
    obtain ⟨z_, g47, L48, hf49, h⟩ := cb_some h
    refine x_callNv (rest := []) li_X6_211 C (rX8_add_4 l G H.size 2 a fu g43 L44 x42 z_ (g47, L48) hf49) (kR rfl) hP hD hS 4 8 rfl (zat (by decide) xs_4) rfl hl.1 rfl (Nat.le_of_ble_eq_true rfl) dX6_readPart_23 (fun u_ H locs e_ hP hD hS => ?_)
    have hP : va_P G.1 vwCl (zw G (XS 2) 105 a g47 L48) H := hP
    have hD : va_D A (zw G (XS 2) 105 a g47 L48) := hD
    refine lv_goto (tgt := 111) hx hb dX6_readPart_26 (by decide) ?_
    exact J111 g47 L48 H locs ls h hP hD hS (lv_sub hl [] rfl)
set_option maxHeartbeats 4000000 in
set_option maxRecDepth 100000 in
theorem rX6_readProduct_5_L1 (l : Launch) (G : kG) (sz : Nat) (a : Nat → Nat) (fu : Nat) (g : Nat → Nat → Int32) (L : Nat → Nat → Int64) (p1 : Int32) (res : Unit) (s9 : zS) (h : fX6_readProduct_5 fu (fX6_readExpr_5 fu 0) p1 g L = some (res, s9)) : kM l yX6_readProduct cX6_readProduct 4 none { frames := 13, cells := 0, slots := 0, locals := 259 } G [.ref (a 5), .int p1] (zw G (XS 2) 105 a g L) sz (kQv G (S := Unit) (fun _ => True) (fun _ => zw G (XS 2) 105 a s9.1 s9.2)) := by
  refine kM.of (by decide) (Nat.le_of_ble_eq_true rfl) ?_
  intro p e s m below meth c A ls H C hr hlk hnm hP hD hS hl
  have C : kC G p s m c cX6_readProduct 4 RX6 A := C
  have hx := C.1
  have hb := C.2.1
  have hl : lv_has ls 4 [(0, .ref (a 5)), (1, .int p1)] := hl
  obtain ⟨locs, hlocs⟩ : ∃ q : List Loc, q = [] := ⟨_, rfl⟩
  rw [← hlocs] at hS
  rw [← hlocs]
  unfold fX6_readProduct_5 at h
  refine lv_aload_n hx hb dX6_readProduct_0 rfl (lv_at hl 0 rfl) ?_
  refine lv_iload_n hx hb dX6_readProduct_1 rfl (lv_at hl 1 rfl) ?_
  obtain ⟨z_, g2, L3, hf4, h⟩ := cb_some h
  refine x_callVv (rest := []) li_X6_230 C (rX6_readPart_5_L1 l G H.size a fu g L p1 z_ (g2, L3) hf4) (kR rfl) hP hD hS 5 6 rfl (zat (by decide) xs_5) rfl hl.1 rfl (Nat.le_of_ble_eq_true rfl) dX6_readProduct_2 (fun u_ H locs e_ hP hD hS => ?_)
  have hP : va_P G.1 vwCl (zw G (XS 2) 105 a g2 L3) H := hP
  have hD : va_D A (zw G (XS 2) 105 a g2 L3) := hD
  refine lv_iconst (v := 0) hx hb dX6_readProduct_5 (by decide) ?_
  refine lv_istore_n (lv' := [(2, .int 0), (0, .ref (a 5)), (1, .int p1)]) hx hb dX6_readProduct_6 rfl hl (by decide) rfl (fun ls hl => ?_)
  have lp7 : ∀ (v1 : Int32), ∀ (n : Nat) (v : Int32 × (Nat → Nat → Int32) × (Nat → Nat → Int64)), whileK (fun k v => fX6_readProduct_5_s7 fu (fX6_readExpr_5 fu 0) v1 k v.1 v.2.1 v.2.2) n v = some (res, s9) → ∀ (H : Heap) (locs : List Loc) (ls : Array Slot), va_P G.1 vwCl (zw G (XS 2) 105 a (v.2.1) (v.2.2)) H → va_D A (zw G (XS 2) 105 a (v.2.1) (v.2.2)) → va_S A s.heap H locs → lv_has ls 4 [(0, .ref (a 5)), (1, .int v1), (2, .int (v.1))] → W p l e { frames := 13, cells := 0, slots := 0, locals := 259 } s m [.ref (a 5), .int p1].toArray below meth c H locs 0 0 (MQ below ((kQv G (S := Unit) (fun _ => True) (fun _ => zw G (XS 2) 105 a s9.1 s9.2)) A) [.ref (a 5), .int p1].toArray s 0 0 A) (F0 m 7 ls []) := by
    intro v1
    refine while_ind (fun k7 ih7 v h => ?_)
    obtain ⟨v2, g, L⟩ := v
    intro H locs ls hP hD hS hl
    have h : fX6_readProduct_5_s7 fu (fX6_readExpr_5 fu 0) v1 k7 v2 g L = some (res, s9) := h
    have hP : va_P G.1 vwCl (zw G (XS 2) 105 a g L) H := hP
    have hD : va_D A (zw G (XS 2) 105 a g L) := hD
    have hl : lv_has ls 4 [(0, .ref (a 5)), (1, .int v1), (2, .int v2)] := hl
    show W p l e { frames := 13, cells := 0, slots := 0, locals := 259 } s m [.ref (a 5), .int p1].toArray below meth c H locs 0 0 (MQ below ((kQv G (S := Unit) (fun _ => True) (fun _ => zw G (XS 2) 105 a s9.1 s9.2)) A) [.ref (a 5), .int p1].toArray s 0 0 A) (F0 m 7 ls [])
    unfold fX6_readProduct_5_s7 at h
    refine lv_iload_n hx hb dX6_readProduct_7 rfl (lv_at hl 2 rfl) ?_
    refine lv_sipush (v := 700) hx hb dX6_readProduct_8 (by decide) ?_
    have J75 : ∀ (g : Nat → Nat → Int32) (L : Nat → Nat → Int64) (H : Heap) (locs : List Loc) (ls : Array Slot), fX6_readProduct_5_p75 fu (fX6_readExpr_5 fu 0) g L = some (res, s9) → va_P G.1 vwCl (zw G (XS 2) 105 a g L) H → va_D A (zw G (XS 2) 105 a g L) → va_S A s.heap H locs → lv_has ls 4 [] → W p l e { frames := 13, cells := 0, slots := 0, locals := 259 } s m [.ref (a 5), .int p1].toArray below meth c H locs 0 0 (MQ below ((kQv G (S := Unit) (fun _ => True) (fun _ => zw G (XS 2) 105 a s9.1 s9.2)) A) [.ref (a 5), .int p1].toArray s 0 0 A) (F0 m 75 ls []) := by
      intro g L H locs ls h hP hD hS hl
      unfold fX6_readProduct_5_p75 at h
      exact y_vret C hr hlk hP hD hS h (Nat.le_of_ble_eq_true rfl) (Nat.le_of_ble_eq_true rfl) dX6_readProduct_75
    refine lv_icmp_ge (x := v2) (y := 700) (tgt := 75) hx hb dX6_readProduct_11 (by decide) (fun c5 => ?_) (fun c5 => ?_)
    ·
      have h := ite_t c5 h
      exact J75 g L H locs ls h hP hD hS (lv_sub hl [] rfl)
    ·
      have h := ite_e c5 h
      refine lv_aload_n hx hb dX6_readProduct_14 rfl (lv_at hl 0 rfl) ?_
      refine lv_bipush (v := 42) hx hb dX6_readProduct_15 (by decide) ?_
      obtain ⟨z_, g7, L8, hf9, h⟩ := cb_some h
      refine x_callVi (rest := []) li_X6_86 C (rX6_isSignNow_5 l G H.size a fu g L 42 z_ (g7, L8) hf9) (kR rfl) hP hD hS 5 6 rfl (zat (by decide) xs_5) rfl hl.1 rfl (Nat.le_of_ble_eq_true rfl) dX6_readProduct_17 (fun x6 u_ H locs e_ hP hD hS => ?_)
      have e_ : x6 = z_ := e_
      subst e_
      have hP : va_P G.1 vwCl (zw G (XS 2) 105 a g7 L8) H := hP
      have hD : va_D A (zw G (XS 2) 105 a g7 L8) := hD
      have J32 : ∀ (v2 : Int32) (g : Nat → Nat → Int32) (L : Nat → Nat → Int64) (H : Heap) (locs : List Loc) (ls : Array Slot), fX6_readProduct_5_p32 fu (fX6_readExpr_5 fu 0) k7 v1 v2 g L = some (res, s9) → va_P G.1 vwCl (zw G (XS 2) 105 a g L) H → va_D A (zw G (XS 2) 105 a g L) → va_S A s.heap H locs → lv_has ls 4 [(0, .ref (a 5)), (1, .int v1), (2, .int v2)] → W p l e { frames := 13, cells := 0, slots := 0, locals := 259 } s m [.ref (a 5), .int p1].toArray below meth c H locs 0 0 (MQ below ((kQv G (S := Unit) (fun _ => True) (fun _ => zw G (XS 2) 105 a s9.1 s9.2)) A) [.ref (a 5), .int p1].toArray s 0 0 A) (F0 m 32 ls []) := by
        intro v2 g L H locs ls h hP hD hS hl
        unfold fX6_readProduct_5_p32 at h
        refine lv_aload_n hx hb dX6_readProduct_32 rfl (lv_at hl 0 rfl) ?_
        refine lv_bipush (v := 42) hx hb dX6_readProduct_33 (by decide) ?_
        obtain ⟨z_, g11, L12, hf13, h⟩ := cb_some h
        refine x_callVi (rest := []) li_X6_86 C (rX6_isSignNow_5 l G H.size a fu g L 42 z_ (g11, L12) hf13) (kR rfl) hP hD hS 5 6 rfl (zat (by decide) xs_5) rfl hl.1 rfl (Nat.le_of_ble_eq_true rfl) dX6_readProduct_35 (fun x10 u_ H locs e_ hP hD hS => ?_)
        have e_ : x10 = z_ := e_
        subst e_
        have hP : va_P G.1 vwCl (zw G (XS 2) 105 a g11 L12) H := hP
        have hD : va_D A (zw G (XS 2) 105 a g11 L12) := hD
        have J48 : ∀ (v2 : Int32) (t0 : Int32) (g : Nat → Nat → Int32) (L : Nat → Nat → Int64) (H : Heap) (locs : List Loc) (ls : Array Slot), fX6_readProduct_5_p48 fu (fX6_readExpr_5 fu 0) k7 v1 v2 t0 g L = some (res, s9) → va_P G.1 vwCl (zw G (XS 2) 105 a g L) H → va_D A (zw G (XS 2) 105 a g L) → va_S A s.heap H locs → lv_has ls 4 [(0, .ref (a 5)), (1, .int v1), (2, .int v2)] → W p l e { frames := 13, cells := 0, slots := 0, locals := 259 } s m [.ref (a 5), .int p1].toArray below meth c H locs 0 0 (MQ below ((kQv G (S := Unit) (fun _ => True) (fun _ => zw G (XS 2) 105 a s9.1 s9.2)) A) [.ref (a 5), .int p1].toArray s 0 0 A) (F0 m 48 ls [.int t0]) := by
          intro v2 t0 g L H locs ls h hP hD hS hl
          unfold fX6_readProduct_5_p48 at h
          refine lv_istore_n (lv' := [(3, .int t0), (0, .ref (a 5)), (1, .int v1), (2, .int v2)]) hx hb dX6_readProduct_48 rfl hl (by decide) rfl (fun ls hl => ?_)
          refine lv_aload_n hx hb dX6_readProduct_49 rfl (lv_at hl 1 rfl) ?_
          obtain ⟨z_, g15, L16, hf17, h⟩ := cb_some h
          refine x_callVv (rest := []) li_X6_53 C (rX6_advance_5 l G H.size a fu g L z_ (g15, L16) hf17) (kR rfl) hP hD hS 5 6 rfl (zat (by decide) xs_5) rfl hl.1 rfl (Nat.le_of_ble_eq_true rfl) dX6_readProduct_50 (fun u_ H locs e_ hP hD hS => ?_)
          have hP : va_P G.1 vwCl (zw G (XS 2) 105 a g15 L16) H := hP
          have hD : va_D A (zw G (XS 2) 105 a g15 L16) := hD
          refine lv_aload_n hx hb dX6_readProduct_53 rfl (lv_at hl 1 rfl) ?_
          refine lv_iload_n hx hb dX6_readProduct_54 rfl (lv_at hl 2 rfl) ?_
          obtain ⟨z_, g19, L20, hf21, h⟩ := cb_some h
          refine x_callVv (rest := []) li_X6_230 C (rX6_readPart_5_L1 l G H.size a fu g15 L16 v1 z_ (g19, L20) hf21) (kR rfl) hP hD hS 5 6 rfl (zat (by decide) xs_5) rfl hl.1 rfl (Nat.le_of_ble_eq_true rfl) dX6_readProduct_55 (fun u_ H locs e_ hP hD hS => ?_)
          have hP : va_P G.1 vwCl (zw G (XS 2) 105 a g19 L20) H := hP
          have hD : va_D A (zw G (XS 2) 105 a g19 L20) := hD
          refine lv_aload_n hx hb dX6_readProduct_58 rfl (lv_at hl 1 rfl) ?_
          refine x_getr (Or.inl fl_X6_15) C hP (by decide) xs_5 rfl dX6_readProduct_59 ?_
          refine x_getr (Or.inr fl_X6_125) C hP (by decide) xs_2 rfl dX6_readProduct_62 ?_
          refine lv_iload_n hx hb dX6_readProduct_65 rfl (lv_at hl 0 rfl) ?_
          obtain ⟨z_, g23, L24, hf25, h⟩ := cb_some h
          refine x_callNv (rest := []) li_X6_211 C (rX8_add_4 l G H.size 2 a fu g19 L20 t0 z_ (g23, L24) hf25) (kR rfl) hP hD hS 4 8 rfl (zat (by decide) xs_4) rfl hl.1 rfl (Nat.le_of_ble_eq_true rfl) dX6_readProduct_66 (fun u_ H locs e_ hP hD hS => ?_)
          have hP : va_P G.1 vwCl (zw G (XS 2) 105 a g23 L24) H := hP
          have hD : va_D A (zw G (XS 2) 105 a g23 L24) := hD
          refine lv_iinc (v := (v2 + 1)) (lv' := [(2, .int (v2 + 1)), (3, .int t0), (0, .ref (a 5)), (1, .int v1)]) hx hb dX6_readProduct_69 hl (k := 3) rfl rfl (by decide) rfl (fun ls hl => ?_)
          refine lv_goto (tgt := 7) hx hb dX6_readProduct_72 (by decide) ?_
          exact ih7 ((v2 + 1), g23, L24) h H locs ls hP hD hS (lv_sub hl [2, 3, 0] rfl)
        refine lv_if_eq (x := x10) (tgt := 46) hx hb dX6_readProduct_38 (by decide) (fun c26 => ?_) (fun c26 => ?_)
        ·
          have h := ite_t c26 h
          refine lv_bipush (v := -10) hx hb dX6_readProduct_46 (by decide) ?_
          exact J48 v2 (-10) g11 L12 H locs ls h hP hD hS (lv_sub hl [0, 1, 2] rfl)
        ·
          have h := ite_e c26 h
          refine lv_bipush (v := -9) hx hb dX6_readProduct_41 (by decide) ?_
          refine lv_goto (tgt := 48) hx hb dX6_readProduct_43 (by decide) ?_
          exact J48 v2 (-9) g11 L12 H locs ls h hP hD hS (lv_sub hl [0, 1, 2] rfl)
      refine lv_if_ne (x := x6) (tgt := 32) hx hb dX6_readProduct_20 (by decide) (fun c27 => ?_) (fun c27 => ?_)
      ·
        have h := ite_e c27 h
        exact J32 v2 g7 L8 H locs ls h hP hD hS (lv_sub hl [0, 1, 2] rfl)
      ·
        have h := ite_t c27 h
        refine lv_aload_n hx hb dX6_readProduct_23 rfl (lv_at hl 0 rfl) ?_
        refine lv_bipush (v := 47) hx hb dX6_readProduct_24 (by decide) ?_
        obtain ⟨z_, g29, L30, hf31, h⟩ := cb_some h
        refine x_callVi (rest := []) li_X6_86 C (rX6_isSignNow_5 l G H.size a fu g7 L8 47 z_ (g29, L30) hf31) (kR rfl) hP hD hS 5 6 rfl (zat (by decide) xs_5) rfl hl.1 rfl (Nat.le_of_ble_eq_true rfl) dX6_readProduct_26 (fun x28 u_ H locs e_ hP hD hS => ?_)
        have e_ : x28 = z_ := e_
        subst e_
        have hP : va_P G.1 vwCl (zw G (XS 2) 105 a g29 L30) H := hP
        have hD : va_D A (zw G (XS 2) 105 a g29 L30) := hD
        refine lv_if_eq (x := x28) (tgt := 75) hx hb dX6_readProduct_29 (by decide) (fun c32 => ?_) (fun c32 => ?_)
        ·
          have h := ite_t c32 h
          exact J75 g29 L30 H locs ls h hP hD hS (lv_sub hl [] rfl)
        ·
          have h := ite_e c32 h
          exact J32 v2 g29 L30 H locs ls h hP hD hS (lv_sub hl [0, 1, 2] rfl)
  exact lp7 p1 fu (0, g2, L3) h H locs ls hP hD hS (lv_sub hl [1, 2, 0] rfl)
set_option maxHeartbeats 4000000 in
set_option maxRecDepth 100000 in
theorem rX6_readSum_5_L1 (l : Launch) (G : kG) (sz : Nat) (a : Nat → Nat) (fu : Nat) (g : Nat → Nat → Int32) (L : Nat → Nat → Int64) (p1 : Int32) (res : Unit) (s9 : zS) (h : fX6_readSum_5 fu (fX6_readExpr_5 fu 0) p1 g L = some (res, s9)) : kM l yX6_readSum cX6_readSum 4 none { frames := 14, cells := 0, slots := 0, locals := 282 } G [.ref (a 5), .int p1] (zw G (XS 2) 105 a g L) sz (kQv G (S := Unit) (fun _ => True) (fun _ => zw G (XS 2) 105 a s9.1 s9.2)) := by
  refine kM.of (by decide) (Nat.le_of_ble_eq_true rfl) ?_
  intro p e s m below meth c A ls H C hr hlk hnm hP hD hS hl
  have C : kC G p s m c cX6_readSum 4 RX6 A := C
  have hx := C.1
  have hb := C.2.1
  have hl : lv_has ls 4 [(0, .ref (a 5)), (1, .int p1)] := hl
  obtain ⟨locs, hlocs⟩ : ∃ q : List Loc, q = [] := ⟨_, rfl⟩
  rw [← hlocs] at hS
  rw [← hlocs]
  unfold fX6_readSum_5 at h
  refine lv_aload_n hx hb dX6_readSum_0 rfl (lv_at hl 0 rfl) ?_
  refine lv_iload_n hx hb dX6_readSum_1 rfl (lv_at hl 1 rfl) ?_
  obtain ⟨z_, g2, L3, hf4, h⟩ := cb_some h
  refine x_callVv (rest := []) li_X6_227 C (rX6_readProduct_5_L1 l G H.size a fu g L p1 z_ (g2, L3) hf4) (kR rfl) hP hD hS 5 6 rfl (zat (by decide) xs_5) rfl hl.1 rfl (Nat.le_of_ble_eq_true rfl) dX6_readSum_2 (fun u_ H locs e_ hP hD hS => ?_)
  have hP : va_P G.1 vwCl (zw G (XS 2) 105 a g2 L3) H := hP
  have hD : va_D A (zw G (XS 2) 105 a g2 L3) := hD
  refine lv_iconst (v := 0) hx hb dX6_readSum_5 (by decide) ?_
  refine lv_istore_n (lv' := [(2, .int 0), (0, .ref (a 5)), (1, .int p1)]) hx hb dX6_readSum_6 rfl hl (by decide) rfl (fun ls hl => ?_)
  have lp7 : ∀ (v1 : Int32), ∀ (n : Nat) (v : Int32 × (Nat → Nat → Int32) × (Nat → Nat → Int64)), whileK (fun k v => fX6_readSum_5_s7 fu (fX6_readExpr_5 fu 0) v1 k v.1 v.2.1 v.2.2) n v = some (res, s9) → ∀ (H : Heap) (locs : List Loc) (ls : Array Slot), va_P G.1 vwCl (zw G (XS 2) 105 a (v.2.1) (v.2.2)) H → va_D A (zw G (XS 2) 105 a (v.2.1) (v.2.2)) → va_S A s.heap H locs → lv_has ls 4 [(0, .ref (a 5)), (1, .int v1), (2, .int (v.1))] → W p l e { frames := 14, cells := 0, slots := 0, locals := 282 } s m [.ref (a 5), .int p1].toArray below meth c H locs 0 0 (MQ below ((kQv G (S := Unit) (fun _ => True) (fun _ => zw G (XS 2) 105 a s9.1 s9.2)) A) [.ref (a 5), .int p1].toArray s 0 0 A) (F0 m 7 ls []) := by
    intro v1
    refine while_ind (fun k7 ih7 v h => ?_)
    obtain ⟨v2, g, L⟩ := v
    intro H locs ls hP hD hS hl
    have h : fX6_readSum_5_s7 fu (fX6_readExpr_5 fu 0) v1 k7 v2 g L = some (res, s9) := h
    have hP : va_P G.1 vwCl (zw G (XS 2) 105 a g L) H := hP
    have hD : va_D A (zw G (XS 2) 105 a g L) := hD
    have hl : lv_has ls 4 [(0, .ref (a 5)), (1, .int v1), (2, .int v2)] := hl
    show W p l e { frames := 14, cells := 0, slots := 0, locals := 282 } s m [.ref (a 5), .int p1].toArray below meth c H locs 0 0 (MQ below ((kQv G (S := Unit) (fun _ => True) (fun _ => zw G (XS 2) 105 a s9.1 s9.2)) A) [.ref (a 5), .int p1].toArray s 0 0 A) (F0 m 7 ls [])
    unfold fX6_readSum_5_s7 at h
    refine lv_iload_n hx hb dX6_readSum_7 rfl (lv_at hl 2 rfl) ?_
    refine lv_sipush (v := 700) hx hb dX6_readSum_8 (by decide) ?_
    have J75 : ∀ (g : Nat → Nat → Int32) (L : Nat → Nat → Int64) (H : Heap) (locs : List Loc) (ls : Array Slot), fX6_readSum_5_p75 fu (fX6_readExpr_5 fu 0) g L = some (res, s9) → va_P G.1 vwCl (zw G (XS 2) 105 a g L) H → va_D A (zw G (XS 2) 105 a g L) → va_S A s.heap H locs → lv_has ls 4 [] → W p l e { frames := 14, cells := 0, slots := 0, locals := 282 } s m [.ref (a 5), .int p1].toArray below meth c H locs 0 0 (MQ below ((kQv G (S := Unit) (fun _ => True) (fun _ => zw G (XS 2) 105 a s9.1 s9.2)) A) [.ref (a 5), .int p1].toArray s 0 0 A) (F0 m 75 ls []) := by
      intro g L H locs ls h hP hD hS hl
      unfold fX6_readSum_5_p75 at h
      exact y_vret C hr hlk hP hD hS h (Nat.le_of_ble_eq_true rfl) (Nat.le_of_ble_eq_true rfl) dX6_readSum_75
    refine lv_icmp_ge (x := v2) (y := 700) (tgt := 75) hx hb dX6_readSum_11 (by decide) (fun c5 => ?_) (fun c5 => ?_)
    ·
      have h := ite_t c5 h
      exact J75 g L H locs ls h hP hD hS (lv_sub hl [] rfl)
    ·
      have h := ite_e c5 h
      refine lv_aload_n hx hb dX6_readSum_14 rfl (lv_at hl 0 rfl) ?_
      refine lv_bipush (v := 43) hx hb dX6_readSum_15 (by decide) ?_
      obtain ⟨z_, g7, L8, hf9, h⟩ := cb_some h
      refine x_callVi (rest := []) li_X6_86 C (rX6_isSignNow_5 l G H.size a fu g L 43 z_ (g7, L8) hf9) (kR rfl) hP hD hS 5 6 rfl (zat (by decide) xs_5) rfl hl.1 rfl (Nat.le_of_ble_eq_true rfl) dX6_readSum_17 (fun x6 u_ H locs e_ hP hD hS => ?_)
      have e_ : x6 = z_ := e_
      subst e_
      have hP : va_P G.1 vwCl (zw G (XS 2) 105 a g7 L8) H := hP
      have hD : va_D A (zw G (XS 2) 105 a g7 L8) := hD
      have J32 : ∀ (v2 : Int32) (g : Nat → Nat → Int32) (L : Nat → Nat → Int64) (H : Heap) (locs : List Loc) (ls : Array Slot), fX6_readSum_5_p32 fu (fX6_readExpr_5 fu 0) k7 v1 v2 g L = some (res, s9) → va_P G.1 vwCl (zw G (XS 2) 105 a g L) H → va_D A (zw G (XS 2) 105 a g L) → va_S A s.heap H locs → lv_has ls 4 [(0, .ref (a 5)), (1, .int v1), (2, .int v2)] → W p l e { frames := 14, cells := 0, slots := 0, locals := 282 } s m [.ref (a 5), .int p1].toArray below meth c H locs 0 0 (MQ below ((kQv G (S := Unit) (fun _ => True) (fun _ => zw G (XS 2) 105 a s9.1 s9.2)) A) [.ref (a 5), .int p1].toArray s 0 0 A) (F0 m 32 ls []) := by
        intro v2 g L H locs ls h hP hD hS hl
        unfold fX6_readSum_5_p32 at h
        refine lv_aload_n hx hb dX6_readSum_32 rfl (lv_at hl 0 rfl) ?_
        refine lv_bipush (v := 43) hx hb dX6_readSum_33 (by decide) ?_
        obtain ⟨z_, g11, L12, hf13, h⟩ := cb_some h
        refine x_callVi (rest := []) li_X6_86 C (rX6_isSignNow_5 l G H.size a fu g L 43 z_ (g11, L12) hf13) (kR rfl) hP hD hS 5 6 rfl (zat (by decide) xs_5) rfl hl.1 rfl (Nat.le_of_ble_eq_true rfl) dX6_readSum_35 (fun x10 u_ H locs e_ hP hD hS => ?_)
        have e_ : x10 = z_ := e_
        subst e_
        have hP : va_P G.1 vwCl (zw G (XS 2) 105 a g11 L12) H := hP
        have hD : va_D A (zw G (XS 2) 105 a g11 L12) := hD
        have J48 : ∀ (v2 : Int32) (t0 : Int32) (g : Nat → Nat → Int32) (L : Nat → Nat → Int64) (H : Heap) (locs : List Loc) (ls : Array Slot), fX6_readSum_5_p48 fu (fX6_readExpr_5 fu 0) k7 v1 v2 t0 g L = some (res, s9) → va_P G.1 vwCl (zw G (XS 2) 105 a g L) H → va_D A (zw G (XS 2) 105 a g L) → va_S A s.heap H locs → lv_has ls 4 [(0, .ref (a 5)), (1, .int v1), (2, .int v2)] → W p l e { frames := 14, cells := 0, slots := 0, locals := 282 } s m [.ref (a 5), .int p1].toArray below meth c H locs 0 0 (MQ below ((kQv G (S := Unit) (fun _ => True) (fun _ => zw G (XS 2) 105 a s9.1 s9.2)) A) [.ref (a 5), .int p1].toArray s 0 0 A) (F0 m 48 ls [.int t0]) := by
          intro v2 t0 g L H locs ls h hP hD hS hl
          unfold fX6_readSum_5_p48 at h
          refine lv_istore_n (lv' := [(3, .int t0), (0, .ref (a 5)), (1, .int v1), (2, .int v2)]) hx hb dX6_readSum_48 rfl hl (by decide) rfl (fun ls hl => ?_)
          refine lv_aload_n hx hb dX6_readSum_49 rfl (lv_at hl 1 rfl) ?_
          obtain ⟨z_, g15, L16, hf17, h⟩ := cb_some h
          refine x_callVv (rest := []) li_X6_53 C (rX6_advance_5 l G H.size a fu g L z_ (g15, L16) hf17) (kR rfl) hP hD hS 5 6 rfl (zat (by decide) xs_5) rfl hl.1 rfl (Nat.le_of_ble_eq_true rfl) dX6_readSum_50 (fun u_ H locs e_ hP hD hS => ?_)
          have hP : va_P G.1 vwCl (zw G (XS 2) 105 a g15 L16) H := hP
          have hD : va_D A (zw G (XS 2) 105 a g15 L16) := hD
          refine lv_aload_n hx hb dX6_readSum_53 rfl (lv_at hl 1 rfl) ?_
          refine lv_iload_n hx hb dX6_readSum_54 rfl (lv_at hl 2 rfl) ?_
          obtain ⟨z_, g19, L20, hf21, h⟩ := cb_some h
          refine x_callVv (rest := []) li_X6_227 C (rX6_readProduct_5_L1 l G H.size a fu g15 L16 v1 z_ (g19, L20) hf21) (kR rfl) hP hD hS 5 6 rfl (zat (by decide) xs_5) rfl hl.1 rfl (Nat.le_of_ble_eq_true rfl) dX6_readSum_55 (fun u_ H locs e_ hP hD hS => ?_)
          have hP : va_P G.1 vwCl (zw G (XS 2) 105 a g19 L20) H := hP
          have hD : va_D A (zw G (XS 2) 105 a g19 L20) := hD
          refine lv_aload_n hx hb dX6_readSum_58 rfl (lv_at hl 1 rfl) ?_
          refine x_getr (Or.inl fl_X6_15) C hP (by decide) xs_5 rfl dX6_readSum_59 ?_
          refine x_getr (Or.inr fl_X6_125) C hP (by decide) xs_2 rfl dX6_readSum_62 ?_
          refine lv_iload_n hx hb dX6_readSum_65 rfl (lv_at hl 0 rfl) ?_
          obtain ⟨z_, g23, L24, hf25, h⟩ := cb_some h
          refine x_callNv (rest := []) li_X6_211 C (rX8_add_4 l G H.size 2 a fu g19 L20 t0 z_ (g23, L24) hf25) (kR rfl) hP hD hS 4 8 rfl (zat (by decide) xs_4) rfl hl.1 rfl (Nat.le_of_ble_eq_true rfl) dX6_readSum_66 (fun u_ H locs e_ hP hD hS => ?_)
          have hP : va_P G.1 vwCl (zw G (XS 2) 105 a g23 L24) H := hP
          have hD : va_D A (zw G (XS 2) 105 a g23 L24) := hD
          refine lv_iinc (v := (v2 + 1)) (lv' := [(2, .int (v2 + 1)), (3, .int t0), (0, .ref (a 5)), (1, .int v1)]) hx hb dX6_readSum_69 hl (k := 3) rfl rfl (by decide) rfl (fun ls hl => ?_)
          refine lv_goto (tgt := 7) hx hb dX6_readSum_72 (by decide) ?_
          exact ih7 ((v2 + 1), g23, L24) h H locs ls hP hD hS (lv_sub hl [2, 3, 0] rfl)
        refine lv_if_eq (x := x10) (tgt := 46) hx hb dX6_readSum_38 (by decide) (fun c26 => ?_) (fun c26 => ?_)
        ·
          have h := ite_t c26 h
          refine lv_bipush (v := -8) hx hb dX6_readSum_46 (by decide) ?_
          exact J48 v2 (-8) g11 L12 H locs ls h hP hD hS (lv_sub hl [0, 1, 2] rfl)
        ·
          have h := ite_e c26 h
          refine lv_bipush (v := -7) hx hb dX6_readSum_41 (by decide) ?_
          refine lv_goto (tgt := 48) hx hb dX6_readSum_43 (by decide) ?_
          exact J48 v2 (-7) g11 L12 H locs ls h hP hD hS (lv_sub hl [0, 1, 2] rfl)
      refine lv_if_ne (x := x6) (tgt := 32) hx hb dX6_readSum_20 (by decide) (fun c27 => ?_) (fun c27 => ?_)
      ·
        have h := ite_e c27 h
        exact J32 v2 g7 L8 H locs ls h hP hD hS (lv_sub hl [0, 1, 2] rfl)
      ·
        have h := ite_t c27 h
        refine lv_aload_n hx hb dX6_readSum_23 rfl (lv_at hl 0 rfl) ?_
        refine lv_bipush (v := 45) hx hb dX6_readSum_24 (by decide) ?_
        obtain ⟨z_, g29, L30, hf31, h⟩ := cb_some h
        refine x_callVi (rest := []) li_X6_86 C (rX6_isSignNow_5 l G H.size a fu g7 L8 45 z_ (g29, L30) hf31) (kR rfl) hP hD hS 5 6 rfl (zat (by decide) xs_5) rfl hl.1 rfl (Nat.le_of_ble_eq_true rfl) dX6_readSum_26 (fun x28 u_ H locs e_ hP hD hS => ?_)
        have e_ : x28 = z_ := e_
        subst e_
        have hP : va_P G.1 vwCl (zw G (XS 2) 105 a g29 L30) H := hP
        have hD : va_D A (zw G (XS 2) 105 a g29 L30) := hD
        refine lv_if_eq (x := x28) (tgt := 75) hx hb dX6_readSum_29 (by decide) (fun c32 => ?_) (fun c32 => ?_)
        ·
          have h := ite_t c32 h
          exact J75 g29 L30 H locs ls h hP hD hS (lv_sub hl [] rfl)
        ·
          have h := ite_e c32 h
          exact J32 v2 g29 L30 H locs ls h hP hD hS (lv_sub hl [0, 1, 2] rfl)
  exact lp7 p1 fu (0, g2, L3) h H locs ls hP hD hS (lv_sub hl [1, 2, 0] rfl)
set_option maxHeartbeats 4000000 in
set_option maxRecDepth 100000 in
theorem rX6_readTest_5_L1 (l : Launch) (G : kG) (sz : Nat) (a : Nat → Nat) (fu : Nat) (g : Nat → Nat → Int32) (L : Nat → Nat → Int64) (p1 : Int32) (res : Unit) (s9 : zS) (h : fX6_readTest_5 fu (fX6_readExpr_5 fu 0) p1 g L = some (res, s9)) : kM l yX6_readTest cX6_readTest 2 none { frames := 15, cells := 0, slots := 0, locals := 305 } G [.ref (a 5), .int p1] (zw G (XS 2) 105 a g L) sz (kQv G (S := Unit) (fun _ => True) (fun _ => zw G (XS 2) 105 a s9.1 s9.2)) := by
  refine kM.of (by decide) (Nat.le_of_ble_eq_true rfl) ?_
  intro p e s m below meth c A ls H C hr hlk hnm hP hD hS hl
  have C : kC G p s m c cX6_readTest 2 RX6 A := C
  have hx := C.1
  have hb := C.2.1
  have hl : lv_has ls 2 [(0, .ref (a 5)), (1, .int p1)] := hl
  obtain ⟨locs, hlocs⟩ : ∃ q : List Loc, q = [] := ⟨_, rfl⟩
  rw [← hlocs] at hS
  rw [← hlocs]
  unfold fX6_readTest_5 at h
  refine lv_aload_n hx hb dX6_readTest_0 rfl (lv_at hl 0 rfl) ?_
  refine lv_iload_n hx hb dX6_readTest_1 rfl (lv_at hl 1 rfl) ?_
  obtain ⟨z_, g2, L3, hf4, h⟩ := cb_some h
  refine x_callVv (rest := []) li_X6_224 C (rX6_readSum_5_L1 l G H.size a fu g L p1 z_ (g2, L3) hf4) (kR rfl) hP hD hS 5 6 rfl (zat (by decide) xs_5) rfl hl.1 rfl (Nat.le_of_ble_eq_true rfl) dX6_readTest_2 (fun u_ H locs e_ hP hD hS => ?_)
  have hP : va_P G.1 vwCl (zw G (XS 2) 105 a g2 L3) H := hP
  have hD : va_D A (zw G (XS 2) 105 a g2 L3) := hD
  refine lv_aload_n hx hb dX6_readTest_5 rfl (lv_at hl 0 rfl) ?_
  refine lv_bipush (v := 60) hx hb dX6_readTest_6 (by decide) ?_
  obtain ⟨z_, g6, L7, hf8, h⟩ := cb_some h
  refine x_callVi (rest := []) li_X6_86 C (rX6_isSignNow_5 l G H.size a fu g2 L3 60 z_ (g6, L7) hf8) (kR rfl) hP hD hS 5 6 rfl (zat (by decide) xs_5) rfl hl.1 rfl (Nat.le_of_ble_eq_true rfl) dX6_readTest_8 (fun x5 u_ H locs e_ hP hD hS => ?_)
  have e_ : x5 = z_ := e_
  subst e_
  have hP : va_P G.1 vwCl (zw G (XS 2) 105 a g6 L7) H := hP
  have hD : va_D A (zw G (XS 2) 105 a g6 L7) := hD
  have J68 : ∀ (g : Nat → Nat → Int32) (L : Nat → Nat → Int64) (H : Heap) (locs : List Loc) (ls : Array Slot), fX6_readTest_5_p68 fu (fX6_readExpr_5 fu 0) g L = some (res, s9) → va_P G.1 vwCl (zw G (XS 2) 105 a g L) H → va_D A (zw G (XS 2) 105 a g L) → va_S A s.heap H locs → lv_has ls 2 [] → W p l e { frames := 15, cells := 0, slots := 0, locals := 305 } s m [.ref (a 5), .int p1].toArray below meth c H locs 0 0 (MQ below ((kQv G (S := Unit) (fun _ => True) (fun _ => zw G (XS 2) 105 a s9.1 s9.2)) A) [.ref (a 5), .int p1].toArray s 0 0 A) (F0 m 68 ls []) := by
    intro g L H locs ls h hP hD hS hl
    unfold fX6_readTest_5_p68 at h
    exact y_vret C hr hlk hP hD hS h (Nat.le_of_ble_eq_true rfl) (Nat.le_of_ble_eq_true rfl) dX6_readTest_68
  refine lv_if_eq (x := x5) (tgt := 38) hx hb dX6_readTest_11 (by decide) (fun c9 => ?_) (fun c9 => ?_)
  ·
    have h := ite_t c9 h
    refine lv_aload_n hx hb dX6_readTest_38 rfl (lv_at hl 0 rfl) ?_
    refine lv_bipush (v := 61) hx hb dX6_readTest_39 (by decide) ?_
    obtain ⟨z_, g11, L12, hf13, h⟩ := cb_some h
    refine x_callVi (rest := []) li_X6_86 C (rX6_isSignNow_5 l G H.size a fu g6 L7 61 z_ (g11, L12) hf13) (kR rfl) hP hD hS 5 6 rfl (zat (by decide) xs_5) rfl hl.1 rfl (Nat.le_of_ble_eq_true rfl) dX6_readTest_41 (fun x10 u_ H locs e_ hP hD hS => ?_)
    have e_ : x10 = z_ := e_
    subst e_
    have hP : va_P G.1 vwCl (zw G (XS 2) 105 a g11 L12) H := hP
    have hD : va_D A (zw G (XS 2) 105 a g11 L12) := hD
    refine lv_if_eq (x := x10) (tgt := 68) hx hb dX6_readTest_44 (by decide) (fun c14 => ?_) (fun c14 => ?_)
    ·
      have h := ite_t c14 h
      exact J68 g11 L12 H locs ls h hP hD hS (lv_sub hl [] rfl)
    ·
      have h := ite_e c14 h
      refine lv_aload_n hx hb dX6_readTest_47 rfl (lv_at hl 0 rfl) ?_
      obtain ⟨z_, g16, L17, hf18, h⟩ := cb_some h
      refine x_callVv (rest := []) li_X6_53 C (rX6_advance_5 l G H.size a fu g11 L12 z_ (g16, L17) hf18) (kR rfl) hP hD hS 5 6 rfl (zat (by decide) xs_5) rfl hl.1 rfl (Nat.le_of_ble_eq_true rfl) dX6_readTest_48 (fun u_ H locs e_ hP hD hS => ?_)
      have hP : va_P G.1 vwCl (zw G (XS 2) 105 a g16 L17) H := hP
      have hD : va_D A (zw G (XS 2) 105 a g16 L17) := hD
      refine lv_aload_n hx hb dX6_readTest_51 rfl (lv_at hl 0 rfl) ?_
      refine lv_iload_n hx hb dX6_readTest_52 rfl (lv_at hl 1 rfl) ?_
      obtain ⟨z_, g20, L21, hf22, h⟩ := cb_some h
      refine x_callVv (rest := []) li_X6_224 C (rX6_readSum_5_L1 l G H.size a fu g16 L17 p1 z_ (g20, L21) hf22) (kR rfl) hP hD hS 5 6 rfl (zat (by decide) xs_5) rfl hl.1 rfl (Nat.le_of_ble_eq_true rfl) dX6_readTest_53 (fun u_ H locs e_ hP hD hS => ?_)
      have hP : va_P G.1 vwCl (zw G (XS 2) 105 a g20 L21) H := hP
      have hD : va_D A (zw G (XS 2) 105 a g20 L21) := hD
      refine lv_aload_n hx hb dX6_readTest_56 rfl (lv_at hl 0 rfl) ?_
      refine x_getr (Or.inl fl_X6_15) C hP (by decide) xs_5 rfl dX6_readTest_57 ?_
      refine x_getr (Or.inr fl_X6_125) C hP (by decide) xs_2 rfl dX6_readTest_60 ?_
      refine lv_bipush (v := -12) hx hb dX6_readTest_63 (by decide) ?_
      obtain ⟨z_, g24, L25, hf26, h⟩ := cb_some h
      refine x_callNv (rest := []) li_X6_211 C (rX8_add_4 l G H.size 2 a fu g20 L21 (-12) z_ (g24, L25) hf26) (kR rfl) hP hD hS 4 8 rfl (zat (by decide) xs_4) rfl hl.1 rfl (Nat.le_of_ble_eq_true rfl) dX6_readTest_65 (fun u_ H locs e_ hP hD hS => ?_)
      have hP : va_P G.1 vwCl (zw G (XS 2) 105 a g24 L25) H := hP
      have hD : va_D A (zw G (XS 2) 105 a g24 L25) := hD
      exact J68 g24 L25 H locs ls h hP hD hS (lv_sub hl [] rfl)
  ·
    have h := ite_e c9 h
    refine lv_aload_n hx hb dX6_readTest_14 rfl (lv_at hl 0 rfl) ?_
    obtain ⟨z_, g28, L29, hf30, h⟩ := cb_some h
    refine x_callVv (rest := []) li_X6_53 C (rX6_advance_5 l G H.size a fu g6 L7 z_ (g28, L29) hf30) (kR rfl) hP hD hS 5 6 rfl (zat (by decide) xs_5) rfl hl.1 rfl (Nat.le_of_ble_eq_true rfl) dX6_readTest_15 (fun u_ H locs e_ hP hD hS => ?_)
    have hP : va_P G.1 vwCl (zw G (XS 2) 105 a g28 L29) H := hP
    have hD : va_D A (zw G (XS 2) 105 a g28 L29) := hD
    refine lv_aload_n hx hb dX6_readTest_18 rfl (lv_at hl 0 rfl) ?_
    refine lv_iload_n hx hb dX6_readTest_19 rfl (lv_at hl 1 rfl) ?_
    obtain ⟨z_, g32, L33, hf34, h⟩ := cb_some h
    refine x_callVv (rest := []) li_X6_224 C (rX6_readSum_5_L1 l G H.size a fu g28 L29 p1 z_ (g32, L33) hf34) (kR rfl) hP hD hS 5 6 rfl (zat (by decide) xs_5) rfl hl.1 rfl (Nat.le_of_ble_eq_true rfl) dX6_readTest_20 (fun u_ H locs e_ hP hD hS => ?_)
    have hP : va_P G.1 vwCl (zw G (XS 2) 105 a g32 L33) H := hP
    have hD : va_D A (zw G (XS 2) 105 a g32 L33) := hD
    refine lv_aload_n hx hb dX6_readTest_23 rfl (lv_at hl 0 rfl) ?_
    refine x_getr (Or.inl fl_X6_15) C hP (by decide) xs_5 rfl dX6_readTest_24 ?_
    refine x_getr (Or.inr fl_X6_125) C hP (by decide) xs_2 rfl dX6_readTest_27 ?_
    refine lv_bipush (v := -11) hx hb dX6_readTest_30 (by decide) ?_
    obtain ⟨z_, g36, L37, hf38, h⟩ := cb_some h
    refine x_callNv (rest := []) li_X6_211 C (rX8_add_4 l G H.size 2 a fu g32 L33 (-11) z_ (g36, L37) hf38) (kR rfl) hP hD hS 4 8 rfl (zat (by decide) xs_4) rfl hl.1 rfl (Nat.le_of_ble_eq_true rfl) dX6_readTest_32 (fun u_ H locs e_ hP hD hS => ?_)
    have hP : va_P G.1 vwCl (zw G (XS 2) 105 a g36 L37) H := hP
    have hD : va_D A (zw G (XS 2) 105 a g36 L37) := hD
    refine lv_goto (tgt := 68) hx hb dX6_readTest_35 (by decide) ?_
    exact J68 g36 L37 H locs ls h hP hD hS (lv_sub hl [] rfl)
set_option maxHeartbeats 4000000 in
set_option maxRecDepth 100000 in
theorem rX6_readNot_5_L1 (l : Launch) (G : kG) (sz : Nat) (a : Nat → Nat) (fu : Nat) (g : Nat → Nat → Int32) (L : Nat → Nat → Int64) (p1 : Int32) (res : Unit) (s9 : zS) (h : fX6_readNot_5 fu (fX6_readExpr_5 fu 0) p1 g L = some (res, s9)) : kM l yX6_readNot cX6_readNot 4 none { frames := 16, cells := 0, slots := 0, locals := 326 } G [.ref (a 5), .int p1] (zw G (XS 2) 105 a g L) sz (kQv G (S := Unit) (fun _ => True) (fun _ => zw G (XS 2) 105 a s9.1 s9.2)) := by
  refine kM.of (by decide) (Nat.le_of_ble_eq_true rfl) ?_
  intro p e s m below meth c A ls H C hr hlk hnm hP hD hS hl
  have C : kC G p s m c cX6_readNot 4 RX6 A := C
  have hx := C.1
  have hb := C.2.1
  have hl : lv_has ls 4 [(0, .ref (a 5)), (1, .int p1)] := hl
  obtain ⟨locs, hlocs⟩ : ∃ q : List Loc, q = [] := ⟨_, rfl⟩
  rw [← hlocs] at hS
  rw [← hlocs]
  unfold fX6_readNot_5 at h
  refine lv_iconst (v := 0) hx hb dX6_readNot_0 (by decide) ?_
  refine lv_istore_n (lv' := [(2, .int 0), (0, .ref (a 5)), (1, .int p1)]) hx hb dX6_readNot_1 rfl hl (by decide) rfl (fun ls hl => ?_)
  have lp2 : ∀ (v1 : Int32), ∀ (n : Nat) (v : Int32 × (Nat → Nat → Int32) × (Nat → Nat → Int64)), whileK (fun k v => fX6_readNot_5_s2 fu (fX6_readExpr_5 fu 0) v1 k v.1 v.2.1 v.2.2) n v = some (res, s9) → ∀ (H : Heap) (locs : List Loc) (ls : Array Slot), va_P G.1 vwCl (zw G (XS 2) 105 a (v.2.1) (v.2.2)) H → va_D A (zw G (XS 2) 105 a (v.2.1) (v.2.2)) → va_S A s.heap H locs → lv_has ls 4 [(0, .ref (a 5)), (1, .int v1), (2, .int (v.1))] → W p l e { frames := 16, cells := 0, slots := 0, locals := 326 } s m [.ref (a 5), .int p1].toArray below meth c H locs 0 0 (MQ below ((kQv G (S := Unit) (fun _ => True) (fun _ => zw G (XS 2) 105 a s9.1 s9.2)) A) [.ref (a 5), .int p1].toArray s 0 0 A) (F0 m 2 ls []) := by
    intro v1
    refine while_ind (fun k2 ih2 v h => ?_)
    obtain ⟨v2, g, L⟩ := v
    intro H locs ls hP hD hS hl
    have h : fX6_readNot_5_s2 fu (fX6_readExpr_5 fu 0) v1 k2 v2 g L = some (res, s9) := h
    have hP : va_P G.1 vwCl (zw G (XS 2) 105 a g L) H := hP
    have hD : va_D A (zw G (XS 2) 105 a g L) := hD
    have hl : lv_has ls 4 [(0, .ref (a 5)), (1, .int v1), (2, .int v2)] := hl
    show W p l e { frames := 16, cells := 0, slots := 0, locals := 326 } s m [.ref (a 5), .int p1].toArray below meth c H locs 0 0 (MQ below ((kQv G (S := Unit) (fun _ => True) (fun _ => zw G (XS 2) 105 a s9.1 s9.2)) A) [.ref (a 5), .int p1].toArray s 0 0 A) (F0 m 2 ls [])
    unfold fX6_readNot_5_s2 at h
    refine lv_iload_n hx hb dX6_readNot_2 rfl (lv_at hl 2 rfl) ?_
    refine lv_bipush (v := 6) hx hb dX6_readNot_3 (by decide) ?_
    have J27 : ∀ (v1 : Int32) (v2 : Int32) (g : Nat → Nat → Int32) (L : Nat → Nat → Int64) (H : Heap) (locs : List Loc) (ls : Array Slot), fX6_readNot_5_p27 fu (fX6_readExpr_5 fu 0) v1 v2 g L = some (res, s9) → va_P G.1 vwCl (zw G (XS 2) 105 a g L) H → va_D A (zw G (XS 2) 105 a g L) → va_S A s.heap H locs → lv_has ls 4 [(0, .ref (a 5)), (1, .int v1), (2, .int v2)] → W p l e { frames := 16, cells := 0, slots := 0, locals := 326 } s m [.ref (a 5), .int p1].toArray below meth c H locs 0 0 (MQ below ((kQv G (S := Unit) (fun _ => True) (fun _ => zw G (XS 2) 105 a s9.1 s9.2)) A) [.ref (a 5), .int p1].toArray s 0 0 A) (F0 m 27 ls []) := by
      intro v1 v2 g L H locs ls h hP hD hS hl
      unfold fX6_readNot_5_p27 at h
      refine lv_aload_n hx hb dX6_readNot_27 rfl (lv_at hl 0 rfl) ?_
      refine y_ldcS (i := 11) C (by decide) rfl dX6_readNot_28 ?_
      obtain ⟨z_, g2, L3, hf4, h⟩ := cb_some h
      refine x_callVi (rest := []) li_X6_92 C (rX6_isWord_5_not l G H.size a fu g L z_ (g2, L3) hf4) (kR rfl) hP hD hS 5 6 rfl (zat (by decide) xs_5) rfl hl.1 rfl (Nat.le_of_ble_eq_true rfl) dX6_readNot_30 (fun x1 u_ H locs e_ hP hD hS => ?_)
      have e_ : x1 = z_ := e_
      subst e_
      have hP : va_P G.1 vwCl (zw G (XS 2) 105 a g2 L3) H := hP
      have hD : va_D A (zw G (XS 2) 105 a g2 L3) := hD
      have J47 : ∀ (v1 : Int32) (v2 : Int32) (g : Nat → Nat → Int32) (L : Nat → Nat → Int64) (H : Heap) (locs : List Loc) (ls : Array Slot), fX6_readNot_5_p47 fu (fX6_readExpr_5 fu 0) v1 v2 g L = some (res, s9) → va_P G.1 vwCl (zw G (XS 2) 105 a g L) H → va_D A (zw G (XS 2) 105 a g L) → va_S A s.heap H locs → lv_has ls 4 [(0, .ref (a 5)), (1, .int v1), (2, .int v2)] → W p l e { frames := 16, cells := 0, slots := 0, locals := 326 } s m [.ref (a 5), .int p1].toArray below meth c H locs 0 0 (MQ below ((kQv G (S := Unit) (fun _ => True) (fun _ => zw G (XS 2) 105 a s9.1 s9.2)) A) [.ref (a 5), .int p1].toArray s 0 0 A) (F0 m 47 ls []) := by
        intro v1 v2 g L H locs ls h hP hD hS hl
        unfold fX6_readNot_5_p47 at h
        refine lv_aload_n hx hb dX6_readNot_47 rfl (lv_at hl 0 rfl) ?_
        refine lv_iload_n hx hb dX6_readNot_48 rfl (lv_at hl 1 rfl) ?_
        obtain ⟨z_, g6, L7, hf8, h⟩ := cb_some h
        refine x_callVv (rest := []) li_X6_221 C (rX6_readTest_5_L1 l G H.size a fu g L v1 z_ (g6, L7) hf8) (kR rfl) hP hD hS 5 6 rfl (zat (by decide) xs_5) rfl hl.1 rfl (Nat.le_of_ble_eq_true rfl) dX6_readNot_49 (fun u_ H locs e_ hP hD hS => ?_)
        have hP : va_P G.1 vwCl (zw G (XS 2) 105 a g6 L7) H := hP
        have hD : va_D A (zw G (XS 2) 105 a g6 L7) := hD
        refine lv_iconst (v := 0) hx hb dX6_readNot_52 (by decide) ?_
        refine lv_istore_n (lv' := [(3, .int 0), (0, .ref (a 5)), (1, .int v1), (2, .int v2)]) hx hb dX6_readNot_53 rfl hl (by decide) rfl (fun ls hl => ?_)
        have lp54 : ∀ (v2 : Int32), ∀ (n : Nat) (v : Int32 × (Nat → Nat → Int32) × (Nat → Nat → Int64)), whileK (fun k v => fX6_readNot_5_s54 fu (fX6_readExpr_5 fu 0) v2 k v.1 v.2.1 v.2.2) n v = some (res, s9) → ∀ (H : Heap) (locs : List Loc) (ls : Array Slot), va_P G.1 vwCl (zw G (XS 2) 105 a (v.2.1) (v.2.2)) H → va_D A (zw G (XS 2) 105 a (v.2.1) (v.2.2)) → va_S A s.heap H locs → lv_has ls 4 [(0, .ref (a 5)), (2, .int v2), (3, .int (v.1))] → W p l e { frames := 16, cells := 0, slots := 0, locals := 326 } s m [.ref (a 5), .int p1].toArray below meth c H locs 0 0 (MQ below ((kQv G (S := Unit) (fun _ => True) (fun _ => zw G (XS 2) 105 a s9.1 s9.2)) A) [.ref (a 5), .int p1].toArray s 0 0 A) (F0 m 54 ls []) := by
          intro v2
          refine while_ind (fun k54 ih54 v h => ?_)
          obtain ⟨v3, g, L⟩ := v
          intro H locs ls hP hD hS hl
          have h : fX6_readNot_5_s54 fu (fX6_readExpr_5 fu 0) v2 k54 v3 g L = some (res, s9) := h
          have hP : va_P G.1 vwCl (zw G (XS 2) 105 a g L) H := hP
          have hD : va_D A (zw G (XS 2) 105 a g L) := hD
          have hl : lv_has ls 4 [(0, .ref (a 5)), (2, .int v2), (3, .int v3)] := hl
          show W p l e { frames := 16, cells := 0, slots := 0, locals := 326 } s m [.ref (a 5), .int p1].toArray below meth c H locs 0 0 (MQ below ((kQv G (S := Unit) (fun _ => True) (fun _ => zw G (XS 2) 105 a s9.1 s9.2)) A) [.ref (a 5), .int p1].toArray s 0 0 A) (F0 m 54 ls [])
          unfold fX6_readNot_5_s54 at h
          refine lv_iload_n hx hb dX6_readNot_54 rfl (lv_at hl 2 rfl) ?_
          refine lv_iload_n hx hb dX6_readNot_55 rfl (lv_at hl 1 rfl) ?_
          refine lv_icmp_ge (x := v3) (y := v2) (tgt := 77) hx hb dX6_readNot_56 (by decide) (fun c9 => ?_) (fun c9 => ?_)
          ·
            have h := ite_t c9 h
            exact y_vret C hr hlk hP hD hS h (Nat.le_of_ble_eq_true rfl) (Nat.le_of_ble_eq_true rfl) dX6_readNot_77
          ·
            have h := ite_e c9 h
            refine lv_aload_n hx hb dX6_readNot_59 rfl (lv_at hl 0 rfl) ?_
            refine x_getr (Or.inl fl_X6_15) C hP (by decide) xs_5 rfl dX6_readNot_60 ?_
            refine x_getr (Or.inr fl_X6_125) C hP (by decide) xs_2 rfl dX6_readNot_63 ?_
            refine lv_bipush (v := -15) hx hb dX6_readNot_66 (by decide) ?_
            obtain ⟨z_, g11, L12, hf13, h⟩ := cb_some h
            refine x_callNv (rest := []) li_X6_211 C (rX8_add_4 l G H.size 2 a fu g L (-15) z_ (g11, L12) hf13) (kR rfl) hP hD hS 4 8 rfl (zat (by decide) xs_4) rfl hl.1 rfl (Nat.le_of_ble_eq_true rfl) dX6_readNot_68 (fun u_ H locs e_ hP hD hS => ?_)
            have hP : va_P G.1 vwCl (zw G (XS 2) 105 a g11 L12) H := hP
            have hD : va_D A (zw G (XS 2) 105 a g11 L12) := hD
            refine lv_iinc (v := (v3 + 1)) (lv' := [(3, .int (v3 + 1)), (0, .ref (a 5)), (2, .int v2)]) hx hb dX6_readNot_71 hl (k := 2) rfl rfl (by decide) rfl (fun ls hl => ?_)
            refine lv_goto (tgt := 54) hx hb dX6_readNot_74 (by decide) ?_
            exact ih54 ((v3 + 1), g11, L12) h H locs ls hP hD hS (lv_sub hl [1, 2, 0] rfl)
        exact lp54 v2 fu (0, g6, L7) h H locs ls hP hD hS (lv_sub hl [1, 3, 0] rfl)
      refine lv_if_eq (x := x1) (tgt := 47) hx hb dX6_readNot_33 (by decide) (fun c14 => ?_) (fun c14 => ?_)
      ·
        have h := ite_t c14 h
        exact J47 v1 v2 g2 L3 H locs ls h hP hD hS (lv_sub hl [0, 1, 2] rfl)
      ·
        have h := ite_e c14 h
        refine lv_iload_n hx hb dX6_readNot_36 rfl (lv_at hl 2 rfl) ?_
        refine lv_bipush (v := 6) hx hb dX6_readNot_37 (by decide) ?_
        refine lv_icmp_lt (x := v2) (y := 6) (tgt := 47) hx hb dX6_readNot_39 (by decide) (fun c15 => ?_) (fun c15 => ?_)
        ·
          have h := ite_t c15 h
          exact J47 v1 v2 g2 L3 H locs ls h hP hD hS (lv_sub hl [0, 1, 2] rfl)
        ·
          have h := ite_e c15 h
          refine lv_aload_n hx hb dX6_readNot_42 rfl (lv_at hl 0 rfl) ?_
          refine lv_iconst (v := 2) hx hb dX6_readNot_43 (by decide) ?_
          obtain ⟨z_, g17, L18, hf19, h⟩ := cb_some h
          refine x_callVv (rest := []) li_X6_78 C (rX6_refuse_5 l G H.size a fu g2 L3 2 z_ (g17, L18) hf19) (kR rfl) hP hD hS 5 6 rfl (zat (by decide) xs_5) rfl hl.1 rfl (Nat.le_of_ble_eq_true rfl) dX6_readNot_44 (fun u_ H locs e_ hP hD hS => ?_)
          have hP : va_P G.1 vwCl (zw G (XS 2) 105 a g17 L18) H := hP
          have hD : va_D A (zw G (XS 2) 105 a g17 L18) := hD
          exact J47 v1 v2 g17 L18 H locs ls h hP hD hS (lv_sub hl [0, 1, 2] rfl)
    refine lv_icmp_ge (x := v2) (y := 6) (tgt := 27) hx hb dX6_readNot_5 (by decide) (fun c20 => ?_) (fun c20 => ?_)
    ·
      have h := ite_t c20 h
      exact J27 v1 v2 g L H locs ls h hP hD hS (lv_sub hl [0, 1, 2] rfl)
    ·
      have h := ite_e c20 h
      refine lv_aload_n hx hb dX6_readNot_8 rfl (lv_at hl 0 rfl) ?_
      refine y_ldcS (i := 11) C (by decide) rfl dX6_readNot_9 ?_
      obtain ⟨z_, g22, L23, hf24, h⟩ := cb_some h
      refine x_callVi (rest := []) li_X6_92 C (rX6_isWord_5_not l G H.size a fu g L z_ (g22, L23) hf24) (kR rfl) hP hD hS 5 6 rfl (zat (by decide) xs_5) rfl hl.1 rfl (Nat.le_of_ble_eq_true rfl) dX6_readNot_11 (fun x21 u_ H locs e_ hP hD hS => ?_)
      have e_ : x21 = z_ := e_
      subst e_
      have hP : va_P G.1 vwCl (zw G (XS 2) 105 a g22 L23) H := hP
      have hD : va_D A (zw G (XS 2) 105 a g22 L23) := hD
      refine lv_if_eq (x := x21) (tgt := 27) hx hb dX6_readNot_14 (by decide) (fun c25 => ?_) (fun c25 => ?_)
      ·
        have h := ite_t c25 h
        exact J27 v1 v2 g22 L23 H locs ls h hP hD hS (lv_sub hl [0, 1, 2] rfl)
      ·
        have h := ite_e c25 h
        refine lv_iinc (v := (v2 + 1)) (lv' := [(2, .int (v2 + 1)), (0, .ref (a 5)), (1, .int v1)]) hx hb dX6_readNot_17 hl (k := 2) rfl rfl (by decide) rfl (fun ls hl => ?_)
        refine lv_aload_n hx hb dX6_readNot_20 rfl (lv_at hl 1 rfl) ?_
        obtain ⟨z_, g27, L28, hf29, h⟩ := cb_some h
        refine x_callVv (rest := []) li_X6_53 C (rX6_advance_5 l G H.size a fu g22 L23 z_ (g27, L28) hf29) (kR rfl) hP hD hS 5 6 rfl (zat (by decide) xs_5) rfl hl.1 rfl (Nat.le_of_ble_eq_true rfl) dX6_readNot_21 (fun u_ H locs e_ hP hD hS => ?_)
        have hP : va_P G.1 vwCl (zw G (XS 2) 105 a g27 L28) H := hP
        have hD : va_D A (zw G (XS 2) 105 a g27 L28) := hD
        refine lv_goto (tgt := 2) hx hb dX6_readNot_24 (by decide) ?_
        exact ih2 ((v2 + 1), g27, L28) h H locs ls hP hD hS (lv_sub hl [1, 2, 0] rfl)
  exact lp2 p1 fu (0, g, L) h H locs ls hP hD hS (lv_sub hl [1, 2, 0] rfl)
set_option maxHeartbeats 4000000 in
set_option maxRecDepth 100000 in
theorem rX6_readAnd_5_L1 (l : Launch) (G : kG) (sz : Nat) (a : Nat → Nat) (fu : Nat) (g : Nat → Nat → Int32) (L : Nat → Nat → Int64) (p1 : Int32) (res : Unit) (s9 : zS) (h : fX6_readAnd_5 fu (fX6_readExpr_5 fu 0) p1 g L = some (res, s9)) : kM l yX6_readAnd cX6_readAnd 3 none { frames := 17, cells := 0, slots := 0, locals := 349 } G [.ref (a 5), .int p1] (zw G (XS 2) 105 a g L) sz (kQv G (S := Unit) (fun _ => True) (fun _ => zw G (XS 2) 105 a s9.1 s9.2)) := by
  refine kM.of (by decide) (Nat.le_of_ble_eq_true rfl) ?_
  intro p e s m below meth c A ls H C hr hlk hnm hP hD hS hl
  have C : kC G p s m c cX6_readAnd 3 RX6 A := C
  have hx := C.1
  have hb := C.2.1
  have hl : lv_has ls 3 [(0, .ref (a 5)), (1, .int p1)] := hl
  obtain ⟨locs, hlocs⟩ : ∃ q : List Loc, q = [] := ⟨_, rfl⟩
  rw [← hlocs] at hS
  rw [← hlocs]
  unfold fX6_readAnd_5 at h
  refine lv_aload_n hx hb dX6_readAnd_0 rfl (lv_at hl 0 rfl) ?_
  refine lv_iload_n hx hb dX6_readAnd_1 rfl (lv_at hl 1 rfl) ?_
  obtain ⟨z_, g2, L3, hf4, h⟩ := cb_some h
  refine x_callVv (rest := []) li_X6_214 C (rX6_readNot_5_L1 l G H.size a fu g L p1 z_ (g2, L3) hf4) (kR rfl) hP hD hS 5 6 rfl (zat (by decide) xs_5) rfl hl.1 rfl (Nat.le_of_ble_eq_true rfl) dX6_readAnd_2 (fun u_ H locs e_ hP hD hS => ?_)
  have hP : va_P G.1 vwCl (zw G (XS 2) 105 a g2 L3) H := hP
  have hD : va_D A (zw G (XS 2) 105 a g2 L3) := hD
  refine lv_iconst (v := 0) hx hb dX6_readAnd_5 (by decide) ?_
  refine lv_istore_n (lv' := [(2, .int 0), (0, .ref (a 5)), (1, .int p1)]) hx hb dX6_readAnd_6 rfl hl (by decide) rfl (fun ls hl => ?_)
  have lp7 : ∀ (v1 : Int32), ∀ (n : Nat) (v : Int32 × (Nat → Nat → Int32) × (Nat → Nat → Int64)), whileK (fun k v => fX6_readAnd_5_s7 fu (fX6_readExpr_5 fu 0) v1 k v.1 v.2.1 v.2.2) n v = some (res, s9) → ∀ (H : Heap) (locs : List Loc) (ls : Array Slot), va_P G.1 vwCl (zw G (XS 2) 105 a (v.2.1) (v.2.2)) H → va_D A (zw G (XS 2) 105 a (v.2.1) (v.2.2)) → va_S A s.heap H locs → lv_has ls 3 [(0, .ref (a 5)), (1, .int v1), (2, .int (v.1))] → W p l e { frames := 17, cells := 0, slots := 0, locals := 349 } s m [.ref (a 5), .int p1].toArray below meth c H locs 0 0 (MQ below ((kQv G (S := Unit) (fun _ => True) (fun _ => zw G (XS 2) 105 a s9.1 s9.2)) A) [.ref (a 5), .int p1].toArray s 0 0 A) (F0 m 7 ls []) := by
    intro v1
    refine while_ind (fun k7 ih7 v h => ?_)
    obtain ⟨v2, g, L⟩ := v
    intro H locs ls hP hD hS hl
    have h : fX6_readAnd_5_s7 fu (fX6_readExpr_5 fu 0) v1 k7 v2 g L = some (res, s9) := h
    have hP : va_P G.1 vwCl (zw G (XS 2) 105 a g L) H := hP
    have hD : va_D A (zw G (XS 2) 105 a g L) := hD
    have hl : lv_has ls 3 [(0, .ref (a 5)), (1, .int v1), (2, .int v2)] := hl
    show W p l e { frames := 17, cells := 0, slots := 0, locals := 349 } s m [.ref (a 5), .int p1].toArray below meth c H locs 0 0 (MQ below ((kQv G (S := Unit) (fun _ => True) (fun _ => zw G (XS 2) 105 a s9.1 s9.2)) A) [.ref (a 5), .int p1].toArray s 0 0 A) (F0 m 7 ls [])
    unfold fX6_readAnd_5_s7 at h
    refine lv_iload_n hx hb dX6_readAnd_7 rfl (lv_at hl 2 rfl) ?_
    refine lv_sipush (v := 700) hx hb dX6_readAnd_8 (by decide) ?_
    have J50 : ∀ (g : Nat → Nat → Int32) (L : Nat → Nat → Int64) (H : Heap) (locs : List Loc) (ls : Array Slot), fX6_readAnd_5_p50 fu (fX6_readExpr_5 fu 0) g L = some (res, s9) → va_P G.1 vwCl (zw G (XS 2) 105 a g L) H → va_D A (zw G (XS 2) 105 a g L) → va_S A s.heap H locs → lv_has ls 3 [] → W p l e { frames := 17, cells := 0, slots := 0, locals := 349 } s m [.ref (a 5), .int p1].toArray below meth c H locs 0 0 (MQ below ((kQv G (S := Unit) (fun _ => True) (fun _ => zw G (XS 2) 105 a s9.1 s9.2)) A) [.ref (a 5), .int p1].toArray s 0 0 A) (F0 m 50 ls []) := by
      intro g L H locs ls h hP hD hS hl
      unfold fX6_readAnd_5_p50 at h
      exact y_vret C hr hlk hP hD hS h (Nat.le_of_ble_eq_true rfl) (Nat.le_of_ble_eq_true rfl) dX6_readAnd_50
    refine lv_icmp_ge (x := v2) (y := 700) (tgt := 50) hx hb dX6_readAnd_11 (by decide) (fun c5 => ?_) (fun c5 => ?_)
    ·
      have h := ite_t c5 h
      exact J50 g L H locs ls h hP hD hS (lv_sub hl [] rfl)
    ·
      have h := ite_e c5 h
      refine lv_aload_n hx hb dX6_readAnd_14 rfl (lv_at hl 0 rfl) ?_
      refine y_ldcS (i := 10) C (by decide) rfl dX6_readAnd_15 ?_
      obtain ⟨z_, g7, L8, hf9, h⟩ := cb_some h
      refine x_callVi (rest := []) li_X6_92 C (rX6_isWord_5_and l G H.size a fu g L z_ (g7, L8) hf9) (kR rfl) hP hD hS 5 6 rfl (zat (by decide) xs_5) rfl hl.1 rfl (Nat.le_of_ble_eq_true rfl) dX6_readAnd_17 (fun x6 u_ H locs e_ hP hD hS => ?_)
      have e_ : x6 = z_ := e_
      subst e_
      have hP : va_P G.1 vwCl (zw G (XS 2) 105 a g7 L8) H := hP
      have hD : va_D A (zw G (XS 2) 105 a g7 L8) := hD
      refine lv_if_eq (x := x6) (tgt := 50) hx hb dX6_readAnd_20 (by decide) (fun c10 => ?_) (fun c10 => ?_)
      ·
        have h := ite_t c10 h
        exact J50 g7 L8 H locs ls h hP hD hS (lv_sub hl [] rfl)
      ·
        have h := ite_e c10 h
        refine lv_aload_n hx hb dX6_readAnd_23 rfl (lv_at hl 0 rfl) ?_
        obtain ⟨z_, g12, L13, hf14, h⟩ := cb_some h
        refine x_callVv (rest := []) li_X6_53 C (rX6_advance_5 l G H.size a fu g7 L8 z_ (g12, L13) hf14) (kR rfl) hP hD hS 5 6 rfl (zat (by decide) xs_5) rfl hl.1 rfl (Nat.le_of_ble_eq_true rfl) dX6_readAnd_24 (fun u_ H locs e_ hP hD hS => ?_)
        have hP : va_P G.1 vwCl (zw G (XS 2) 105 a g12 L13) H := hP
        have hD : va_D A (zw G (XS 2) 105 a g12 L13) := hD
        refine lv_aload_n hx hb dX6_readAnd_27 rfl (lv_at hl 0 rfl) ?_
        refine lv_iload_n hx hb dX6_readAnd_28 rfl (lv_at hl 1 rfl) ?_
        obtain ⟨z_, g16, L17, hf18, h⟩ := cb_some h
        refine x_callVv (rest := []) li_X6_214 C (rX6_readNot_5_L1 l G H.size a fu g12 L13 v1 z_ (g16, L17) hf18) (kR rfl) hP hD hS 5 6 rfl (zat (by decide) xs_5) rfl hl.1 rfl (Nat.le_of_ble_eq_true rfl) dX6_readAnd_29 (fun u_ H locs e_ hP hD hS => ?_)
        have hP : va_P G.1 vwCl (zw G (XS 2) 105 a g16 L17) H := hP
        have hD : va_D A (zw G (XS 2) 105 a g16 L17) := hD
        refine lv_aload_n hx hb dX6_readAnd_32 rfl (lv_at hl 0 rfl) ?_
        refine x_getr (Or.inl fl_X6_15) C hP (by decide) xs_5 rfl dX6_readAnd_33 ?_
        refine x_getr (Or.inr fl_X6_125) C hP (by decide) xs_2 rfl dX6_readAnd_36 ?_
        refine lv_bipush (v := -13) hx hb dX6_readAnd_39 (by decide) ?_
        obtain ⟨z_, g20, L21, hf22, h⟩ := cb_some h
        refine x_callNv (rest := []) li_X6_211 C (rX8_add_4 l G H.size 2 a fu g16 L17 (-13) z_ (g20, L21) hf22) (kR rfl) hP hD hS 4 8 rfl (zat (by decide) xs_4) rfl hl.1 rfl (Nat.le_of_ble_eq_true rfl) dX6_readAnd_41 (fun u_ H locs e_ hP hD hS => ?_)
        have hP : va_P G.1 vwCl (zw G (XS 2) 105 a g20 L21) H := hP
        have hD : va_D A (zw G (XS 2) 105 a g20 L21) := hD
        refine lv_iinc (v := (v2 + 1)) (lv' := [(2, .int (v2 + 1)), (0, .ref (a 5)), (1, .int v1)]) hx hb dX6_readAnd_44 hl (k := 2) rfl rfl (by decide) rfl (fun ls hl => ?_)
        refine lv_goto (tgt := 7) hx hb dX6_readAnd_47 (by decide) ?_
        exact ih7 ((v2 + 1), g20, L21) h H locs ls hP hD hS (lv_sub hl [1, 2, 0] rfl)
  exact lp7 p1 fu (0, g2, L3) h H locs ls hP hD hS (lv_sub hl [1, 2, 0] rfl)
set_option maxHeartbeats 4000000 in
set_option maxRecDepth 100000 in
theorem rX6_readExpr_5_L1 (l : Launch) (G : kG) (sz : Nat) (a : Nat → Nat) (fu : Nat) (g : Nat → Nat → Int32) (L : Nat → Nat → Int64) (p1 : Int32) (res : Unit) (s9 : zS) (h : fX6_readExpr_5 fu 1 p1 g L = some (res, s9)) : kM l yX6_readExpr cX6_readExpr 3 none { frames := 18, cells := 0, slots := 0, locals := 371 } G [.ref (a 5), .int p1] (zw G (XS 2) 105 a g L) sz (kQv G (S := Unit) (fun _ => True) (fun _ => zw G (XS 2) 105 a s9.1 s9.2)) := by
  refine kM.of (by decide) (Nat.le_of_ble_eq_true rfl) ?_
  intro p e s m below meth c A ls H C hr hlk hnm hP hD hS hl
  have C : kC G p s m c cX6_readExpr 3 RX6 A := C
  have hx := C.1
  have hb := C.2.1
  have hl : lv_has ls 3 [(0, .ref (a 5)), (1, .int p1)] := hl
  obtain ⟨locs, hlocs⟩ : ∃ q : List Loc, q = [] := ⟨_, rfl⟩
  rw [← hlocs] at hS
  rw [← hlocs]
  rw [fX6_readExpr_5_succ] at h
  unfold fX6_readExpr_5B at h
  refine lv_iload_n hx hb dX6_readExpr_0 rfl (lv_at hl 1 rfl) ?_
  refine lv_iconst (v := 5) hx hb dX6_readExpr_1 (by decide) ?_
  have J35 : ∀ (v1 : Int32) (g : Nat → Nat → Int32) (L : Nat → Nat → Int64) (H : Heap) (locs : List Loc) (ls : Array Slot), fX6_readExpr_5_p35 fu (fX6_readExpr_5 fu 0) v1 g L = some (res, s9) → va_P G.1 vwCl (zw G (XS 2) 105 a g L) H → va_D A (zw G (XS 2) 105 a g L) → va_S A s.heap H locs → lv_has ls 3 [(0, .ref (a 5)), (1, .int v1)] → W p l e { frames := 18, cells := 0, slots := 0, locals := 371 } s m [.ref (a 5), .int p1].toArray below meth c H locs 0 0 (MQ below ((kQv G (S := Unit) (fun _ => True) (fun _ => zw G (XS 2) 105 a s9.1 s9.2)) A) [.ref (a 5), .int p1].toArray s 0 0 A) (F0 m 35 ls []) := by
    intro v1 g L H locs ls h hP hD hS hl
    unfold fX6_readExpr_5_p35 at h
    refine lv_aload_n hx hb dX6_readExpr_35 rfl (lv_at hl 0 rfl) ?_
    refine lv_iload_n hx hb dX6_readExpr_36 rfl (lv_at hl 1 rfl) ?_
    obtain ⟨z_, g2, L3, hf4, h⟩ := cb_some h
    refine x_callVv (rest := []) li_X6_206 C (rX6_readAnd_5_L1 l G H.size a fu g L v1 z_ (g2, L3) hf4) (kR rfl) hP hD hS 5 6 rfl (zat (by decide) xs_5) rfl hl.1 rfl (Nat.le_of_ble_eq_true rfl) dX6_readExpr_37 (fun u_ H locs e_ hP hD hS => ?_)
    have hP : va_P G.1 vwCl (zw G (XS 2) 105 a g2 L3) H := hP
    have hD : va_D A (zw G (XS 2) 105 a g2 L3) := hD
    refine lv_iconst (v := 0) hx hb dX6_readExpr_40 (by decide) ?_
    refine lv_istore_n (lv' := [(2, .int 0), (0, .ref (a 5)), (1, .int v1)]) hx hb dX6_readExpr_41 rfl hl (by decide) rfl (fun ls hl => ?_)
    have lp42 : ∀ (v1 : Int32), ∀ (n : Nat) (v : Int32 × (Nat → Nat → Int32) × (Nat → Nat → Int64)), whileK (fun k v => fX6_readExpr_5_s42 fu (fX6_readExpr_5 fu 0) v1 k v.1 v.2.1 v.2.2) n v = some (res, s9) → ∀ (H : Heap) (locs : List Loc) (ls : Array Slot), va_P G.1 vwCl (zw G (XS 2) 105 a (v.2.1) (v.2.2)) H → va_D A (zw G (XS 2) 105 a (v.2.1) (v.2.2)) → va_S A s.heap H locs → lv_has ls 3 [(0, .ref (a 5)), (1, .int v1), (2, .int (v.1))] → W p l e { frames := 18, cells := 0, slots := 0, locals := 371 } s m [.ref (a 5), .int p1].toArray below meth c H locs 0 0 (MQ below ((kQv G (S := Unit) (fun _ => True) (fun _ => zw G (XS 2) 105 a s9.1 s9.2)) A) [.ref (a 5), .int p1].toArray s 0 0 A) (F0 m 42 ls []) := by
      intro v1
      refine while_ind (fun k42 ih42 v h => ?_)
      obtain ⟨v2, g, L⟩ := v
      intro H locs ls hP hD hS hl
      have h : fX6_readExpr_5_s42 fu (fX6_readExpr_5 fu 0) v1 k42 v2 g L = some (res, s9) := h
      have hP : va_P G.1 vwCl (zw G (XS 2) 105 a g L) H := hP
      have hD : va_D A (zw G (XS 2) 105 a g L) := hD
      have hl : lv_has ls 3 [(0, .ref (a 5)), (1, .int v1), (2, .int v2)] := hl
      show W p l e { frames := 18, cells := 0, slots := 0, locals := 371 } s m [.ref (a 5), .int p1].toArray below meth c H locs 0 0 (MQ below ((kQv G (S := Unit) (fun _ => True) (fun _ => zw G (XS 2) 105 a s9.1 s9.2)) A) [.ref (a 5), .int p1].toArray s 0 0 A) (F0 m 42 ls [])
      unfold fX6_readExpr_5_s42 at h
      refine lv_iload_n hx hb dX6_readExpr_42 rfl (lv_at hl 2 rfl) ?_
      refine lv_sipush (v := 700) hx hb dX6_readExpr_43 (by decide) ?_
      have J85 : ∀ (g : Nat → Nat → Int32) (L : Nat → Nat → Int64) (H : Heap) (locs : List Loc) (ls : Array Slot), fX6_readExpr_5_p85 fu (fX6_readExpr_5 fu 0) g L = some (res, s9) → va_P G.1 vwCl (zw G (XS 2) 105 a g L) H → va_D A (zw G (XS 2) 105 a g L) → va_S A s.heap H locs → lv_has ls 3 [] → W p l e { frames := 18, cells := 0, slots := 0, locals := 371 } s m [.ref (a 5), .int p1].toArray below meth c H locs 0 0 (MQ below ((kQv G (S := Unit) (fun _ => True) (fun _ => zw G (XS 2) 105 a s9.1 s9.2)) A) [.ref (a 5), .int p1].toArray s 0 0 A) (F0 m 85 ls []) := by
        intro g L H locs ls h hP hD hS hl
        unfold fX6_readExpr_5_p85 at h
        exact y_vret C hr hlk hP hD hS h (Nat.le_of_ble_eq_true rfl) (Nat.le_of_ble_eq_true rfl) dX6_readExpr_85
      refine lv_icmp_ge (x := v2) (y := 700) (tgt := 85) hx hb dX6_readExpr_46 (by decide) (fun c5 => ?_) (fun c5 => ?_)
      ·
        have h := ite_t c5 h
        exact J85 g L H locs ls h hP hD hS (lv_sub hl [] rfl)
      ·
        have h := ite_e c5 h
        refine lv_aload_n hx hb dX6_readExpr_49 rfl (lv_at hl 0 rfl) ?_
        refine y_ldcS (i := 9) C (by decide) rfl dX6_readExpr_50 ?_
        obtain ⟨z_, g7, L8, hf9, h⟩ := cb_some h
        refine x_callVi (rest := []) li_X6_92 C (rX6_isWord_5_or l G H.size a fu g L z_ (g7, L8) hf9) (kR rfl) hP hD hS 5 6 rfl (zat (by decide) xs_5) rfl hl.1 rfl (Nat.le_of_ble_eq_true rfl) dX6_readExpr_52 (fun x6 u_ H locs e_ hP hD hS => ?_)
        have e_ : x6 = z_ := e_
        subst e_
        have hP : va_P G.1 vwCl (zw G (XS 2) 105 a g7 L8) H := hP
        have hD : va_D A (zw G (XS 2) 105 a g7 L8) := hD
        refine lv_if_eq (x := x6) (tgt := 85) hx hb dX6_readExpr_55 (by decide) (fun c10 => ?_) (fun c10 => ?_)
        ·
          have h := ite_t c10 h
          exact J85 g7 L8 H locs ls h hP hD hS (lv_sub hl [] rfl)
        ·
          have h := ite_e c10 h
          refine lv_aload_n hx hb dX6_readExpr_58 rfl (lv_at hl 0 rfl) ?_
          obtain ⟨z_, g12, L13, hf14, h⟩ := cb_some h
          refine x_callVv (rest := []) li_X6_53 C (rX6_advance_5 l G H.size a fu g7 L8 z_ (g12, L13) hf14) (kR rfl) hP hD hS 5 6 rfl (zat (by decide) xs_5) rfl hl.1 rfl (Nat.le_of_ble_eq_true rfl) dX6_readExpr_59 (fun u_ H locs e_ hP hD hS => ?_)
          have hP : va_P G.1 vwCl (zw G (XS 2) 105 a g12 L13) H := hP
          have hD : va_D A (zw G (XS 2) 105 a g12 L13) := hD
          refine lv_aload_n hx hb dX6_readExpr_62 rfl (lv_at hl 0 rfl) ?_
          refine lv_iload_n hx hb dX6_readExpr_63 rfl (lv_at hl 1 rfl) ?_
          obtain ⟨z_, g16, L17, hf18, h⟩ := cb_some h
          refine x_callVv (rest := []) li_X6_206 C (rX6_readAnd_5_L1 l G H.size a fu g12 L13 v1 z_ (g16, L17) hf18) (kR rfl) hP hD hS 5 6 rfl (zat (by decide) xs_5) rfl hl.1 rfl (Nat.le_of_ble_eq_true rfl) dX6_readExpr_64 (fun u_ H locs e_ hP hD hS => ?_)
          have hP : va_P G.1 vwCl (zw G (XS 2) 105 a g16 L17) H := hP
          have hD : va_D A (zw G (XS 2) 105 a g16 L17) := hD
          refine lv_aload_n hx hb dX6_readExpr_67 rfl (lv_at hl 0 rfl) ?_
          refine x_getr (Or.inl fl_X6_15) C hP (by decide) xs_5 rfl dX6_readExpr_68 ?_
          refine x_getr (Or.inr fl_X6_125) C hP (by decide) xs_2 rfl dX6_readExpr_71 ?_
          refine lv_bipush (v := -14) hx hb dX6_readExpr_74 (by decide) ?_
          obtain ⟨z_, g20, L21, hf22, h⟩ := cb_some h
          refine x_callNv (rest := []) li_X6_211 C (rX8_add_4 l G H.size 2 a fu g16 L17 (-14) z_ (g20, L21) hf22) (kR rfl) hP hD hS 4 8 rfl (zat (by decide) xs_4) rfl hl.1 rfl (Nat.le_of_ble_eq_true rfl) dX6_readExpr_76 (fun u_ H locs e_ hP hD hS => ?_)
          have hP : va_P G.1 vwCl (zw G (XS 2) 105 a g20 L21) H := hP
          have hD : va_D A (zw G (XS 2) 105 a g20 L21) := hD
          refine lv_iinc (v := (v2 + 1)) (lv' := [(2, .int (v2 + 1)), (0, .ref (a 5)), (1, .int v1)]) hx hb dX6_readExpr_79 hl (k := 2) rfl rfl (by decide) rfl (fun ls hl => ?_)
          refine lv_goto (tgt := 42) hx hb dX6_readExpr_82 (by decide) ?_
          exact ih42 ((v2 + 1), g20, L21) h H locs ls hP hD hS (lv_sub hl [1, 2, 0] rfl)
    exact lp42 v1 fu (0, g2, L3) h H locs ls hP hD hS (lv_sub hl [1, 2, 0] rfl)
  refine lv_icmp_le (x := p1) (y := 5) (tgt := 35) hx hb dX6_readExpr_2 (by decide) (fun c23 => ?_) (fun c23 => ?_)
  ·
    have h := ite_t c23 h
    exact J35 p1 g L H locs ls h hP hD hS (lv_sub hl [0, 1] rfl)
  ·
    have h := ite_e c23 h
    refine lv_aload_n hx hb dX6_readExpr_5 rfl (lv_at hl 0 rfl) ?_
    refine x_getv (v := .int (g 5 4)) (Or.inl fl_X6_50) C hP (by decide) xs_5 rfl dX6_readExpr_6 ?_
    refine lv_iconst (v := 1) hx hb dX6_readExpr_9 (by decide) ?_
    have J30 : ∀ (v1 : Int32) (g : Nat → Nat → Int32) (L : Nat → Nat → Int64) (H : Heap) (locs : List Loc) (ls : Array Slot), fX6_readExpr_5_p30 fu (fX6_readExpr_5 fu 0) v1 g L = some (res, s9) → va_P G.1 vwCl (zw G (XS 2) 105 a g L) H → va_D A (zw G (XS 2) 105 a g L) → va_S A s.heap H locs → lv_has ls 3 [(0, .ref (a 5)), (1, .int v1)] → W p l e { frames := 18, cells := 0, slots := 0, locals := 371 } s m [.ref (a 5), .int p1].toArray below meth c H locs 0 0 (MQ below ((kQv G (S := Unit) (fun _ => True) (fun _ => zw G (XS 2) 105 a s9.1 s9.2)) A) [.ref (a 5), .int p1].toArray s 0 0 A) (F0 m 30 ls []) := by
      intro v1 g L H locs ls h hP hD hS hl
      unfold fX6_readExpr_5_p30 at h
      refine lv_aload_n hx hb dX6_readExpr_30 rfl (lv_at hl 0 rfl) ?_
      refine lv_iconst (v := 2) hx hb dX6_readExpr_31 (by decide) ?_
      obtain ⟨z_, g25, L26, hf27, h⟩ := cb_some h
      refine x_callVv (rest := []) li_X6_78 C (rX6_refuse_5 l G H.size a fu g L 2 z_ (g25, L26) hf27) (kR rfl) hP hD hS 5 6 rfl (zat (by decide) xs_5) rfl hl.1 rfl (Nat.le_of_ble_eq_true rfl) dX6_readExpr_32 (fun u_ H locs e_ hP hD hS => ?_)
      have hP : va_P G.1 vwCl (zw G (XS 2) 105 a g25 L26) H := hP
      have hD : va_D A (zw G (XS 2) 105 a g25 L26) := hD
      exact J35 v1 g25 L26 H locs ls h hP hD hS (lv_sub hl [0, 1] rfl)
    refine lv_icmp_eq (x := (g 5 4)) (y := 1) (tgt := 30) hx hb dX6_readExpr_10 (by decide) (fun c28 => ?_) (fun c28 => ?_)
    ·
      have h := ite_t c28 h
      exact J30 p1 g L H locs ls h hP hD hS (lv_sub hl [0, 1] rfl)
    ·
      have h := ite_e c28 h
      refine lv_aload_n hx hb dX6_readExpr_13 rfl (lv_at hl 0 rfl) ?_
      refine x_getv (v := .int (g 5 4)) (Or.inl fl_X6_50) C hP (by decide) xs_5 rfl dX6_readExpr_14 ?_
      refine lv_iconst (v := 2) hx hb dX6_readExpr_17 (by decide) ?_
      refine lv_icmp_eq (x := (g 5 4)) (y := 2) (tgt := 30) hx hb dX6_readExpr_18 (by decide) (fun c29 => ?_) (fun c29 => ?_)
      ·
        have h := ite_t c29 h
        exact J30 p1 g L H locs ls h hP hD hS (lv_sub hl [0, 1] rfl)
      ·
        have h := ite_e c29 h
        refine lv_aload_n hx hb dX6_readExpr_21 rfl (lv_at hl 0 rfl) ?_
        refine lv_bipush (v := 40) hx hb dX6_readExpr_22 (by decide) ?_
        obtain ⟨z_, g31, L32, hf33, h⟩ := cb_some h
        refine x_callVi (rest := []) li_X6_86 C (rX6_isSignNow_5 l G H.size a fu g L 40 z_ (g31, L32) hf33) (kR rfl) hP hD hS 5 6 rfl (zat (by decide) xs_5) rfl hl.1 rfl (Nat.le_of_ble_eq_true rfl) dX6_readExpr_24 (fun x30 u_ H locs e_ hP hD hS => ?_)
        have e_ : x30 = z_ := e_
        subst e_
        have hP : va_P G.1 vwCl (zw G (XS 2) 105 a g31 L32) H := hP
        have hD : va_D A (zw G (XS 2) 105 a g31 L32) := hD
        refine lv_if_eq (x := x30) (tgt := 35) hx hb dX6_readExpr_27 (by decide) (fun c34 => ?_) (fun c34 => ?_)
        ·
          have h := ite_t c34 h
          exact J35 p1 g31 L32 H locs ls h hP hD hS (lv_sub hl [0, 1] rfl)
        ·
          have h := ite_e c34 h
          exact J30 p1 g31 L32 H locs ls h hP hD hS (lv_sub hl [0, 1] rfl)
set_option maxHeartbeats 4000000 in
set_option maxRecDepth 100000 in
theorem rX6_readPart_5_L2 (l : Launch) (G : kG) (sz : Nat) (a : Nat → Nat) (fu : Nat) (g : Nat → Nat → Int32) (L : Nat → Nat → Int64) (p1 : Int32) (res : Unit) (s9 : zS) (h : fX6_readPart_5 fu (fX6_readExpr_5 fu 1) p1 g L = some (res, s9)) : kM l yX6_readPart cX6_readPart 3 none { frames := 19, cells := 0, slots := 0, locals := 393 } G [.ref (a 5), .int p1] (zw G (XS 2) 105 a g L) sz (kQv G (S := Unit) (fun _ => True) (fun _ => zw G (XS 2) 105 a s9.1 s9.2)) := by
  refine kM.of (by decide) (Nat.le_of_ble_eq_true rfl) ?_
  intro p e s m below meth c A ls H C hr hlk hnm hP hD hS hl
  have C : kC G p s m c cX6_readPart 3 RX6 A := C
  have hx := C.1
  have hb := C.2.1
  have hl : lv_has ls 3 [(0, .ref (a 5)), (1, .int p1)] := hl
  obtain ⟨locs, hlocs⟩ : ∃ q : List Loc, q = [] := ⟨_, rfl⟩
  rw [← hlocs] at hS
  rw [← hlocs]
  unfold fX6_readPart_5 at h
  refine lv_aload_n hx hb dX6_readPart_0 rfl (lv_at hl 0 rfl) ?_
  refine x_getv (v := .int (g 5 4)) (Or.inl fl_X6_50) C hP (by decide) xs_5 rfl dX6_readPart_1 ?_
  refine lv_iconst (v := 1) hx hb dX6_readPart_4 (by decide) ?_
  have J111 : ∀ (g : Nat → Nat → Int32) (L : Nat → Nat → Int64) (H : Heap) (locs : List Loc) (ls : Array Slot), fX6_readPart_5_p111 fu (fX6_readExpr_5 fu 1) g L = some (res, s9) → va_P G.1 vwCl (zw G (XS 2) 105 a g L) H → va_D A (zw G (XS 2) 105 a g L) → va_S A s.heap H locs → lv_has ls 3 [] → W p l e { frames := 19, cells := 0, slots := 0, locals := 393 } s m [.ref (a 5), .int p1].toArray below meth c H locs 0 0 (MQ below ((kQv G (S := Unit) (fun _ => True) (fun _ => zw G (XS 2) 105 a s9.1 s9.2)) A) [.ref (a 5), .int p1].toArray s 0 0 A) (F0 m 111 ls []) := by
    intro g L H locs ls h hP hD hS hl
    unfold fX6_readPart_5_p111 at h
    exact y_vret C hr hlk hP hD hS h (Nat.le_of_ble_eq_true rfl) (Nat.le_of_ble_eq_true rfl) dX6_readPart_111
  refine lv_icmp_ne (x := (g 5 4)) (y := 1) (tgt := 29) hx hb dX6_readPart_5 (by decide) (fun c1 => ?_) (fun c1 => ?_)
  ·
    have h := ite_e c1 h
    refine lv_aload_n hx hb dX6_readPart_29 rfl (lv_at hl 0 rfl) ?_
    refine x_getv (v := .int (g 5 4)) (Or.inl fl_X6_50) C hP (by decide) xs_5 rfl dX6_readPart_30 ?_
    refine lv_iconst (v := 2) hx hb dX6_readPart_33 (by decide) ?_
    refine lv_icmp_ne (x := (g 5 4)) (y := 2) (tgt := 72) hx hb dX6_readPart_34 (by decide) (fun c2 => ?_) (fun c2 => ?_)
    ·
      have h := ite_e c2 h
      refine lv_aload_n hx hb dX6_readPart_72 rfl (lv_at hl 0 rfl) ?_
      refine lv_bipush (v := 40) hx hb dX6_readPart_73 (by decide) ?_
      obtain ⟨z_, g4, L5, hf6, h⟩ := cb_some h
      refine x_callVi (rest := []) li_X6_86 C (rX6_isSignNow_5 l G H.size a fu g L 40 z_ (g4, L5) hf6) (kR rfl) hP hD hS 5 6 rfl (zat (by decide) xs_5) rfl hl.1 rfl (Nat.le_of_ble_eq_true rfl) dX6_readPart_75 (fun x3 u_ H locs e_ hP hD hS => ?_)
      have e_ : x3 = z_ := e_
      subst e_
      have hP : va_P G.1 vwCl (zw G (XS 2) 105 a g4 L5) H := hP
      have hD : va_D A (zw G (XS 2) 105 a g4 L5) := hD
      have J106 : ∀ (g : Nat → Nat → Int32) (L : Nat → Nat → Int64) (H : Heap) (locs : List Loc) (ls : Array Slot), fX6_readPart_5_p106 fu (fX6_readExpr_5 fu 1) g L = some (res, s9) → va_P G.1 vwCl (zw G (XS 2) 105 a g L) H → va_D A (zw G (XS 2) 105 a g L) → va_S A s.heap H locs → lv_has ls 3 [(0, .ref (a 5))] → W p l e { frames := 19, cells := 0, slots := 0, locals := 393 } s m [.ref (a 5), .int p1].toArray below meth c H locs 0 0 (MQ below ((kQv G (S := Unit) (fun _ => True) (fun _ => zw G (XS 2) 105 a s9.1 s9.2)) A) [.ref (a 5), .int p1].toArray s 0 0 A) (F0 m 106 ls []) := by
        intro g L H locs ls h hP hD hS hl
        unfold fX6_readPart_5_p106 at h
        refine lv_aload_n hx hb dX6_readPart_106 rfl (lv_at hl 0 rfl) ?_
        refine lv_iconst (v := 1) hx hb dX6_readPart_107 (by decide) ?_
        obtain ⟨z_, g8, L9, hf10, h⟩ := cb_some h
        refine x_callVv (rest := []) li_X6_78 C (rX6_refuse_5 l G H.size a fu g L 1 z_ (g8, L9) hf10) (kR rfl) hP hD hS 5 6 rfl (zat (by decide) xs_5) rfl hl.1 rfl (Nat.le_of_ble_eq_true rfl) dX6_readPart_108 (fun u_ H locs e_ hP hD hS => ?_)
        have hP : va_P G.1 vwCl (zw G (XS 2) 105 a g8 L9) H := hP
        have hD : va_D A (zw G (XS 2) 105 a g8 L9) := hD
        exact J111 g8 L9 H locs ls h hP hD hS (lv_sub hl [] rfl)
      refine lv_if_eq (x := x3) (tgt := 106) hx hb dX6_readPart_78 (by decide) (fun c11 => ?_) (fun c11 => ?_)
      ·
        have h := ite_t c11 h
        exact J106 g4 L5 H locs ls h hP hD hS (lv_sub hl [0] rfl)
      ·
        have h := ite_e c11 h
        refine lv_iload_n hx hb dX6_readPart_81 rfl (lv_at hl 1 rfl) ?_
        refine lv_iconst (v := 5) hx hb dX6_readPart_82 (by decide) ?_
        refine lv_icmp_gt (x := p1) (y := 5) (tgt := 106) hx hb dX6_readPart_83 (by decide) (fun c12 => ?_) (fun c12 => ?_)
        ·
          have h := ite_t c12 h
          exact J106 g4 L5 H locs ls h hP hD hS (lv_sub hl [0] rfl)
        ·
          have h := ite_e c12 h
          refine lv_aload_n hx hb dX6_readPart_86 rfl (lv_at hl 0 rfl) ?_
          obtain ⟨z_, g14, L15, hf16, h⟩ := cb_some h
          refine x_callVv (rest := []) li_X6_53 C (rX6_advance_5 l G H.size a fu g4 L5 z_ (g14, L15) hf16) (kR rfl) hP hD hS 5 6 rfl (zat (by decide) xs_5) rfl hl.1 rfl (Nat.le_of_ble_eq_true rfl) dX6_readPart_87 (fun u_ H locs e_ hP hD hS => ?_)
          have hP : va_P G.1 vwCl (zw G (XS 2) 105 a g14 L15) H := hP
          have hD : va_D A (zw G (XS 2) 105 a g14 L15) := hD
          refine lv_aload_n hx hb dX6_readPart_90 rfl (lv_at hl 0 rfl) ?_
          refine lv_iload_n hx hb dX6_readPart_91 rfl (lv_at hl 1 rfl) ?_
          refine lv_iconst (v := 1) hx hb dX6_readPart_92 (by decide) ?_
          refine lv_iadd hx hb dX6_readPart_93 ?_
          obtain ⟨z_, g18, L19, hf20, h⟩ := cb_some h
          refine x_callVv (rest := []) li_X6_134 C (rX6_readExpr_5_L1 l G H.size a fu g14 L15 (p1 + 1) z_ (g18, L19) hf20) (kR rfl) hP hD hS 5 6 rfl (zat (by decide) xs_5) rfl hl.1 rfl (Nat.le_of_ble_eq_true rfl) dX6_readPart_94 (fun u_ H locs e_ hP hD hS => ?_)
          have hP : va_P G.1 vwCl (zw G (XS 2) 105 a g18 L19) H := hP
          have hD : va_D A (zw G (XS 2) 105 a g18 L19) := hD
          refine lv_aload_n hx hb dX6_readPart_97 rfl (lv_at hl 0 rfl) ?_
          refine lv_bipush (v := 41) hx hb dX6_readPart_98 (by decide) ?_
          obtain ⟨z_, g22, L23, hf24, h⟩ := cb_some h
          refine x_callVv (rest := []) li_X6_114 C (rX6_readSign_5 l G H.size a fu g18 L19 41 z_ (g22, L23) hf24) (kR rfl) hP hD hS 5 6 rfl (zat (by decide) xs_5) rfl hl.1 rfl (Nat.le_of_ble_eq_true rfl) dX6_readPart_100 (fun u_ H locs e_ hP hD hS => ?_)
          have hP : va_P G.1 vwCl (zw G (XS 2) 105 a g22 L23) H := hP
          have hD : va_D A (zw G (XS 2) 105 a g22 L23) := hD
          refine lv_goto (tgt := 111) hx hb dX6_readPart_103 (by decide) ?_
          exact J111 g22 L23 H locs ls h hP hD hS (lv_sub hl [] rfl)
    ·
      have h := ite_t c2 h
      refine lv_aload_n hx hb dX6_readPart_37 rfl (lv_at hl 0 rfl) ?_
      obtain ⟨z_, g26, L27, hf28, h⟩ := cb_some h
      refine x_callVi (rest := []) li_X6_233 C (rX6_valueNow_5 l G H.size a fu g L z_ (g26, L27) hf28) (kR rfl) hP hD hS 5 6 rfl (zat (by decide) xs_5) rfl hl.1 rfl (Nat.le_of_ble_eq_true rfl) dX6_readPart_38 (fun x25 u_ H locs e_ hP hD hS => ?_)
      have e_ : x25 = z_ := e_
      subst e_
      have hP : va_P G.1 vwCl (zw G (XS 2) 105 a g26 L27) H := hP
      have hD : va_D A (zw G (XS 2) 105 a g26 L27) := hD
      refine lv_istore_n (lv' := [(2, .int x25), (0, .ref (a 5)), (1, .int p1)]) hx hb dX6_readPart_41 rfl hl (by decide) rfl (fun ls hl => ?_)
      refine lv_iload_n hx hb dX6_readPart_42 rfl (lv_at hl 0 rfl) ?_
      refine lv_iconst (v := -1) hx hb dX6_readPart_43 (by decide) ?_
      have J52 : ∀ (v2 : Int32) (g : Nat → Nat → Int32) (L : Nat → Nat → Int64) (H : Heap) (locs : List Loc) (ls : Array Slot), fX6_readPart_5_p52 fu (fX6_readExpr_5 fu 1) v2 g L = some (res, s9) → va_P G.1 vwCl (zw G (XS 2) 105 a g L) H → va_D A (zw G (XS 2) 105 a g L) → va_S A s.heap H locs → lv_has ls 3 [(0, .ref (a 5)), (2, .int v2)] → W p l e { frames := 19, cells := 0, slots := 0, locals := 393 } s m [.ref (a 5), .int p1].toArray below meth c H locs 0 0 (MQ below ((kQv G (S := Unit) (fun _ => True) (fun _ => zw G (XS 2) 105 a s9.1 s9.2)) A) [.ref (a 5), .int p1].toArray s 0 0 A) (F0 m 52 ls []) := by
        intro v2 g L H locs ls h hP hD hS hl
        unfold fX6_readPart_5_p52 at h
        refine lv_aload_n hx hb dX6_readPart_52 rfl (lv_at hl 0 rfl) ?_
        refine x_getr (Or.inl fl_X6_15) C hP (by decide) xs_5 rfl dX6_readPart_53 ?_
        refine x_getr (Or.inr fl_X6_125) C hP (by decide) xs_2 rfl dX6_readPart_56 ?_
        refine lv_iconst (v := -1) hx hb dX6_readPart_59 (by decide) ?_
        refine lv_iload_n hx hb dX6_readPart_60 rfl (lv_at hl 1 rfl) ?_
        refine lv_isub hx hb dX6_readPart_61 ?_
        obtain ⟨z_, g30, L31, hf32, h⟩ := cb_some h
        refine x_callNv (rest := []) li_X6_211 C (rX8_add_4 l G H.size 2 a fu g L ((-1) - v2) z_ (g30, L31) hf32) (kR rfl) hP hD hS 4 8 rfl (zat (by decide) xs_4) rfl hl.1 rfl (Nat.le_of_ble_eq_true rfl) dX6_readPart_62 (fun u_ H locs e_ hP hD hS => ?_)
        have hP : va_P G.1 vwCl (zw G (XS 2) 105 a g30 L31) H := hP
        have hD : va_D A (zw G (XS 2) 105 a g30 L31) := hD
        refine lv_aload_n hx hb dX6_readPart_65 rfl (lv_at hl 0 rfl) ?_
        obtain ⟨z_, g34, L35, hf36, h⟩ := cb_some h
        refine x_callVv (rest := []) li_X6_53 C (rX6_advance_5 l G H.size a fu g30 L31 z_ (g34, L35) hf36) (kR rfl) hP hD hS 5 6 rfl (zat (by decide) xs_5) rfl hl.1 rfl (Nat.le_of_ble_eq_true rfl) dX6_readPart_66 (fun u_ H locs e_ hP hD hS => ?_)
        have hP : va_P G.1 vwCl (zw G (XS 2) 105 a g34 L35) H := hP
        have hD : va_D A (zw G (XS 2) 105 a g34 L35) := hD
        refine lv_goto (tgt := 111) hx hb dX6_readPart_69 (by decide) ?_
        exact J111 g34 L35 H locs ls h hP hD hS (lv_sub hl [] rfl)
      refine lv_icmp_ne (x := x25) (y := (-1)) (tgt := 52) hx hb dX6_readPart_44 (by decide) (fun c37 => ?_) (fun c37 => ?_)
      ·
        have h := ite_e c37 h
        exact J52 x25 g26 L27 H locs ls h hP hD hS (lv_sub hl [1, 0] rfl)
      ·
        have h := ite_t c37 h
        refine lv_aload_n hx hb dX6_readPart_47 rfl (lv_at hl 1 rfl) ?_
        refine lv_iconst (v := 3) hx hb dX6_readPart_48 (by decide) ?_
        obtain ⟨z_, g39, L40, hf41, h⟩ := cb_some h
        refine x_callVv (rest := []) li_X6_78 C (rX6_refuse_5 l G H.size a fu g26 L27 3 z_ (g39, L40) hf41) (kR rfl) hP hD hS 5 6 rfl (zat (by decide) xs_5) rfl hl.1 rfl (Nat.le_of_ble_eq_true rfl) dX6_readPart_49 (fun u_ H locs e_ hP hD hS => ?_)
        have hP : va_P G.1 vwCl (zw G (XS 2) 105 a g39 L40) H := hP
        have hD : va_D A (zw G (XS 2) 105 a g39 L40) := hD
        exact J52 x25 g39 L40 H locs ls h hP hD hS (lv_sub hl [1, 0] rfl)
  ·
    have h := ite_t c1 h
    refine lv_aload_n hx hb dX6_readPart_8 rfl (lv_at hl 0 rfl) ?_
    refine x_getr (Or.inl fl_X6_15) C hP (by decide) xs_5 rfl dX6_readPart_9 ?_
    refine x_getr (Or.inr fl_X6_125) C hP (by decide) xs_2 rfl dX6_readPart_12 ?_
    refine lv_aload_n hx hb dX6_readPart_15 rfl (lv_at hl 0 rfl) ?_
    refine lv_iconst (v := 0) hx hb dX6_readPart_16 (by decide) ?_
    refine lv_sipush (v := 9999) hx hb dX6_readPart_17 (by decide) ?_
    obtain ⟨z_, g43, L44, hf45, h⟩ := cb_some h
    refine x_callVi (rest := [.ref (a 4)]) li_X6_118 C (rX6_readNumber_5 l G H.size a fu g L 0 9999 z_ (g43, L44) hf45) (kR rfl) hP hD hS 5 6 rfl (zat (by decide) xs_5) rfl hl.1 rfl (Nat.le_of_ble_eq_true rfl) dX6_readPart_20 (fun x42 u_ H locs e_ hP hD hS => ?_)
    have e_ : x42 = z_ := e_
    subst e_
    have hP : va_P G.1 vwCl (zw G (XS 2) 105 a g43 L44) H := hP
    have hD : va_D A (zw G (XS 2) 105 a g43 L44) := hD
    obtain ⟨z_, g47, L48, hf49, h⟩ := cb_some h
    refine x_callNv (rest := []) li_X6_211 C (rX8_add_4 l G H.size 2 a fu g43 L44 x42 z_ (g47, L48) hf49) (kR rfl) hP hD hS 4 8 rfl (zat (by decide) xs_4) rfl hl.1 rfl (Nat.le_of_ble_eq_true rfl) dX6_readPart_23 (fun u_ H locs e_ hP hD hS => ?_)
    have hP : va_P G.1 vwCl (zw G (XS 2) 105 a g47 L48) H := hP
    have hD : va_D A (zw G (XS 2) 105 a g47 L48) := hD
    refine lv_goto (tgt := 111) hx hb dX6_readPart_26 (by decide) ?_
    exact J111 g47 L48 H locs ls h hP hD hS (lv_sub hl [] rfl)
set_option maxHeartbeats 4000000 in
set_option maxRecDepth 100000 in
theorem rX6_readProduct_5_L2 (l : Launch) (G : kG) (sz : Nat) (a : Nat → Nat) (fu : Nat) (g : Nat → Nat → Int32) (L : Nat → Nat → Int64) (p1 : Int32) (res : Unit) (s9 : zS) (h : fX6_readProduct_5 fu (fX6_readExpr_5 fu 1) p1 g L = some (res, s9)) : kM l yX6_readProduct cX6_readProduct 4 none { frames := 20, cells := 0, slots := 0, locals := 415 } G [.ref (a 5), .int p1] (zw G (XS 2) 105 a g L) sz (kQv G (S := Unit) (fun _ => True) (fun _ => zw G (XS 2) 105 a s9.1 s9.2)) := by
  refine kM.of (by decide) (Nat.le_of_ble_eq_true rfl) ?_
  intro p e s m below meth c A ls H C hr hlk hnm hP hD hS hl
  have C : kC G p s m c cX6_readProduct 4 RX6 A := C
  have hx := C.1
  have hb := C.2.1
  have hl : lv_has ls 4 [(0, .ref (a 5)), (1, .int p1)] := hl
  obtain ⟨locs, hlocs⟩ : ∃ q : List Loc, q = [] := ⟨_, rfl⟩
  rw [← hlocs] at hS
  rw [← hlocs]
  unfold fX6_readProduct_5 at h
  refine lv_aload_n hx hb dX6_readProduct_0 rfl (lv_at hl 0 rfl) ?_
  refine lv_iload_n hx hb dX6_readProduct_1 rfl (lv_at hl 1 rfl) ?_
  obtain ⟨z_, g2, L3, hf4, h⟩ := cb_some h
  refine x_callVv (rest := []) li_X6_230 C (rX6_readPart_5_L2 l G H.size a fu g L p1 z_ (g2, L3) hf4) (kR rfl) hP hD hS 5 6 rfl (zat (by decide) xs_5) rfl hl.1 rfl (Nat.le_of_ble_eq_true rfl) dX6_readProduct_2 (fun u_ H locs e_ hP hD hS => ?_)
  have hP : va_P G.1 vwCl (zw G (XS 2) 105 a g2 L3) H := hP
  have hD : va_D A (zw G (XS 2) 105 a g2 L3) := hD
  refine lv_iconst (v := 0) hx hb dX6_readProduct_5 (by decide) ?_
  refine lv_istore_n (lv' := [(2, .int 0), (0, .ref (a 5)), (1, .int p1)]) hx hb dX6_readProduct_6 rfl hl (by decide) rfl (fun ls hl => ?_)
  have lp7 : ∀ (v1 : Int32), ∀ (n : Nat) (v : Int32 × (Nat → Nat → Int32) × (Nat → Nat → Int64)), whileK (fun k v => fX6_readProduct_5_s7 fu (fX6_readExpr_5 fu 1) v1 k v.1 v.2.1 v.2.2) n v = some (res, s9) → ∀ (H : Heap) (locs : List Loc) (ls : Array Slot), va_P G.1 vwCl (zw G (XS 2) 105 a (v.2.1) (v.2.2)) H → va_D A (zw G (XS 2) 105 a (v.2.1) (v.2.2)) → va_S A s.heap H locs → lv_has ls 4 [(0, .ref (a 5)), (1, .int v1), (2, .int (v.1))] → W p l e { frames := 20, cells := 0, slots := 0, locals := 415 } s m [.ref (a 5), .int p1].toArray below meth c H locs 0 0 (MQ below ((kQv G (S := Unit) (fun _ => True) (fun _ => zw G (XS 2) 105 a s9.1 s9.2)) A) [.ref (a 5), .int p1].toArray s 0 0 A) (F0 m 7 ls []) := by
    intro v1
    refine while_ind (fun k7 ih7 v h => ?_)
    obtain ⟨v2, g, L⟩ := v
    intro H locs ls hP hD hS hl
    have h : fX6_readProduct_5_s7 fu (fX6_readExpr_5 fu 1) v1 k7 v2 g L = some (res, s9) := h
    have hP : va_P G.1 vwCl (zw G (XS 2) 105 a g L) H := hP
    have hD : va_D A (zw G (XS 2) 105 a g L) := hD
    have hl : lv_has ls 4 [(0, .ref (a 5)), (1, .int v1), (2, .int v2)] := hl
    show W p l e { frames := 20, cells := 0, slots := 0, locals := 415 } s m [.ref (a 5), .int p1].toArray below meth c H locs 0 0 (MQ below ((kQv G (S := Unit) (fun _ => True) (fun _ => zw G (XS 2) 105 a s9.1 s9.2)) A) [.ref (a 5), .int p1].toArray s 0 0 A) (F0 m 7 ls [])
    unfold fX6_readProduct_5_s7 at h
    refine lv_iload_n hx hb dX6_readProduct_7 rfl (lv_at hl 2 rfl) ?_
    refine lv_sipush (v := 700) hx hb dX6_readProduct_8 (by decide) ?_
    have J75 : ∀ (g : Nat → Nat → Int32) (L : Nat → Nat → Int64) (H : Heap) (locs : List Loc) (ls : Array Slot), fX6_readProduct_5_p75 fu (fX6_readExpr_5 fu 1) g L = some (res, s9) → va_P G.1 vwCl (zw G (XS 2) 105 a g L) H → va_D A (zw G (XS 2) 105 a g L) → va_S A s.heap H locs → lv_has ls 4 [] → W p l e { frames := 20, cells := 0, slots := 0, locals := 415 } s m [.ref (a 5), .int p1].toArray below meth c H locs 0 0 (MQ below ((kQv G (S := Unit) (fun _ => True) (fun _ => zw G (XS 2) 105 a s9.1 s9.2)) A) [.ref (a 5), .int p1].toArray s 0 0 A) (F0 m 75 ls []) := by
      intro g L H locs ls h hP hD hS hl
      unfold fX6_readProduct_5_p75 at h
      exact y_vret C hr hlk hP hD hS h (Nat.le_of_ble_eq_true rfl) (Nat.le_of_ble_eq_true rfl) dX6_readProduct_75
    refine lv_icmp_ge (x := v2) (y := 700) (tgt := 75) hx hb dX6_readProduct_11 (by decide) (fun c5 => ?_) (fun c5 => ?_)
    ·
      have h := ite_t c5 h
      exact J75 g L H locs ls h hP hD hS (lv_sub hl [] rfl)
    ·
      have h := ite_e c5 h
      refine lv_aload_n hx hb dX6_readProduct_14 rfl (lv_at hl 0 rfl) ?_
      refine lv_bipush (v := 42) hx hb dX6_readProduct_15 (by decide) ?_
      obtain ⟨z_, g7, L8, hf9, h⟩ := cb_some h
      refine x_callVi (rest := []) li_X6_86 C (rX6_isSignNow_5 l G H.size a fu g L 42 z_ (g7, L8) hf9) (kR rfl) hP hD hS 5 6 rfl (zat (by decide) xs_5) rfl hl.1 rfl (Nat.le_of_ble_eq_true rfl) dX6_readProduct_17 (fun x6 u_ H locs e_ hP hD hS => ?_)
      have e_ : x6 = z_ := e_
      subst e_
      have hP : va_P G.1 vwCl (zw G (XS 2) 105 a g7 L8) H := hP
      have hD : va_D A (zw G (XS 2) 105 a g7 L8) := hD
      have J32 : ∀ (v2 : Int32) (g : Nat → Nat → Int32) (L : Nat → Nat → Int64) (H : Heap) (locs : List Loc) (ls : Array Slot), fX6_readProduct_5_p32 fu (fX6_readExpr_5 fu 1) k7 v1 v2 g L = some (res, s9) → va_P G.1 vwCl (zw G (XS 2) 105 a g L) H → va_D A (zw G (XS 2) 105 a g L) → va_S A s.heap H locs → lv_has ls 4 [(0, .ref (a 5)), (1, .int v1), (2, .int v2)] → W p l e { frames := 20, cells := 0, slots := 0, locals := 415 } s m [.ref (a 5), .int p1].toArray below meth c H locs 0 0 (MQ below ((kQv G (S := Unit) (fun _ => True) (fun _ => zw G (XS 2) 105 a s9.1 s9.2)) A) [.ref (a 5), .int p1].toArray s 0 0 A) (F0 m 32 ls []) := by
        intro v2 g L H locs ls h hP hD hS hl
        unfold fX6_readProduct_5_p32 at h
        refine lv_aload_n hx hb dX6_readProduct_32 rfl (lv_at hl 0 rfl) ?_
        refine lv_bipush (v := 42) hx hb dX6_readProduct_33 (by decide) ?_
        obtain ⟨z_, g11, L12, hf13, h⟩ := cb_some h
        refine x_callVi (rest := []) li_X6_86 C (rX6_isSignNow_5 l G H.size a fu g L 42 z_ (g11, L12) hf13) (kR rfl) hP hD hS 5 6 rfl (zat (by decide) xs_5) rfl hl.1 rfl (Nat.le_of_ble_eq_true rfl) dX6_readProduct_35 (fun x10 u_ H locs e_ hP hD hS => ?_)
        have e_ : x10 = z_ := e_
        subst e_
        have hP : va_P G.1 vwCl (zw G (XS 2) 105 a g11 L12) H := hP
        have hD : va_D A (zw G (XS 2) 105 a g11 L12) := hD
        have J48 : ∀ (v2 : Int32) (t0 : Int32) (g : Nat → Nat → Int32) (L : Nat → Nat → Int64) (H : Heap) (locs : List Loc) (ls : Array Slot), fX6_readProduct_5_p48 fu (fX6_readExpr_5 fu 1) k7 v1 v2 t0 g L = some (res, s9) → va_P G.1 vwCl (zw G (XS 2) 105 a g L) H → va_D A (zw G (XS 2) 105 a g L) → va_S A s.heap H locs → lv_has ls 4 [(0, .ref (a 5)), (1, .int v1), (2, .int v2)] → W p l e { frames := 20, cells := 0, slots := 0, locals := 415 } s m [.ref (a 5), .int p1].toArray below meth c H locs 0 0 (MQ below ((kQv G (S := Unit) (fun _ => True) (fun _ => zw G (XS 2) 105 a s9.1 s9.2)) A) [.ref (a 5), .int p1].toArray s 0 0 A) (F0 m 48 ls [.int t0]) := by
          intro v2 t0 g L H locs ls h hP hD hS hl
          unfold fX6_readProduct_5_p48 at h
          refine lv_istore_n (lv' := [(3, .int t0), (0, .ref (a 5)), (1, .int v1), (2, .int v2)]) hx hb dX6_readProduct_48 rfl hl (by decide) rfl (fun ls hl => ?_)
          refine lv_aload_n hx hb dX6_readProduct_49 rfl (lv_at hl 1 rfl) ?_
          obtain ⟨z_, g15, L16, hf17, h⟩ := cb_some h
          refine x_callVv (rest := []) li_X6_53 C (rX6_advance_5 l G H.size a fu g L z_ (g15, L16) hf17) (kR rfl) hP hD hS 5 6 rfl (zat (by decide) xs_5) rfl hl.1 rfl (Nat.le_of_ble_eq_true rfl) dX6_readProduct_50 (fun u_ H locs e_ hP hD hS => ?_)
          have hP : va_P G.1 vwCl (zw G (XS 2) 105 a g15 L16) H := hP
          have hD : va_D A (zw G (XS 2) 105 a g15 L16) := hD
          refine lv_aload_n hx hb dX6_readProduct_53 rfl (lv_at hl 1 rfl) ?_
          refine lv_iload_n hx hb dX6_readProduct_54 rfl (lv_at hl 2 rfl) ?_
          obtain ⟨z_, g19, L20, hf21, h⟩ := cb_some h
          refine x_callVv (rest := []) li_X6_230 C (rX6_readPart_5_L2 l G H.size a fu g15 L16 v1 z_ (g19, L20) hf21) (kR rfl) hP hD hS 5 6 rfl (zat (by decide) xs_5) rfl hl.1 rfl (Nat.le_of_ble_eq_true rfl) dX6_readProduct_55 (fun u_ H locs e_ hP hD hS => ?_)
          have hP : va_P G.1 vwCl (zw G (XS 2) 105 a g19 L20) H := hP
          have hD : va_D A (zw G (XS 2) 105 a g19 L20) := hD
          refine lv_aload_n hx hb dX6_readProduct_58 rfl (lv_at hl 1 rfl) ?_
          refine x_getr (Or.inl fl_X6_15) C hP (by decide) xs_5 rfl dX6_readProduct_59 ?_
          refine x_getr (Or.inr fl_X6_125) C hP (by decide) xs_2 rfl dX6_readProduct_62 ?_
          refine lv_iload_n hx hb dX6_readProduct_65 rfl (lv_at hl 0 rfl) ?_
          obtain ⟨z_, g23, L24, hf25, h⟩ := cb_some h
          refine x_callNv (rest := []) li_X6_211 C (rX8_add_4 l G H.size 2 a fu g19 L20 t0 z_ (g23, L24) hf25) (kR rfl) hP hD hS 4 8 rfl (zat (by decide) xs_4) rfl hl.1 rfl (Nat.le_of_ble_eq_true rfl) dX6_readProduct_66 (fun u_ H locs e_ hP hD hS => ?_)
          have hP : va_P G.1 vwCl (zw G (XS 2) 105 a g23 L24) H := hP
          have hD : va_D A (zw G (XS 2) 105 a g23 L24) := hD
          refine lv_iinc (v := (v2 + 1)) (lv' := [(2, .int (v2 + 1)), (3, .int t0), (0, .ref (a 5)), (1, .int v1)]) hx hb dX6_readProduct_69 hl (k := 3) rfl rfl (by decide) rfl (fun ls hl => ?_)
          refine lv_goto (tgt := 7) hx hb dX6_readProduct_72 (by decide) ?_
          exact ih7 ((v2 + 1), g23, L24) h H locs ls hP hD hS (lv_sub hl [2, 3, 0] rfl)
        refine lv_if_eq (x := x10) (tgt := 46) hx hb dX6_readProduct_38 (by decide) (fun c26 => ?_) (fun c26 => ?_)
        ·
          have h := ite_t c26 h
          refine lv_bipush (v := -10) hx hb dX6_readProduct_46 (by decide) ?_
          exact J48 v2 (-10) g11 L12 H locs ls h hP hD hS (lv_sub hl [0, 1, 2] rfl)
        ·
          have h := ite_e c26 h
          refine lv_bipush (v := -9) hx hb dX6_readProduct_41 (by decide) ?_
          refine lv_goto (tgt := 48) hx hb dX6_readProduct_43 (by decide) ?_
          exact J48 v2 (-9) g11 L12 H locs ls h hP hD hS (lv_sub hl [0, 1, 2] rfl)
      refine lv_if_ne (x := x6) (tgt := 32) hx hb dX6_readProduct_20 (by decide) (fun c27 => ?_) (fun c27 => ?_)
      ·
        have h := ite_e c27 h
        exact J32 v2 g7 L8 H locs ls h hP hD hS (lv_sub hl [0, 1, 2] rfl)
      ·
        have h := ite_t c27 h
        refine lv_aload_n hx hb dX6_readProduct_23 rfl (lv_at hl 0 rfl) ?_
        refine lv_bipush (v := 47) hx hb dX6_readProduct_24 (by decide) ?_
        obtain ⟨z_, g29, L30, hf31, h⟩ := cb_some h
        refine x_callVi (rest := []) li_X6_86 C (rX6_isSignNow_5 l G H.size a fu g7 L8 47 z_ (g29, L30) hf31) (kR rfl) hP hD hS 5 6 rfl (zat (by decide) xs_5) rfl hl.1 rfl (Nat.le_of_ble_eq_true rfl) dX6_readProduct_26 (fun x28 u_ H locs e_ hP hD hS => ?_)
        have e_ : x28 = z_ := e_
        subst e_
        have hP : va_P G.1 vwCl (zw G (XS 2) 105 a g29 L30) H := hP
        have hD : va_D A (zw G (XS 2) 105 a g29 L30) := hD
        refine lv_if_eq (x := x28) (tgt := 75) hx hb dX6_readProduct_29 (by decide) (fun c32 => ?_) (fun c32 => ?_)
        ·
          have h := ite_t c32 h
          exact J75 g29 L30 H locs ls h hP hD hS (lv_sub hl [] rfl)
        ·
          have h := ite_e c32 h
          exact J32 v2 g29 L30 H locs ls h hP hD hS (lv_sub hl [0, 1, 2] rfl)
  exact lp7 p1 fu (0, g2, L3) h H locs ls hP hD hS (lv_sub hl [1, 2, 0] rfl)
set_option maxHeartbeats 4000000 in
set_option maxRecDepth 100000 in
theorem rX6_readSum_5_L2 (l : Launch) (G : kG) (sz : Nat) (a : Nat → Nat) (fu : Nat) (g : Nat → Nat → Int32) (L : Nat → Nat → Int64) (p1 : Int32) (res : Unit) (s9 : zS) (h : fX6_readSum_5 fu (fX6_readExpr_5 fu 1) p1 g L = some (res, s9)) : kM l yX6_readSum cX6_readSum 4 none { frames := 21, cells := 0, slots := 0, locals := 438 } G [.ref (a 5), .int p1] (zw G (XS 2) 105 a g L) sz (kQv G (S := Unit) (fun _ => True) (fun _ => zw G (XS 2) 105 a s9.1 s9.2)) := by
  refine kM.of (by decide) (Nat.le_of_ble_eq_true rfl) ?_
  intro p e s m below meth c A ls H C hr hlk hnm hP hD hS hl
  have C : kC G p s m c cX6_readSum 4 RX6 A := C
  have hx := C.1
  have hb := C.2.1
  have hl : lv_has ls 4 [(0, .ref (a 5)), (1, .int p1)] := hl
  obtain ⟨locs, hlocs⟩ : ∃ q : List Loc, q = [] := ⟨_, rfl⟩
  rw [← hlocs] at hS
  rw [← hlocs]
  unfold fX6_readSum_5 at h
  refine lv_aload_n hx hb dX6_readSum_0 rfl (lv_at hl 0 rfl) ?_
  refine lv_iload_n hx hb dX6_readSum_1 rfl (lv_at hl 1 rfl) ?_
  obtain ⟨z_, g2, L3, hf4, h⟩ := cb_some h
  refine x_callVv (rest := []) li_X6_227 C (rX6_readProduct_5_L2 l G H.size a fu g L p1 z_ (g2, L3) hf4) (kR rfl) hP hD hS 5 6 rfl (zat (by decide) xs_5) rfl hl.1 rfl (Nat.le_of_ble_eq_true rfl) dX6_readSum_2 (fun u_ H locs e_ hP hD hS => ?_)
  have hP : va_P G.1 vwCl (zw G (XS 2) 105 a g2 L3) H := hP
  have hD : va_D A (zw G (XS 2) 105 a g2 L3) := hD
  refine lv_iconst (v := 0) hx hb dX6_readSum_5 (by decide) ?_
  refine lv_istore_n (lv' := [(2, .int 0), (0, .ref (a 5)), (1, .int p1)]) hx hb dX6_readSum_6 rfl hl (by decide) rfl (fun ls hl => ?_)
  have lp7 : ∀ (v1 : Int32), ∀ (n : Nat) (v : Int32 × (Nat → Nat → Int32) × (Nat → Nat → Int64)), whileK (fun k v => fX6_readSum_5_s7 fu (fX6_readExpr_5 fu 1) v1 k v.1 v.2.1 v.2.2) n v = some (res, s9) → ∀ (H : Heap) (locs : List Loc) (ls : Array Slot), va_P G.1 vwCl (zw G (XS 2) 105 a (v.2.1) (v.2.2)) H → va_D A (zw G (XS 2) 105 a (v.2.1) (v.2.2)) → va_S A s.heap H locs → lv_has ls 4 [(0, .ref (a 5)), (1, .int v1), (2, .int (v.1))] → W p l e { frames := 21, cells := 0, slots := 0, locals := 438 } s m [.ref (a 5), .int p1].toArray below meth c H locs 0 0 (MQ below ((kQv G (S := Unit) (fun _ => True) (fun _ => zw G (XS 2) 105 a s9.1 s9.2)) A) [.ref (a 5), .int p1].toArray s 0 0 A) (F0 m 7 ls []) := by
    intro v1
    refine while_ind (fun k7 ih7 v h => ?_)
    obtain ⟨v2, g, L⟩ := v
    intro H locs ls hP hD hS hl
    have h : fX6_readSum_5_s7 fu (fX6_readExpr_5 fu 1) v1 k7 v2 g L = some (res, s9) := h
    have hP : va_P G.1 vwCl (zw G (XS 2) 105 a g L) H := hP
    have hD : va_D A (zw G (XS 2) 105 a g L) := hD
    have hl : lv_has ls 4 [(0, .ref (a 5)), (1, .int v1), (2, .int v2)] := hl
    show W p l e { frames := 21, cells := 0, slots := 0, locals := 438 } s m [.ref (a 5), .int p1].toArray below meth c H locs 0 0 (MQ below ((kQv G (S := Unit) (fun _ => True) (fun _ => zw G (XS 2) 105 a s9.1 s9.2)) A) [.ref (a 5), .int p1].toArray s 0 0 A) (F0 m 7 ls [])
    unfold fX6_readSum_5_s7 at h
    refine lv_iload_n hx hb dX6_readSum_7 rfl (lv_at hl 2 rfl) ?_
    refine lv_sipush (v := 700) hx hb dX6_readSum_8 (by decide) ?_
    have J75 : ∀ (g : Nat → Nat → Int32) (L : Nat → Nat → Int64) (H : Heap) (locs : List Loc) (ls : Array Slot), fX6_readSum_5_p75 fu (fX6_readExpr_5 fu 1) g L = some (res, s9) → va_P G.1 vwCl (zw G (XS 2) 105 a g L) H → va_D A (zw G (XS 2) 105 a g L) → va_S A s.heap H locs → lv_has ls 4 [] → W p l e { frames := 21, cells := 0, slots := 0, locals := 438 } s m [.ref (a 5), .int p1].toArray below meth c H locs 0 0 (MQ below ((kQv G (S := Unit) (fun _ => True) (fun _ => zw G (XS 2) 105 a s9.1 s9.2)) A) [.ref (a 5), .int p1].toArray s 0 0 A) (F0 m 75 ls []) := by
      intro g L H locs ls h hP hD hS hl
      unfold fX6_readSum_5_p75 at h
      exact y_vret C hr hlk hP hD hS h (Nat.le_of_ble_eq_true rfl) (Nat.le_of_ble_eq_true rfl) dX6_readSum_75
    refine lv_icmp_ge (x := v2) (y := 700) (tgt := 75) hx hb dX6_readSum_11 (by decide) (fun c5 => ?_) (fun c5 => ?_)
    ·
      have h := ite_t c5 h
      exact J75 g L H locs ls h hP hD hS (lv_sub hl [] rfl)
    ·
      have h := ite_e c5 h
      refine lv_aload_n hx hb dX6_readSum_14 rfl (lv_at hl 0 rfl) ?_
      refine lv_bipush (v := 43) hx hb dX6_readSum_15 (by decide) ?_
      obtain ⟨z_, g7, L8, hf9, h⟩ := cb_some h
      refine x_callVi (rest := []) li_X6_86 C (rX6_isSignNow_5 l G H.size a fu g L 43 z_ (g7, L8) hf9) (kR rfl) hP hD hS 5 6 rfl (zat (by decide) xs_5) rfl hl.1 rfl (Nat.le_of_ble_eq_true rfl) dX6_readSum_17 (fun x6 u_ H locs e_ hP hD hS => ?_)
      have e_ : x6 = z_ := e_
      subst e_
      have hP : va_P G.1 vwCl (zw G (XS 2) 105 a g7 L8) H := hP
      have hD : va_D A (zw G (XS 2) 105 a g7 L8) := hD
      have J32 : ∀ (v2 : Int32) (g : Nat → Nat → Int32) (L : Nat → Nat → Int64) (H : Heap) (locs : List Loc) (ls : Array Slot), fX6_readSum_5_p32 fu (fX6_readExpr_5 fu 1) k7 v1 v2 g L = some (res, s9) → va_P G.1 vwCl (zw G (XS 2) 105 a g L) H → va_D A (zw G (XS 2) 105 a g L) → va_S A s.heap H locs → lv_has ls 4 [(0, .ref (a 5)), (1, .int v1), (2, .int v2)] → W p l e { frames := 21, cells := 0, slots := 0, locals := 438 } s m [.ref (a 5), .int p1].toArray below meth c H locs 0 0 (MQ below ((kQv G (S := Unit) (fun _ => True) (fun _ => zw G (XS 2) 105 a s9.1 s9.2)) A) [.ref (a 5), .int p1].toArray s 0 0 A) (F0 m 32 ls []) := by
        intro v2 g L H locs ls h hP hD hS hl
        unfold fX6_readSum_5_p32 at h
        refine lv_aload_n hx hb dX6_readSum_32 rfl (lv_at hl 0 rfl) ?_
        refine lv_bipush (v := 43) hx hb dX6_readSum_33 (by decide) ?_
        obtain ⟨z_, g11, L12, hf13, h⟩ := cb_some h
        refine x_callVi (rest := []) li_X6_86 C (rX6_isSignNow_5 l G H.size a fu g L 43 z_ (g11, L12) hf13) (kR rfl) hP hD hS 5 6 rfl (zat (by decide) xs_5) rfl hl.1 rfl (Nat.le_of_ble_eq_true rfl) dX6_readSum_35 (fun x10 u_ H locs e_ hP hD hS => ?_)
        have e_ : x10 = z_ := e_
        subst e_
        have hP : va_P G.1 vwCl (zw G (XS 2) 105 a g11 L12) H := hP
        have hD : va_D A (zw G (XS 2) 105 a g11 L12) := hD
        have J48 : ∀ (v2 : Int32) (t0 : Int32) (g : Nat → Nat → Int32) (L : Nat → Nat → Int64) (H : Heap) (locs : List Loc) (ls : Array Slot), fX6_readSum_5_p48 fu (fX6_readExpr_5 fu 1) k7 v1 v2 t0 g L = some (res, s9) → va_P G.1 vwCl (zw G (XS 2) 105 a g L) H → va_D A (zw G (XS 2) 105 a g L) → va_S A s.heap H locs → lv_has ls 4 [(0, .ref (a 5)), (1, .int v1), (2, .int v2)] → W p l e { frames := 21, cells := 0, slots := 0, locals := 438 } s m [.ref (a 5), .int p1].toArray below meth c H locs 0 0 (MQ below ((kQv G (S := Unit) (fun _ => True) (fun _ => zw G (XS 2) 105 a s9.1 s9.2)) A) [.ref (a 5), .int p1].toArray s 0 0 A) (F0 m 48 ls [.int t0]) := by
          intro v2 t0 g L H locs ls h hP hD hS hl
          unfold fX6_readSum_5_p48 at h
          refine lv_istore_n (lv' := [(3, .int t0), (0, .ref (a 5)), (1, .int v1), (2, .int v2)]) hx hb dX6_readSum_48 rfl hl (by decide) rfl (fun ls hl => ?_)
          refine lv_aload_n hx hb dX6_readSum_49 rfl (lv_at hl 1 rfl) ?_
          obtain ⟨z_, g15, L16, hf17, h⟩ := cb_some h
          refine x_callVv (rest := []) li_X6_53 C (rX6_advance_5 l G H.size a fu g L z_ (g15, L16) hf17) (kR rfl) hP hD hS 5 6 rfl (zat (by decide) xs_5) rfl hl.1 rfl (Nat.le_of_ble_eq_true rfl) dX6_readSum_50 (fun u_ H locs e_ hP hD hS => ?_)
          have hP : va_P G.1 vwCl (zw G (XS 2) 105 a g15 L16) H := hP
          have hD : va_D A (zw G (XS 2) 105 a g15 L16) := hD
          refine lv_aload_n hx hb dX6_readSum_53 rfl (lv_at hl 1 rfl) ?_
          refine lv_iload_n hx hb dX6_readSum_54 rfl (lv_at hl 2 rfl) ?_
          obtain ⟨z_, g19, L20, hf21, h⟩ := cb_some h
          refine x_callVv (rest := []) li_X6_227 C (rX6_readProduct_5_L2 l G H.size a fu g15 L16 v1 z_ (g19, L20) hf21) (kR rfl) hP hD hS 5 6 rfl (zat (by decide) xs_5) rfl hl.1 rfl (Nat.le_of_ble_eq_true rfl) dX6_readSum_55 (fun u_ H locs e_ hP hD hS => ?_)
          have hP : va_P G.1 vwCl (zw G (XS 2) 105 a g19 L20) H := hP
          have hD : va_D A (zw G (XS 2) 105 a g19 L20) := hD
          refine lv_aload_n hx hb dX6_readSum_58 rfl (lv_at hl 1 rfl) ?_
          refine x_getr (Or.inl fl_X6_15) C hP (by decide) xs_5 rfl dX6_readSum_59 ?_
          refine x_getr (Or.inr fl_X6_125) C hP (by decide) xs_2 rfl dX6_readSum_62 ?_
          refine lv_iload_n hx hb dX6_readSum_65 rfl (lv_at hl 0 rfl) ?_
          obtain ⟨z_, g23, L24, hf25, h⟩ := cb_some h
          refine x_callNv (rest := []) li_X6_211 C (rX8_add_4 l G H.size 2 a fu g19 L20 t0 z_ (g23, L24) hf25) (kR rfl) hP hD hS 4 8 rfl (zat (by decide) xs_4) rfl hl.1 rfl (Nat.le_of_ble_eq_true rfl) dX6_readSum_66 (fun u_ H locs e_ hP hD hS => ?_)
          have hP : va_P G.1 vwCl (zw G (XS 2) 105 a g23 L24) H := hP
          have hD : va_D A (zw G (XS 2) 105 a g23 L24) := hD
          refine lv_iinc (v := (v2 + 1)) (lv' := [(2, .int (v2 + 1)), (3, .int t0), (0, .ref (a 5)), (1, .int v1)]) hx hb dX6_readSum_69 hl (k := 3) rfl rfl (by decide) rfl (fun ls hl => ?_)
          refine lv_goto (tgt := 7) hx hb dX6_readSum_72 (by decide) ?_
          exact ih7 ((v2 + 1), g23, L24) h H locs ls hP hD hS (lv_sub hl [2, 3, 0] rfl)
        refine lv_if_eq (x := x10) (tgt := 46) hx hb dX6_readSum_38 (by decide) (fun c26 => ?_) (fun c26 => ?_)
        ·
          have h := ite_t c26 h
          refine lv_bipush (v := -8) hx hb dX6_readSum_46 (by decide) ?_
          exact J48 v2 (-8) g11 L12 H locs ls h hP hD hS (lv_sub hl [0, 1, 2] rfl)
        ·
          have h := ite_e c26 h
          refine lv_bipush (v := -7) hx hb dX6_readSum_41 (by decide) ?_
          refine lv_goto (tgt := 48) hx hb dX6_readSum_43 (by decide) ?_
          exact J48 v2 (-7) g11 L12 H locs ls h hP hD hS (lv_sub hl [0, 1, 2] rfl)
      refine lv_if_ne (x := x6) (tgt := 32) hx hb dX6_readSum_20 (by decide) (fun c27 => ?_) (fun c27 => ?_)
      ·
        have h := ite_e c27 h
        exact J32 v2 g7 L8 H locs ls h hP hD hS (lv_sub hl [0, 1, 2] rfl)
      ·
        have h := ite_t c27 h
        refine lv_aload_n hx hb dX6_readSum_23 rfl (lv_at hl 0 rfl) ?_
        refine lv_bipush (v := 45) hx hb dX6_readSum_24 (by decide) ?_
        obtain ⟨z_, g29, L30, hf31, h⟩ := cb_some h
        refine x_callVi (rest := []) li_X6_86 C (rX6_isSignNow_5 l G H.size a fu g7 L8 45 z_ (g29, L30) hf31) (kR rfl) hP hD hS 5 6 rfl (zat (by decide) xs_5) rfl hl.1 rfl (Nat.le_of_ble_eq_true rfl) dX6_readSum_26 (fun x28 u_ H locs e_ hP hD hS => ?_)
        have e_ : x28 = z_ := e_
        subst e_
        have hP : va_P G.1 vwCl (zw G (XS 2) 105 a g29 L30) H := hP
        have hD : va_D A (zw G (XS 2) 105 a g29 L30) := hD
        refine lv_if_eq (x := x28) (tgt := 75) hx hb dX6_readSum_29 (by decide) (fun c32 => ?_) (fun c32 => ?_)
        ·
          have h := ite_t c32 h
          exact J75 g29 L30 H locs ls h hP hD hS (lv_sub hl [] rfl)
        ·
          have h := ite_e c32 h
          exact J32 v2 g29 L30 H locs ls h hP hD hS (lv_sub hl [0, 1, 2] rfl)
  exact lp7 p1 fu (0, g2, L3) h H locs ls hP hD hS (lv_sub hl [1, 2, 0] rfl)
set_option maxHeartbeats 4000000 in
set_option maxRecDepth 100000 in
theorem rX6_readTest_5_L2 (l : Launch) (G : kG) (sz : Nat) (a : Nat → Nat) (fu : Nat) (g : Nat → Nat → Int32) (L : Nat → Nat → Int64) (p1 : Int32) (res : Unit) (s9 : zS) (h : fX6_readTest_5 fu (fX6_readExpr_5 fu 1) p1 g L = some (res, s9)) : kM l yX6_readTest cX6_readTest 2 none { frames := 22, cells := 0, slots := 0, locals := 461 } G [.ref (a 5), .int p1] (zw G (XS 2) 105 a g L) sz (kQv G (S := Unit) (fun _ => True) (fun _ => zw G (XS 2) 105 a s9.1 s9.2)) := by
  refine kM.of (by decide) (Nat.le_of_ble_eq_true rfl) ?_
  intro p e s m below meth c A ls H C hr hlk hnm hP hD hS hl
  have C : kC G p s m c cX6_readTest 2 RX6 A := C
  have hx := C.1
  have hb := C.2.1
  have hl : lv_has ls 2 [(0, .ref (a 5)), (1, .int p1)] := hl
  obtain ⟨locs, hlocs⟩ : ∃ q : List Loc, q = [] := ⟨_, rfl⟩
  rw [← hlocs] at hS
  rw [← hlocs]
  unfold fX6_readTest_5 at h
  refine lv_aload_n hx hb dX6_readTest_0 rfl (lv_at hl 0 rfl) ?_
  refine lv_iload_n hx hb dX6_readTest_1 rfl (lv_at hl 1 rfl) ?_
  obtain ⟨z_, g2, L3, hf4, h⟩ := cb_some h
  refine x_callVv (rest := []) li_X6_224 C (rX6_readSum_5_L2 l G H.size a fu g L p1 z_ (g2, L3) hf4) (kR rfl) hP hD hS 5 6 rfl (zat (by decide) xs_5) rfl hl.1 rfl (Nat.le_of_ble_eq_true rfl) dX6_readTest_2 (fun u_ H locs e_ hP hD hS => ?_)
  have hP : va_P G.1 vwCl (zw G (XS 2) 105 a g2 L3) H := hP
  have hD : va_D A (zw G (XS 2) 105 a g2 L3) := hD
  refine lv_aload_n hx hb dX6_readTest_5 rfl (lv_at hl 0 rfl) ?_
  refine lv_bipush (v := 60) hx hb dX6_readTest_6 (by decide) ?_
  obtain ⟨z_, g6, L7, hf8, h⟩ := cb_some h
  refine x_callVi (rest := []) li_X6_86 C (rX6_isSignNow_5 l G H.size a fu g2 L3 60 z_ (g6, L7) hf8) (kR rfl) hP hD hS 5 6 rfl (zat (by decide) xs_5) rfl hl.1 rfl (Nat.le_of_ble_eq_true rfl) dX6_readTest_8 (fun x5 u_ H locs e_ hP hD hS => ?_)
  have e_ : x5 = z_ := e_
  subst e_
  have hP : va_P G.1 vwCl (zw G (XS 2) 105 a g6 L7) H := hP
  have hD : va_D A (zw G (XS 2) 105 a g6 L7) := hD
  have J68 : ∀ (g : Nat → Nat → Int32) (L : Nat → Nat → Int64) (H : Heap) (locs : List Loc) (ls : Array Slot), fX6_readTest_5_p68 fu (fX6_readExpr_5 fu 1) g L = some (res, s9) → va_P G.1 vwCl (zw G (XS 2) 105 a g L) H → va_D A (zw G (XS 2) 105 a g L) → va_S A s.heap H locs → lv_has ls 2 [] → W p l e { frames := 22, cells := 0, slots := 0, locals := 461 } s m [.ref (a 5), .int p1].toArray below meth c H locs 0 0 (MQ below ((kQv G (S := Unit) (fun _ => True) (fun _ => zw G (XS 2) 105 a s9.1 s9.2)) A) [.ref (a 5), .int p1].toArray s 0 0 A) (F0 m 68 ls []) := by
    intro g L H locs ls h hP hD hS hl
    unfold fX6_readTest_5_p68 at h
    exact y_vret C hr hlk hP hD hS h (Nat.le_of_ble_eq_true rfl) (Nat.le_of_ble_eq_true rfl) dX6_readTest_68
  refine lv_if_eq (x := x5) (tgt := 38) hx hb dX6_readTest_11 (by decide) (fun c9 => ?_) (fun c9 => ?_)
  ·
    have h := ite_t c9 h
    refine lv_aload_n hx hb dX6_readTest_38 rfl (lv_at hl 0 rfl) ?_
    refine lv_bipush (v := 61) hx hb dX6_readTest_39 (by decide) ?_
    obtain ⟨z_, g11, L12, hf13, h⟩ := cb_some h
    refine x_callVi (rest := []) li_X6_86 C (rX6_isSignNow_5 l G H.size a fu g6 L7 61 z_ (g11, L12) hf13) (kR rfl) hP hD hS 5 6 rfl (zat (by decide) xs_5) rfl hl.1 rfl (Nat.le_of_ble_eq_true rfl) dX6_readTest_41 (fun x10 u_ H locs e_ hP hD hS => ?_)
    have e_ : x10 = z_ := e_
    subst e_
    have hP : va_P G.1 vwCl (zw G (XS 2) 105 a g11 L12) H := hP
    have hD : va_D A (zw G (XS 2) 105 a g11 L12) := hD
    refine lv_if_eq (x := x10) (tgt := 68) hx hb dX6_readTest_44 (by decide) (fun c14 => ?_) (fun c14 => ?_)
    ·
      have h := ite_t c14 h
      exact J68 g11 L12 H locs ls h hP hD hS (lv_sub hl [] rfl)
    ·
      have h := ite_e c14 h
      refine lv_aload_n hx hb dX6_readTest_47 rfl (lv_at hl 0 rfl) ?_
      obtain ⟨z_, g16, L17, hf18, h⟩ := cb_some h
      refine x_callVv (rest := []) li_X6_53 C (rX6_advance_5 l G H.size a fu g11 L12 z_ (g16, L17) hf18) (kR rfl) hP hD hS 5 6 rfl (zat (by decide) xs_5) rfl hl.1 rfl (Nat.le_of_ble_eq_true rfl) dX6_readTest_48 (fun u_ H locs e_ hP hD hS => ?_)
      have hP : va_P G.1 vwCl (zw G (XS 2) 105 a g16 L17) H := hP
      have hD : va_D A (zw G (XS 2) 105 a g16 L17) := hD
      refine lv_aload_n hx hb dX6_readTest_51 rfl (lv_at hl 0 rfl) ?_
      refine lv_iload_n hx hb dX6_readTest_52 rfl (lv_at hl 1 rfl) ?_
      obtain ⟨z_, g20, L21, hf22, h⟩ := cb_some h
      refine x_callVv (rest := []) li_X6_224 C (rX6_readSum_5_L2 l G H.size a fu g16 L17 p1 z_ (g20, L21) hf22) (kR rfl) hP hD hS 5 6 rfl (zat (by decide) xs_5) rfl hl.1 rfl (Nat.le_of_ble_eq_true rfl) dX6_readTest_53 (fun u_ H locs e_ hP hD hS => ?_)
      have hP : va_P G.1 vwCl (zw G (XS 2) 105 a g20 L21) H := hP
      have hD : va_D A (zw G (XS 2) 105 a g20 L21) := hD
      refine lv_aload_n hx hb dX6_readTest_56 rfl (lv_at hl 0 rfl) ?_
      refine x_getr (Or.inl fl_X6_15) C hP (by decide) xs_5 rfl dX6_readTest_57 ?_
      refine x_getr (Or.inr fl_X6_125) C hP (by decide) xs_2 rfl dX6_readTest_60 ?_
      refine lv_bipush (v := -12) hx hb dX6_readTest_63 (by decide) ?_
      obtain ⟨z_, g24, L25, hf26, h⟩ := cb_some h
      refine x_callNv (rest := []) li_X6_211 C (rX8_add_4 l G H.size 2 a fu g20 L21 (-12) z_ (g24, L25) hf26) (kR rfl) hP hD hS 4 8 rfl (zat (by decide) xs_4) rfl hl.1 rfl (Nat.le_of_ble_eq_true rfl) dX6_readTest_65 (fun u_ H locs e_ hP hD hS => ?_)
      have hP : va_P G.1 vwCl (zw G (XS 2) 105 a g24 L25) H := hP
      have hD : va_D A (zw G (XS 2) 105 a g24 L25) := hD
      exact J68 g24 L25 H locs ls h hP hD hS (lv_sub hl [] rfl)
  ·
    have h := ite_e c9 h
    refine lv_aload_n hx hb dX6_readTest_14 rfl (lv_at hl 0 rfl) ?_
    obtain ⟨z_, g28, L29, hf30, h⟩ := cb_some h
    refine x_callVv (rest := []) li_X6_53 C (rX6_advance_5 l G H.size a fu g6 L7 z_ (g28, L29) hf30) (kR rfl) hP hD hS 5 6 rfl (zat (by decide) xs_5) rfl hl.1 rfl (Nat.le_of_ble_eq_true rfl) dX6_readTest_15 (fun u_ H locs e_ hP hD hS => ?_)
    have hP : va_P G.1 vwCl (zw G (XS 2) 105 a g28 L29) H := hP
    have hD : va_D A (zw G (XS 2) 105 a g28 L29) := hD
    refine lv_aload_n hx hb dX6_readTest_18 rfl (lv_at hl 0 rfl) ?_
    refine lv_iload_n hx hb dX6_readTest_19 rfl (lv_at hl 1 rfl) ?_
    obtain ⟨z_, g32, L33, hf34, h⟩ := cb_some h
    refine x_callVv (rest := []) li_X6_224 C (rX6_readSum_5_L2 l G H.size a fu g28 L29 p1 z_ (g32, L33) hf34) (kR rfl) hP hD hS 5 6 rfl (zat (by decide) xs_5) rfl hl.1 rfl (Nat.le_of_ble_eq_true rfl) dX6_readTest_20 (fun u_ H locs e_ hP hD hS => ?_)
    have hP : va_P G.1 vwCl (zw G (XS 2) 105 a g32 L33) H := hP
    have hD : va_D A (zw G (XS 2) 105 a g32 L33) := hD
    refine lv_aload_n hx hb dX6_readTest_23 rfl (lv_at hl 0 rfl) ?_
    refine x_getr (Or.inl fl_X6_15) C hP (by decide) xs_5 rfl dX6_readTest_24 ?_
    refine x_getr (Or.inr fl_X6_125) C hP (by decide) xs_2 rfl dX6_readTest_27 ?_
    refine lv_bipush (v := -11) hx hb dX6_readTest_30 (by decide) ?_
    obtain ⟨z_, g36, L37, hf38, h⟩ := cb_some h
    refine x_callNv (rest := []) li_X6_211 C (rX8_add_4 l G H.size 2 a fu g32 L33 (-11) z_ (g36, L37) hf38) (kR rfl) hP hD hS 4 8 rfl (zat (by decide) xs_4) rfl hl.1 rfl (Nat.le_of_ble_eq_true rfl) dX6_readTest_32 (fun u_ H locs e_ hP hD hS => ?_)
    have hP : va_P G.1 vwCl (zw G (XS 2) 105 a g36 L37) H := hP
    have hD : va_D A (zw G (XS 2) 105 a g36 L37) := hD
    refine lv_goto (tgt := 68) hx hb dX6_readTest_35 (by decide) ?_
    exact J68 g36 L37 H locs ls h hP hD hS (lv_sub hl [] rfl)
set_option maxHeartbeats 4000000 in
set_option maxRecDepth 100000 in
theorem rX6_readNot_5_L2 (l : Launch) (G : kG) (sz : Nat) (a : Nat → Nat) (fu : Nat) (g : Nat → Nat → Int32) (L : Nat → Nat → Int64) (p1 : Int32) (res : Unit) (s9 : zS) (h : fX6_readNot_5 fu (fX6_readExpr_5 fu 1) p1 g L = some (res, s9)) : kM l yX6_readNot cX6_readNot 4 none { frames := 23, cells := 0, slots := 0, locals := 482 } G [.ref (a 5), .int p1] (zw G (XS 2) 105 a g L) sz (kQv G (S := Unit) (fun _ => True) (fun _ => zw G (XS 2) 105 a s9.1 s9.2)) := by
  refine kM.of (by decide) (Nat.le_of_ble_eq_true rfl) ?_
  intro p e s m below meth c A ls H C hr hlk hnm hP hD hS hl
  have C : kC G p s m c cX6_readNot 4 RX6 A := C
  have hx := C.1
  have hb := C.2.1
  have hl : lv_has ls 4 [(0, .ref (a 5)), (1, .int p1)] := hl
  obtain ⟨locs, hlocs⟩ : ∃ q : List Loc, q = [] := ⟨_, rfl⟩
  rw [← hlocs] at hS
  rw [← hlocs]
  unfold fX6_readNot_5 at h
  refine lv_iconst (v := 0) hx hb dX6_readNot_0 (by decide) ?_
  refine lv_istore_n (lv' := [(2, .int 0), (0, .ref (a 5)), (1, .int p1)]) hx hb dX6_readNot_1 rfl hl (by decide) rfl (fun ls hl => ?_)
  have lp2 : ∀ (v1 : Int32), ∀ (n : Nat) (v : Int32 × (Nat → Nat → Int32) × (Nat → Nat → Int64)), whileK (fun k v => fX6_readNot_5_s2 fu (fX6_readExpr_5 fu 1) v1 k v.1 v.2.1 v.2.2) n v = some (res, s9) → ∀ (H : Heap) (locs : List Loc) (ls : Array Slot), va_P G.1 vwCl (zw G (XS 2) 105 a (v.2.1) (v.2.2)) H → va_D A (zw G (XS 2) 105 a (v.2.1) (v.2.2)) → va_S A s.heap H locs → lv_has ls 4 [(0, .ref (a 5)), (1, .int v1), (2, .int (v.1))] → W p l e { frames := 23, cells := 0, slots := 0, locals := 482 } s m [.ref (a 5), .int p1].toArray below meth c H locs 0 0 (MQ below ((kQv G (S := Unit) (fun _ => True) (fun _ => zw G (XS 2) 105 a s9.1 s9.2)) A) [.ref (a 5), .int p1].toArray s 0 0 A) (F0 m 2 ls []) := by
    intro v1
    refine while_ind (fun k2 ih2 v h => ?_)
    obtain ⟨v2, g, L⟩ := v
    intro H locs ls hP hD hS hl
    have h : fX6_readNot_5_s2 fu (fX6_readExpr_5 fu 1) v1 k2 v2 g L = some (res, s9) := h
    have hP : va_P G.1 vwCl (zw G (XS 2) 105 a g L) H := hP
    have hD : va_D A (zw G (XS 2) 105 a g L) := hD
    have hl : lv_has ls 4 [(0, .ref (a 5)), (1, .int v1), (2, .int v2)] := hl
    show W p l e { frames := 23, cells := 0, slots := 0, locals := 482 } s m [.ref (a 5), .int p1].toArray below meth c H locs 0 0 (MQ below ((kQv G (S := Unit) (fun _ => True) (fun _ => zw G (XS 2) 105 a s9.1 s9.2)) A) [.ref (a 5), .int p1].toArray s 0 0 A) (F0 m 2 ls [])
    unfold fX6_readNot_5_s2 at h
    refine lv_iload_n hx hb dX6_readNot_2 rfl (lv_at hl 2 rfl) ?_
    refine lv_bipush (v := 6) hx hb dX6_readNot_3 (by decide) ?_
    have J27 : ∀ (v1 : Int32) (v2 : Int32) (g : Nat → Nat → Int32) (L : Nat → Nat → Int64) (H : Heap) (locs : List Loc) (ls : Array Slot), fX6_readNot_5_p27 fu (fX6_readExpr_5 fu 1) v1 v2 g L = some (res, s9) → va_P G.1 vwCl (zw G (XS 2) 105 a g L) H → va_D A (zw G (XS 2) 105 a g L) → va_S A s.heap H locs → lv_has ls 4 [(0, .ref (a 5)), (1, .int v1), (2, .int v2)] → W p l e { frames := 23, cells := 0, slots := 0, locals := 482 } s m [.ref (a 5), .int p1].toArray below meth c H locs 0 0 (MQ below ((kQv G (S := Unit) (fun _ => True) (fun _ => zw G (XS 2) 105 a s9.1 s9.2)) A) [.ref (a 5), .int p1].toArray s 0 0 A) (F0 m 27 ls []) := by
      intro v1 v2 g L H locs ls h hP hD hS hl
      unfold fX6_readNot_5_p27 at h
      refine lv_aload_n hx hb dX6_readNot_27 rfl (lv_at hl 0 rfl) ?_
      refine y_ldcS (i := 11) C (by decide) rfl dX6_readNot_28 ?_
      obtain ⟨z_, g2, L3, hf4, h⟩ := cb_some h
      refine x_callVi (rest := []) li_X6_92 C (rX6_isWord_5_not l G H.size a fu g L z_ (g2, L3) hf4) (kR rfl) hP hD hS 5 6 rfl (zat (by decide) xs_5) rfl hl.1 rfl (Nat.le_of_ble_eq_true rfl) dX6_readNot_30 (fun x1 u_ H locs e_ hP hD hS => ?_)
      have e_ : x1 = z_ := e_
      subst e_
      have hP : va_P G.1 vwCl (zw G (XS 2) 105 a g2 L3) H := hP
      have hD : va_D A (zw G (XS 2) 105 a g2 L3) := hD
      have J47 : ∀ (v1 : Int32) (v2 : Int32) (g : Nat → Nat → Int32) (L : Nat → Nat → Int64) (H : Heap) (locs : List Loc) (ls : Array Slot), fX6_readNot_5_p47 fu (fX6_readExpr_5 fu 1) v1 v2 g L = some (res, s9) → va_P G.1 vwCl (zw G (XS 2) 105 a g L) H → va_D A (zw G (XS 2) 105 a g L) → va_S A s.heap H locs → lv_has ls 4 [(0, .ref (a 5)), (1, .int v1), (2, .int v2)] → W p l e { frames := 23, cells := 0, slots := 0, locals := 482 } s m [.ref (a 5), .int p1].toArray below meth c H locs 0 0 (MQ below ((kQv G (S := Unit) (fun _ => True) (fun _ => zw G (XS 2) 105 a s9.1 s9.2)) A) [.ref (a 5), .int p1].toArray s 0 0 A) (F0 m 47 ls []) := by
        intro v1 v2 g L H locs ls h hP hD hS hl
        unfold fX6_readNot_5_p47 at h
        refine lv_aload_n hx hb dX6_readNot_47 rfl (lv_at hl 0 rfl) ?_
        refine lv_iload_n hx hb dX6_readNot_48 rfl (lv_at hl 1 rfl) ?_
        obtain ⟨z_, g6, L7, hf8, h⟩ := cb_some h
        refine x_callVv (rest := []) li_X6_221 C (rX6_readTest_5_L2 l G H.size a fu g L v1 z_ (g6, L7) hf8) (kR rfl) hP hD hS 5 6 rfl (zat (by decide) xs_5) rfl hl.1 rfl (Nat.le_of_ble_eq_true rfl) dX6_readNot_49 (fun u_ H locs e_ hP hD hS => ?_)
        have hP : va_P G.1 vwCl (zw G (XS 2) 105 a g6 L7) H := hP
        have hD : va_D A (zw G (XS 2) 105 a g6 L7) := hD
        refine lv_iconst (v := 0) hx hb dX6_readNot_52 (by decide) ?_
        refine lv_istore_n (lv' := [(3, .int 0), (0, .ref (a 5)), (1, .int v1), (2, .int v2)]) hx hb dX6_readNot_53 rfl hl (by decide) rfl (fun ls hl => ?_)
        have lp54 : ∀ (v2 : Int32), ∀ (n : Nat) (v : Int32 × (Nat → Nat → Int32) × (Nat → Nat → Int64)), whileK (fun k v => fX6_readNot_5_s54 fu (fX6_readExpr_5 fu 1) v2 k v.1 v.2.1 v.2.2) n v = some (res, s9) → ∀ (H : Heap) (locs : List Loc) (ls : Array Slot), va_P G.1 vwCl (zw G (XS 2) 105 a (v.2.1) (v.2.2)) H → va_D A (zw G (XS 2) 105 a (v.2.1) (v.2.2)) → va_S A s.heap H locs → lv_has ls 4 [(0, .ref (a 5)), (2, .int v2), (3, .int (v.1))] → W p l e { frames := 23, cells := 0, slots := 0, locals := 482 } s m [.ref (a 5), .int p1].toArray below meth c H locs 0 0 (MQ below ((kQv G (S := Unit) (fun _ => True) (fun _ => zw G (XS 2) 105 a s9.1 s9.2)) A) [.ref (a 5), .int p1].toArray s 0 0 A) (F0 m 54 ls []) := by
          intro v2
          refine while_ind (fun k54 ih54 v h => ?_)
          obtain ⟨v3, g, L⟩ := v
          intro H locs ls hP hD hS hl
          have h : fX6_readNot_5_s54 fu (fX6_readExpr_5 fu 1) v2 k54 v3 g L = some (res, s9) := h
          have hP : va_P G.1 vwCl (zw G (XS 2) 105 a g L) H := hP
          have hD : va_D A (zw G (XS 2) 105 a g L) := hD
          have hl : lv_has ls 4 [(0, .ref (a 5)), (2, .int v2), (3, .int v3)] := hl
          show W p l e { frames := 23, cells := 0, slots := 0, locals := 482 } s m [.ref (a 5), .int p1].toArray below meth c H locs 0 0 (MQ below ((kQv G (S := Unit) (fun _ => True) (fun _ => zw G (XS 2) 105 a s9.1 s9.2)) A) [.ref (a 5), .int p1].toArray s 0 0 A) (F0 m 54 ls [])
          unfold fX6_readNot_5_s54 at h
          refine lv_iload_n hx hb dX6_readNot_54 rfl (lv_at hl 2 rfl) ?_
          refine lv_iload_n hx hb dX6_readNot_55 rfl (lv_at hl 1 rfl) ?_
          refine lv_icmp_ge (x := v3) (y := v2) (tgt := 77) hx hb dX6_readNot_56 (by decide) (fun c9 => ?_) (fun c9 => ?_)
          ·
            have h := ite_t c9 h
            exact y_vret C hr hlk hP hD hS h (Nat.le_of_ble_eq_true rfl) (Nat.le_of_ble_eq_true rfl) dX6_readNot_77
          ·
            have h := ite_e c9 h
            refine lv_aload_n hx hb dX6_readNot_59 rfl (lv_at hl 0 rfl) ?_
            refine x_getr (Or.inl fl_X6_15) C hP (by decide) xs_5 rfl dX6_readNot_60 ?_
            refine x_getr (Or.inr fl_X6_125) C hP (by decide) xs_2 rfl dX6_readNot_63 ?_
            refine lv_bipush (v := -15) hx hb dX6_readNot_66 (by decide) ?_
            obtain ⟨z_, g11, L12, hf13, h⟩ := cb_some h
            refine x_callNv (rest := []) li_X6_211 C (rX8_add_4 l G H.size 2 a fu g L (-15) z_ (g11, L12) hf13) (kR rfl) hP hD hS 4 8 rfl (zat (by decide) xs_4) rfl hl.1 rfl (Nat.le_of_ble_eq_true rfl) dX6_readNot_68 (fun u_ H locs e_ hP hD hS => ?_)
            have hP : va_P G.1 vwCl (zw G (XS 2) 105 a g11 L12) H := hP
            have hD : va_D A (zw G (XS 2) 105 a g11 L12) := hD
            refine lv_iinc (v := (v3 + 1)) (lv' := [(3, .int (v3 + 1)), (0, .ref (a 5)), (2, .int v2)]) hx hb dX6_readNot_71 hl (k := 2) rfl rfl (by decide) rfl (fun ls hl => ?_)
            refine lv_goto (tgt := 54) hx hb dX6_readNot_74 (by decide) ?_
            exact ih54 ((v3 + 1), g11, L12) h H locs ls hP hD hS (lv_sub hl [1, 2, 0] rfl)
        exact lp54 v2 fu (0, g6, L7) h H locs ls hP hD hS (lv_sub hl [1, 3, 0] rfl)
      refine lv_if_eq (x := x1) (tgt := 47) hx hb dX6_readNot_33 (by decide) (fun c14 => ?_) (fun c14 => ?_)
      ·
        have h := ite_t c14 h
        exact J47 v1 v2 g2 L3 H locs ls h hP hD hS (lv_sub hl [0, 1, 2] rfl)
      ·
        have h := ite_e c14 h
        refine lv_iload_n hx hb dX6_readNot_36 rfl (lv_at hl 2 rfl) ?_
        refine lv_bipush (v := 6) hx hb dX6_readNot_37 (by decide) ?_
        refine lv_icmp_lt (x := v2) (y := 6) (tgt := 47) hx hb dX6_readNot_39 (by decide) (fun c15 => ?_) (fun c15 => ?_)
        ·
          have h := ite_t c15 h
          exact J47 v1 v2 g2 L3 H locs ls h hP hD hS (lv_sub hl [0, 1, 2] rfl)
        ·
          have h := ite_e c15 h
          refine lv_aload_n hx hb dX6_readNot_42 rfl (lv_at hl 0 rfl) ?_
          refine lv_iconst (v := 2) hx hb dX6_readNot_43 (by decide) ?_
          obtain ⟨z_, g17, L18, hf19, h⟩ := cb_some h
          refine x_callVv (rest := []) li_X6_78 C (rX6_refuse_5 l G H.size a fu g2 L3 2 z_ (g17, L18) hf19) (kR rfl) hP hD hS 5 6 rfl (zat (by decide) xs_5) rfl hl.1 rfl (Nat.le_of_ble_eq_true rfl) dX6_readNot_44 (fun u_ H locs e_ hP hD hS => ?_)
          have hP : va_P G.1 vwCl (zw G (XS 2) 105 a g17 L18) H := hP
          have hD : va_D A (zw G (XS 2) 105 a g17 L18) := hD
          exact J47 v1 v2 g17 L18 H locs ls h hP hD hS (lv_sub hl [0, 1, 2] rfl)
    refine lv_icmp_ge (x := v2) (y := 6) (tgt := 27) hx hb dX6_readNot_5 (by decide) (fun c20 => ?_) (fun c20 => ?_)
    ·
      have h := ite_t c20 h
      exact J27 v1 v2 g L H locs ls h hP hD hS (lv_sub hl [0, 1, 2] rfl)
    ·
      have h := ite_e c20 h
      refine lv_aload_n hx hb dX6_readNot_8 rfl (lv_at hl 0 rfl) ?_
      refine y_ldcS (i := 11) C (by decide) rfl dX6_readNot_9 ?_
      obtain ⟨z_, g22, L23, hf24, h⟩ := cb_some h
      refine x_callVi (rest := []) li_X6_92 C (rX6_isWord_5_not l G H.size a fu g L z_ (g22, L23) hf24) (kR rfl) hP hD hS 5 6 rfl (zat (by decide) xs_5) rfl hl.1 rfl (Nat.le_of_ble_eq_true rfl) dX6_readNot_11 (fun x21 u_ H locs e_ hP hD hS => ?_)
      have e_ : x21 = z_ := e_
      subst e_
      have hP : va_P G.1 vwCl (zw G (XS 2) 105 a g22 L23) H := hP
      have hD : va_D A (zw G (XS 2) 105 a g22 L23) := hD
      refine lv_if_eq (x := x21) (tgt := 27) hx hb dX6_readNot_14 (by decide) (fun c25 => ?_) (fun c25 => ?_)
      ·
        have h := ite_t c25 h
        exact J27 v1 v2 g22 L23 H locs ls h hP hD hS (lv_sub hl [0, 1, 2] rfl)
      ·
        have h := ite_e c25 h
        refine lv_iinc (v := (v2 + 1)) (lv' := [(2, .int (v2 + 1)), (0, .ref (a 5)), (1, .int v1)]) hx hb dX6_readNot_17 hl (k := 2) rfl rfl (by decide) rfl (fun ls hl => ?_)
        refine lv_aload_n hx hb dX6_readNot_20 rfl (lv_at hl 1 rfl) ?_
        obtain ⟨z_, g27, L28, hf29, h⟩ := cb_some h
        refine x_callVv (rest := []) li_X6_53 C (rX6_advance_5 l G H.size a fu g22 L23 z_ (g27, L28) hf29) (kR rfl) hP hD hS 5 6 rfl (zat (by decide) xs_5) rfl hl.1 rfl (Nat.le_of_ble_eq_true rfl) dX6_readNot_21 (fun u_ H locs e_ hP hD hS => ?_)
        have hP : va_P G.1 vwCl (zw G (XS 2) 105 a g27 L28) H := hP
        have hD : va_D A (zw G (XS 2) 105 a g27 L28) := hD
        refine lv_goto (tgt := 2) hx hb dX6_readNot_24 (by decide) ?_
        exact ih2 ((v2 + 1), g27, L28) h H locs ls hP hD hS (lv_sub hl [1, 2, 0] rfl)
  exact lp2 p1 fu (0, g, L) h H locs ls hP hD hS (lv_sub hl [1, 2, 0] rfl)
set_option maxHeartbeats 4000000 in
set_option maxRecDepth 100000 in
theorem rX6_readAnd_5_L2 (l : Launch) (G : kG) (sz : Nat) (a : Nat → Nat) (fu : Nat) (g : Nat → Nat → Int32) (L : Nat → Nat → Int64) (p1 : Int32) (res : Unit) (s9 : zS) (h : fX6_readAnd_5 fu (fX6_readExpr_5 fu 1) p1 g L = some (res, s9)) : kM l yX6_readAnd cX6_readAnd 3 none { frames := 24, cells := 0, slots := 0, locals := 505 } G [.ref (a 5), .int p1] (zw G (XS 2) 105 a g L) sz (kQv G (S := Unit) (fun _ => True) (fun _ => zw G (XS 2) 105 a s9.1 s9.2)) := by
  refine kM.of (by decide) (Nat.le_of_ble_eq_true rfl) ?_
  intro p e s m below meth c A ls H C hr hlk hnm hP hD hS hl
  have C : kC G p s m c cX6_readAnd 3 RX6 A := C
  have hx := C.1
  have hb := C.2.1
  have hl : lv_has ls 3 [(0, .ref (a 5)), (1, .int p1)] := hl
  obtain ⟨locs, hlocs⟩ : ∃ q : List Loc, q = [] := ⟨_, rfl⟩
  rw [← hlocs] at hS
  rw [← hlocs]
  unfold fX6_readAnd_5 at h
  refine lv_aload_n hx hb dX6_readAnd_0 rfl (lv_at hl 0 rfl) ?_
  refine lv_iload_n hx hb dX6_readAnd_1 rfl (lv_at hl 1 rfl) ?_
  obtain ⟨z_, g2, L3, hf4, h⟩ := cb_some h
  refine x_callVv (rest := []) li_X6_214 C (rX6_readNot_5_L2 l G H.size a fu g L p1 z_ (g2, L3) hf4) (kR rfl) hP hD hS 5 6 rfl (zat (by decide) xs_5) rfl hl.1 rfl (Nat.le_of_ble_eq_true rfl) dX6_readAnd_2 (fun u_ H locs e_ hP hD hS => ?_)
  have hP : va_P G.1 vwCl (zw G (XS 2) 105 a g2 L3) H := hP
  have hD : va_D A (zw G (XS 2) 105 a g2 L3) := hD
  refine lv_iconst (v := 0) hx hb dX6_readAnd_5 (by decide) ?_
  refine lv_istore_n (lv' := [(2, .int 0), (0, .ref (a 5)), (1, .int p1)]) hx hb dX6_readAnd_6 rfl hl (by decide) rfl (fun ls hl => ?_)
  have lp7 : ∀ (v1 : Int32), ∀ (n : Nat) (v : Int32 × (Nat → Nat → Int32) × (Nat → Nat → Int64)), whileK (fun k v => fX6_readAnd_5_s7 fu (fX6_readExpr_5 fu 1) v1 k v.1 v.2.1 v.2.2) n v = some (res, s9) → ∀ (H : Heap) (locs : List Loc) (ls : Array Slot), va_P G.1 vwCl (zw G (XS 2) 105 a (v.2.1) (v.2.2)) H → va_D A (zw G (XS 2) 105 a (v.2.1) (v.2.2)) → va_S A s.heap H locs → lv_has ls 3 [(0, .ref (a 5)), (1, .int v1), (2, .int (v.1))] → W p l e { frames := 24, cells := 0, slots := 0, locals := 505 } s m [.ref (a 5), .int p1].toArray below meth c H locs 0 0 (MQ below ((kQv G (S := Unit) (fun _ => True) (fun _ => zw G (XS 2) 105 a s9.1 s9.2)) A) [.ref (a 5), .int p1].toArray s 0 0 A) (F0 m 7 ls []) := by
    intro v1
    refine while_ind (fun k7 ih7 v h => ?_)
    obtain ⟨v2, g, L⟩ := v
    intro H locs ls hP hD hS hl
    have h : fX6_readAnd_5_s7 fu (fX6_readExpr_5 fu 1) v1 k7 v2 g L = some (res, s9) := h
    have hP : va_P G.1 vwCl (zw G (XS 2) 105 a g L) H := hP
    have hD : va_D A (zw G (XS 2) 105 a g L) := hD
    have hl : lv_has ls 3 [(0, .ref (a 5)), (1, .int v1), (2, .int v2)] := hl
    show W p l e { frames := 24, cells := 0, slots := 0, locals := 505 } s m [.ref (a 5), .int p1].toArray below meth c H locs 0 0 (MQ below ((kQv G (S := Unit) (fun _ => True) (fun _ => zw G (XS 2) 105 a s9.1 s9.2)) A) [.ref (a 5), .int p1].toArray s 0 0 A) (F0 m 7 ls [])
    unfold fX6_readAnd_5_s7 at h
    refine lv_iload_n hx hb dX6_readAnd_7 rfl (lv_at hl 2 rfl) ?_
    refine lv_sipush (v := 700) hx hb dX6_readAnd_8 (by decide) ?_
    have J50 : ∀ (g : Nat → Nat → Int32) (L : Nat → Nat → Int64) (H : Heap) (locs : List Loc) (ls : Array Slot), fX6_readAnd_5_p50 fu (fX6_readExpr_5 fu 1) g L = some (res, s9) → va_P G.1 vwCl (zw G (XS 2) 105 a g L) H → va_D A (zw G (XS 2) 105 a g L) → va_S A s.heap H locs → lv_has ls 3 [] → W p l e { frames := 24, cells := 0, slots := 0, locals := 505 } s m [.ref (a 5), .int p1].toArray below meth c H locs 0 0 (MQ below ((kQv G (S := Unit) (fun _ => True) (fun _ => zw G (XS 2) 105 a s9.1 s9.2)) A) [.ref (a 5), .int p1].toArray s 0 0 A) (F0 m 50 ls []) := by
      intro g L H locs ls h hP hD hS hl
      unfold fX6_readAnd_5_p50 at h
      exact y_vret C hr hlk hP hD hS h (Nat.le_of_ble_eq_true rfl) (Nat.le_of_ble_eq_true rfl) dX6_readAnd_50
    refine lv_icmp_ge (x := v2) (y := 700) (tgt := 50) hx hb dX6_readAnd_11 (by decide) (fun c5 => ?_) (fun c5 => ?_)
    ·
      have h := ite_t c5 h
      exact J50 g L H locs ls h hP hD hS (lv_sub hl [] rfl)
    ·
      have h := ite_e c5 h
      refine lv_aload_n hx hb dX6_readAnd_14 rfl (lv_at hl 0 rfl) ?_
      refine y_ldcS (i := 10) C (by decide) rfl dX6_readAnd_15 ?_
      obtain ⟨z_, g7, L8, hf9, h⟩ := cb_some h
      refine x_callVi (rest := []) li_X6_92 C (rX6_isWord_5_and l G H.size a fu g L z_ (g7, L8) hf9) (kR rfl) hP hD hS 5 6 rfl (zat (by decide) xs_5) rfl hl.1 rfl (Nat.le_of_ble_eq_true rfl) dX6_readAnd_17 (fun x6 u_ H locs e_ hP hD hS => ?_)
      have e_ : x6 = z_ := e_
      subst e_
      have hP : va_P G.1 vwCl (zw G (XS 2) 105 a g7 L8) H := hP
      have hD : va_D A (zw G (XS 2) 105 a g7 L8) := hD
      refine lv_if_eq (x := x6) (tgt := 50) hx hb dX6_readAnd_20 (by decide) (fun c10 => ?_) (fun c10 => ?_)
      ·
        have h := ite_t c10 h
        exact J50 g7 L8 H locs ls h hP hD hS (lv_sub hl [] rfl)
      ·
        have h := ite_e c10 h
        refine lv_aload_n hx hb dX6_readAnd_23 rfl (lv_at hl 0 rfl) ?_
        obtain ⟨z_, g12, L13, hf14, h⟩ := cb_some h
        refine x_callVv (rest := []) li_X6_53 C (rX6_advance_5 l G H.size a fu g7 L8 z_ (g12, L13) hf14) (kR rfl) hP hD hS 5 6 rfl (zat (by decide) xs_5) rfl hl.1 rfl (Nat.le_of_ble_eq_true rfl) dX6_readAnd_24 (fun u_ H locs e_ hP hD hS => ?_)
        have hP : va_P G.1 vwCl (zw G (XS 2) 105 a g12 L13) H := hP
        have hD : va_D A (zw G (XS 2) 105 a g12 L13) := hD
        refine lv_aload_n hx hb dX6_readAnd_27 rfl (lv_at hl 0 rfl) ?_
        refine lv_iload_n hx hb dX6_readAnd_28 rfl (lv_at hl 1 rfl) ?_
        obtain ⟨z_, g16, L17, hf18, h⟩ := cb_some h
        refine x_callVv (rest := []) li_X6_214 C (rX6_readNot_5_L2 l G H.size a fu g12 L13 v1 z_ (g16, L17) hf18) (kR rfl) hP hD hS 5 6 rfl (zat (by decide) xs_5) rfl hl.1 rfl (Nat.le_of_ble_eq_true rfl) dX6_readAnd_29 (fun u_ H locs e_ hP hD hS => ?_)
        have hP : va_P G.1 vwCl (zw G (XS 2) 105 a g16 L17) H := hP
        have hD : va_D A (zw G (XS 2) 105 a g16 L17) := hD
        refine lv_aload_n hx hb dX6_readAnd_32 rfl (lv_at hl 0 rfl) ?_
        refine x_getr (Or.inl fl_X6_15) C hP (by decide) xs_5 rfl dX6_readAnd_33 ?_
        refine x_getr (Or.inr fl_X6_125) C hP (by decide) xs_2 rfl dX6_readAnd_36 ?_
        refine lv_bipush (v := -13) hx hb dX6_readAnd_39 (by decide) ?_
        obtain ⟨z_, g20, L21, hf22, h⟩ := cb_some h
        refine x_callNv (rest := []) li_X6_211 C (rX8_add_4 l G H.size 2 a fu g16 L17 (-13) z_ (g20, L21) hf22) (kR rfl) hP hD hS 4 8 rfl (zat (by decide) xs_4) rfl hl.1 rfl (Nat.le_of_ble_eq_true rfl) dX6_readAnd_41 (fun u_ H locs e_ hP hD hS => ?_)
        have hP : va_P G.1 vwCl (zw G (XS 2) 105 a g20 L21) H := hP
        have hD : va_D A (zw G (XS 2) 105 a g20 L21) := hD
        refine lv_iinc (v := (v2 + 1)) (lv' := [(2, .int (v2 + 1)), (0, .ref (a 5)), (1, .int v1)]) hx hb dX6_readAnd_44 hl (k := 2) rfl rfl (by decide) rfl (fun ls hl => ?_)
        refine lv_goto (tgt := 7) hx hb dX6_readAnd_47 (by decide) ?_
        exact ih7 ((v2 + 1), g20, L21) h H locs ls hP hD hS (lv_sub hl [1, 2, 0] rfl)
  exact lp7 p1 fu (0, g2, L3) h H locs ls hP hD hS (lv_sub hl [1, 2, 0] rfl)
set_option maxHeartbeats 4000000 in
set_option maxRecDepth 100000 in
theorem rX6_readExpr_5_L2 (l : Launch) (G : kG) (sz : Nat) (a : Nat → Nat) (fu : Nat) (g : Nat → Nat → Int32) (L : Nat → Nat → Int64) (p1 : Int32) (res : Unit) (s9 : zS) (h : fX6_readExpr_5 fu 2 p1 g L = some (res, s9)) : kM l yX6_readExpr cX6_readExpr 3 none { frames := 25, cells := 0, slots := 0, locals := 527 } G [.ref (a 5), .int p1] (zw G (XS 2) 105 a g L) sz (kQv G (S := Unit) (fun _ => True) (fun _ => zw G (XS 2) 105 a s9.1 s9.2)) := by
  refine kM.of (by decide) (Nat.le_of_ble_eq_true rfl) ?_
  intro p e s m below meth c A ls H C hr hlk hnm hP hD hS hl
  have C : kC G p s m c cX6_readExpr 3 RX6 A := C
  have hx := C.1
  have hb := C.2.1
  have hl : lv_has ls 3 [(0, .ref (a 5)), (1, .int p1)] := hl
  obtain ⟨locs, hlocs⟩ : ∃ q : List Loc, q = [] := ⟨_, rfl⟩
  rw [← hlocs] at hS
  rw [← hlocs]
  rw [fX6_readExpr_5_succ] at h
  unfold fX6_readExpr_5B at h
  refine lv_iload_n hx hb dX6_readExpr_0 rfl (lv_at hl 1 rfl) ?_
  refine lv_iconst (v := 5) hx hb dX6_readExpr_1 (by decide) ?_
  have J35 : ∀ (v1 : Int32) (g : Nat → Nat → Int32) (L : Nat → Nat → Int64) (H : Heap) (locs : List Loc) (ls : Array Slot), fX6_readExpr_5_p35 fu (fX6_readExpr_5 fu 1) v1 g L = some (res, s9) → va_P G.1 vwCl (zw G (XS 2) 105 a g L) H → va_D A (zw G (XS 2) 105 a g L) → va_S A s.heap H locs → lv_has ls 3 [(0, .ref (a 5)), (1, .int v1)] → W p l e { frames := 25, cells := 0, slots := 0, locals := 527 } s m [.ref (a 5), .int p1].toArray below meth c H locs 0 0 (MQ below ((kQv G (S := Unit) (fun _ => True) (fun _ => zw G (XS 2) 105 a s9.1 s9.2)) A) [.ref (a 5), .int p1].toArray s 0 0 A) (F0 m 35 ls []) := by
    intro v1 g L H locs ls h hP hD hS hl
    unfold fX6_readExpr_5_p35 at h
    refine lv_aload_n hx hb dX6_readExpr_35 rfl (lv_at hl 0 rfl) ?_
    refine lv_iload_n hx hb dX6_readExpr_36 rfl (lv_at hl 1 rfl) ?_
    obtain ⟨z_, g2, L3, hf4, h⟩ := cb_some h
    refine x_callVv (rest := []) li_X6_206 C (rX6_readAnd_5_L2 l G H.size a fu g L v1 z_ (g2, L3) hf4) (kR rfl) hP hD hS 5 6 rfl (zat (by decide) xs_5) rfl hl.1 rfl (Nat.le_of_ble_eq_true rfl) dX6_readExpr_37 (fun u_ H locs e_ hP hD hS => ?_)
    have hP : va_P G.1 vwCl (zw G (XS 2) 105 a g2 L3) H := hP
    have hD : va_D A (zw G (XS 2) 105 a g2 L3) := hD
    refine lv_iconst (v := 0) hx hb dX6_readExpr_40 (by decide) ?_
    refine lv_istore_n (lv' := [(2, .int 0), (0, .ref (a 5)), (1, .int v1)]) hx hb dX6_readExpr_41 rfl hl (by decide) rfl (fun ls hl => ?_)
    have lp42 : ∀ (v1 : Int32), ∀ (n : Nat) (v : Int32 × (Nat → Nat → Int32) × (Nat → Nat → Int64)), whileK (fun k v => fX6_readExpr_5_s42 fu (fX6_readExpr_5 fu 1) v1 k v.1 v.2.1 v.2.2) n v = some (res, s9) → ∀ (H : Heap) (locs : List Loc) (ls : Array Slot), va_P G.1 vwCl (zw G (XS 2) 105 a (v.2.1) (v.2.2)) H → va_D A (zw G (XS 2) 105 a (v.2.1) (v.2.2)) → va_S A s.heap H locs → lv_has ls 3 [(0, .ref (a 5)), (1, .int v1), (2, .int (v.1))] → W p l e { frames := 25, cells := 0, slots := 0, locals := 527 } s m [.ref (a 5), .int p1].toArray below meth c H locs 0 0 (MQ below ((kQv G (S := Unit) (fun _ => True) (fun _ => zw G (XS 2) 105 a s9.1 s9.2)) A) [.ref (a 5), .int p1].toArray s 0 0 A) (F0 m 42 ls []) := by
      intro v1
      refine while_ind (fun k42 ih42 v h => ?_)
      obtain ⟨v2, g, L⟩ := v
      intro H locs ls hP hD hS hl
      have h : fX6_readExpr_5_s42 fu (fX6_readExpr_5 fu 1) v1 k42 v2 g L = some (res, s9) := h
      have hP : va_P G.1 vwCl (zw G (XS 2) 105 a g L) H := hP
      have hD : va_D A (zw G (XS 2) 105 a g L) := hD
      have hl : lv_has ls 3 [(0, .ref (a 5)), (1, .int v1), (2, .int v2)] := hl
      show W p l e { frames := 25, cells := 0, slots := 0, locals := 527 } s m [.ref (a 5), .int p1].toArray below meth c H locs 0 0 (MQ below ((kQv G (S := Unit) (fun _ => True) (fun _ => zw G (XS 2) 105 a s9.1 s9.2)) A) [.ref (a 5), .int p1].toArray s 0 0 A) (F0 m 42 ls [])
      unfold fX6_readExpr_5_s42 at h
      refine lv_iload_n hx hb dX6_readExpr_42 rfl (lv_at hl 2 rfl) ?_
      refine lv_sipush (v := 700) hx hb dX6_readExpr_43 (by decide) ?_
      have J85 : ∀ (g : Nat → Nat → Int32) (L : Nat → Nat → Int64) (H : Heap) (locs : List Loc) (ls : Array Slot), fX6_readExpr_5_p85 fu (fX6_readExpr_5 fu 1) g L = some (res, s9) → va_P G.1 vwCl (zw G (XS 2) 105 a g L) H → va_D A (zw G (XS 2) 105 a g L) → va_S A s.heap H locs → lv_has ls 3 [] → W p l e { frames := 25, cells := 0, slots := 0, locals := 527 } s m [.ref (a 5), .int p1].toArray below meth c H locs 0 0 (MQ below ((kQv G (S := Unit) (fun _ => True) (fun _ => zw G (XS 2) 105 a s9.1 s9.2)) A) [.ref (a 5), .int p1].toArray s 0 0 A) (F0 m 85 ls []) := by
        intro g L H locs ls h hP hD hS hl
        unfold fX6_readExpr_5_p85 at h
        exact y_vret C hr hlk hP hD hS h (Nat.le_of_ble_eq_true rfl) (Nat.le_of_ble_eq_true rfl) dX6_readExpr_85
      refine lv_icmp_ge (x := v2) (y := 700) (tgt := 85) hx hb dX6_readExpr_46 (by decide) (fun c5 => ?_) (fun c5 => ?_)
      ·
        have h := ite_t c5 h
        exact J85 g L H locs ls h hP hD hS (lv_sub hl [] rfl)
      ·
        have h := ite_e c5 h
        refine lv_aload_n hx hb dX6_readExpr_49 rfl (lv_at hl 0 rfl) ?_
        refine y_ldcS (i := 9) C (by decide) rfl dX6_readExpr_50 ?_
        obtain ⟨z_, g7, L8, hf9, h⟩ := cb_some h
        refine x_callVi (rest := []) li_X6_92 C (rX6_isWord_5_or l G H.size a fu g L z_ (g7, L8) hf9) (kR rfl) hP hD hS 5 6 rfl (zat (by decide) xs_5) rfl hl.1 rfl (Nat.le_of_ble_eq_true rfl) dX6_readExpr_52 (fun x6 u_ H locs e_ hP hD hS => ?_)
        have e_ : x6 = z_ := e_
        subst e_
        have hP : va_P G.1 vwCl (zw G (XS 2) 105 a g7 L8) H := hP
        have hD : va_D A (zw G (XS 2) 105 a g7 L8) := hD
        refine lv_if_eq (x := x6) (tgt := 85) hx hb dX6_readExpr_55 (by decide) (fun c10 => ?_) (fun c10 => ?_)
        ·
          have h := ite_t c10 h
          exact J85 g7 L8 H locs ls h hP hD hS (lv_sub hl [] rfl)
        ·
          have h := ite_e c10 h
          refine lv_aload_n hx hb dX6_readExpr_58 rfl (lv_at hl 0 rfl) ?_
          obtain ⟨z_, g12, L13, hf14, h⟩ := cb_some h
          refine x_callVv (rest := []) li_X6_53 C (rX6_advance_5 l G H.size a fu g7 L8 z_ (g12, L13) hf14) (kR rfl) hP hD hS 5 6 rfl (zat (by decide) xs_5) rfl hl.1 rfl (Nat.le_of_ble_eq_true rfl) dX6_readExpr_59 (fun u_ H locs e_ hP hD hS => ?_)
          have hP : va_P G.1 vwCl (zw G (XS 2) 105 a g12 L13) H := hP
          have hD : va_D A (zw G (XS 2) 105 a g12 L13) := hD
          refine lv_aload_n hx hb dX6_readExpr_62 rfl (lv_at hl 0 rfl) ?_
          refine lv_iload_n hx hb dX6_readExpr_63 rfl (lv_at hl 1 rfl) ?_
          obtain ⟨z_, g16, L17, hf18, h⟩ := cb_some h
          refine x_callVv (rest := []) li_X6_206 C (rX6_readAnd_5_L2 l G H.size a fu g12 L13 v1 z_ (g16, L17) hf18) (kR rfl) hP hD hS 5 6 rfl (zat (by decide) xs_5) rfl hl.1 rfl (Nat.le_of_ble_eq_true rfl) dX6_readExpr_64 (fun u_ H locs e_ hP hD hS => ?_)
          have hP : va_P G.1 vwCl (zw G (XS 2) 105 a g16 L17) H := hP
          have hD : va_D A (zw G (XS 2) 105 a g16 L17) := hD
          refine lv_aload_n hx hb dX6_readExpr_67 rfl (lv_at hl 0 rfl) ?_
          refine x_getr (Or.inl fl_X6_15) C hP (by decide) xs_5 rfl dX6_readExpr_68 ?_
          refine x_getr (Or.inr fl_X6_125) C hP (by decide) xs_2 rfl dX6_readExpr_71 ?_
          refine lv_bipush (v := -14) hx hb dX6_readExpr_74 (by decide) ?_
          obtain ⟨z_, g20, L21, hf22, h⟩ := cb_some h
          refine x_callNv (rest := []) li_X6_211 C (rX8_add_4 l G H.size 2 a fu g16 L17 (-14) z_ (g20, L21) hf22) (kR rfl) hP hD hS 4 8 rfl (zat (by decide) xs_4) rfl hl.1 rfl (Nat.le_of_ble_eq_true rfl) dX6_readExpr_76 (fun u_ H locs e_ hP hD hS => ?_)
          have hP : va_P G.1 vwCl (zw G (XS 2) 105 a g20 L21) H := hP
          have hD : va_D A (zw G (XS 2) 105 a g20 L21) := hD
          refine lv_iinc (v := (v2 + 1)) (lv' := [(2, .int (v2 + 1)), (0, .ref (a 5)), (1, .int v1)]) hx hb dX6_readExpr_79 hl (k := 2) rfl rfl (by decide) rfl (fun ls hl => ?_)
          refine lv_goto (tgt := 42) hx hb dX6_readExpr_82 (by decide) ?_
          exact ih42 ((v2 + 1), g20, L21) h H locs ls hP hD hS (lv_sub hl [1, 2, 0] rfl)
    exact lp42 v1 fu (0, g2, L3) h H locs ls hP hD hS (lv_sub hl [1, 2, 0] rfl)
  refine lv_icmp_le (x := p1) (y := 5) (tgt := 35) hx hb dX6_readExpr_2 (by decide) (fun c23 => ?_) (fun c23 => ?_)
  ·
    have h := ite_t c23 h
    exact J35 p1 g L H locs ls h hP hD hS (lv_sub hl [0, 1] rfl)
  ·
    have h := ite_e c23 h
    refine lv_aload_n hx hb dX6_readExpr_5 rfl (lv_at hl 0 rfl) ?_
    refine x_getv (v := .int (g 5 4)) (Or.inl fl_X6_50) C hP (by decide) xs_5 rfl dX6_readExpr_6 ?_
    refine lv_iconst (v := 1) hx hb dX6_readExpr_9 (by decide) ?_
    have J30 : ∀ (v1 : Int32) (g : Nat → Nat → Int32) (L : Nat → Nat → Int64) (H : Heap) (locs : List Loc) (ls : Array Slot), fX6_readExpr_5_p30 fu (fX6_readExpr_5 fu 1) v1 g L = some (res, s9) → va_P G.1 vwCl (zw G (XS 2) 105 a g L) H → va_D A (zw G (XS 2) 105 a g L) → va_S A s.heap H locs → lv_has ls 3 [(0, .ref (a 5)), (1, .int v1)] → W p l e { frames := 25, cells := 0, slots := 0, locals := 527 } s m [.ref (a 5), .int p1].toArray below meth c H locs 0 0 (MQ below ((kQv G (S := Unit) (fun _ => True) (fun _ => zw G (XS 2) 105 a s9.1 s9.2)) A) [.ref (a 5), .int p1].toArray s 0 0 A) (F0 m 30 ls []) := by
      intro v1 g L H locs ls h hP hD hS hl
      unfold fX6_readExpr_5_p30 at h
      refine lv_aload_n hx hb dX6_readExpr_30 rfl (lv_at hl 0 rfl) ?_
      refine lv_iconst (v := 2) hx hb dX6_readExpr_31 (by decide) ?_
      obtain ⟨z_, g25, L26, hf27, h⟩ := cb_some h
      refine x_callVv (rest := []) li_X6_78 C (rX6_refuse_5 l G H.size a fu g L 2 z_ (g25, L26) hf27) (kR rfl) hP hD hS 5 6 rfl (zat (by decide) xs_5) rfl hl.1 rfl (Nat.le_of_ble_eq_true rfl) dX6_readExpr_32 (fun u_ H locs e_ hP hD hS => ?_)
      have hP : va_P G.1 vwCl (zw G (XS 2) 105 a g25 L26) H := hP
      have hD : va_D A (zw G (XS 2) 105 a g25 L26) := hD
      exact J35 v1 g25 L26 H locs ls h hP hD hS (lv_sub hl [0, 1] rfl)
    refine lv_icmp_eq (x := (g 5 4)) (y := 1) (tgt := 30) hx hb dX6_readExpr_10 (by decide) (fun c28 => ?_) (fun c28 => ?_)
    ·
      have h := ite_t c28 h
      exact J30 p1 g L H locs ls h hP hD hS (lv_sub hl [0, 1] rfl)
    ·
      have h := ite_e c28 h
      refine lv_aload_n hx hb dX6_readExpr_13 rfl (lv_at hl 0 rfl) ?_
      refine x_getv (v := .int (g 5 4)) (Or.inl fl_X6_50) C hP (by decide) xs_5 rfl dX6_readExpr_14 ?_
      refine lv_iconst (v := 2) hx hb dX6_readExpr_17 (by decide) ?_
      refine lv_icmp_eq (x := (g 5 4)) (y := 2) (tgt := 30) hx hb dX6_readExpr_18 (by decide) (fun c29 => ?_) (fun c29 => ?_)
      ·
        have h := ite_t c29 h
        exact J30 p1 g L H locs ls h hP hD hS (lv_sub hl [0, 1] rfl)
      ·
        have h := ite_e c29 h
        refine lv_aload_n hx hb dX6_readExpr_21 rfl (lv_at hl 0 rfl) ?_
        refine lv_bipush (v := 40) hx hb dX6_readExpr_22 (by decide) ?_
        obtain ⟨z_, g31, L32, hf33, h⟩ := cb_some h
        refine x_callVi (rest := []) li_X6_86 C (rX6_isSignNow_5 l G H.size a fu g L 40 z_ (g31, L32) hf33) (kR rfl) hP hD hS 5 6 rfl (zat (by decide) xs_5) rfl hl.1 rfl (Nat.le_of_ble_eq_true rfl) dX6_readExpr_24 (fun x30 u_ H locs e_ hP hD hS => ?_)
        have e_ : x30 = z_ := e_
        subst e_
        have hP : va_P G.1 vwCl (zw G (XS 2) 105 a g31 L32) H := hP
        have hD : va_D A (zw G (XS 2) 105 a g31 L32) := hD
        refine lv_if_eq (x := x30) (tgt := 35) hx hb dX6_readExpr_27 (by decide) (fun c34 => ?_) (fun c34 => ?_)
        ·
          have h := ite_t c34 h
          exact J35 p1 g31 L32 H locs ls h hP hD hS (lv_sub hl [0, 1] rfl)
        ·
          have h := ite_e c34 h
          exact J30 p1 g31 L32 H locs ls h hP hD hS (lv_sub hl [0, 1] rfl)
set_option maxHeartbeats 4000000 in
set_option maxRecDepth 100000 in
theorem rX6_readPart_5_L3 (l : Launch) (G : kG) (sz : Nat) (a : Nat → Nat) (fu : Nat) (g : Nat → Nat → Int32) (L : Nat → Nat → Int64) (p1 : Int32) (res : Unit) (s9 : zS) (h : fX6_readPart_5 fu (fX6_readExpr_5 fu 2) p1 g L = some (res, s9)) : kM l yX6_readPart cX6_readPart 3 none { frames := 26, cells := 0, slots := 0, locals := 549 } G [.ref (a 5), .int p1] (zw G (XS 2) 105 a g L) sz (kQv G (S := Unit) (fun _ => True) (fun _ => zw G (XS 2) 105 a s9.1 s9.2)) := by
  refine kM.of (by decide) (Nat.le_of_ble_eq_true rfl) ?_
  intro p e s m below meth c A ls H C hr hlk hnm hP hD hS hl
  have C : kC G p s m c cX6_readPart 3 RX6 A := C
  have hx := C.1
  have hb := C.2.1
  have hl : lv_has ls 3 [(0, .ref (a 5)), (1, .int p1)] := hl
  obtain ⟨locs, hlocs⟩ : ∃ q : List Loc, q = [] := ⟨_, rfl⟩
  rw [← hlocs] at hS
  rw [← hlocs]
  unfold fX6_readPart_5 at h
  refine lv_aload_n hx hb dX6_readPart_0 rfl (lv_at hl 0 rfl) ?_
  refine x_getv (v := .int (g 5 4)) (Or.inl fl_X6_50) C hP (by decide) xs_5 rfl dX6_readPart_1 ?_
  refine lv_iconst (v := 1) hx hb dX6_readPart_4 (by decide) ?_
  have J111 : ∀ (g : Nat → Nat → Int32) (L : Nat → Nat → Int64) (H : Heap) (locs : List Loc) (ls : Array Slot), fX6_readPart_5_p111 fu (fX6_readExpr_5 fu 2) g L = some (res, s9) → va_P G.1 vwCl (zw G (XS 2) 105 a g L) H → va_D A (zw G (XS 2) 105 a g L) → va_S A s.heap H locs → lv_has ls 3 [] → W p l e { frames := 26, cells := 0, slots := 0, locals := 549 } s m [.ref (a 5), .int p1].toArray below meth c H locs 0 0 (MQ below ((kQv G (S := Unit) (fun _ => True) (fun _ => zw G (XS 2) 105 a s9.1 s9.2)) A) [.ref (a 5), .int p1].toArray s 0 0 A) (F0 m 111 ls []) := by
    intro g L H locs ls h hP hD hS hl
    unfold fX6_readPart_5_p111 at h
    exact y_vret C hr hlk hP hD hS h (Nat.le_of_ble_eq_true rfl) (Nat.le_of_ble_eq_true rfl) dX6_readPart_111
  refine lv_icmp_ne (x := (g 5 4)) (y := 1) (tgt := 29) hx hb dX6_readPart_5 (by decide) (fun c1 => ?_) (fun c1 => ?_)
  ·
    have h := ite_e c1 h
    refine lv_aload_n hx hb dX6_readPart_29 rfl (lv_at hl 0 rfl) ?_
    refine x_getv (v := .int (g 5 4)) (Or.inl fl_X6_50) C hP (by decide) xs_5 rfl dX6_readPart_30 ?_
    refine lv_iconst (v := 2) hx hb dX6_readPart_33 (by decide) ?_
    refine lv_icmp_ne (x := (g 5 4)) (y := 2) (tgt := 72) hx hb dX6_readPart_34 (by decide) (fun c2 => ?_) (fun c2 => ?_)
    ·
      have h := ite_e c2 h
      refine lv_aload_n hx hb dX6_readPart_72 rfl (lv_at hl 0 rfl) ?_
      refine lv_bipush (v := 40) hx hb dX6_readPart_73 (by decide) ?_
      obtain ⟨z_, g4, L5, hf6, h⟩ := cb_some h
      refine x_callVi (rest := []) li_X6_86 C (rX6_isSignNow_5 l G H.size a fu g L 40 z_ (g4, L5) hf6) (kR rfl) hP hD hS 5 6 rfl (zat (by decide) xs_5) rfl hl.1 rfl (Nat.le_of_ble_eq_true rfl) dX6_readPart_75 (fun x3 u_ H locs e_ hP hD hS => ?_)
      have e_ : x3 = z_ := e_
      subst e_
      have hP : va_P G.1 vwCl (zw G (XS 2) 105 a g4 L5) H := hP
      have hD : va_D A (zw G (XS 2) 105 a g4 L5) := hD
      have J106 : ∀ (g : Nat → Nat → Int32) (L : Nat → Nat → Int64) (H : Heap) (locs : List Loc) (ls : Array Slot), fX6_readPart_5_p106 fu (fX6_readExpr_5 fu 2) g L = some (res, s9) → va_P G.1 vwCl (zw G (XS 2) 105 a g L) H → va_D A (zw G (XS 2) 105 a g L) → va_S A s.heap H locs → lv_has ls 3 [(0, .ref (a 5))] → W p l e { frames := 26, cells := 0, slots := 0, locals := 549 } s m [.ref (a 5), .int p1].toArray below meth c H locs 0 0 (MQ below ((kQv G (S := Unit) (fun _ => True) (fun _ => zw G (XS 2) 105 a s9.1 s9.2)) A) [.ref (a 5), .int p1].toArray s 0 0 A) (F0 m 106 ls []) := by
        intro g L H locs ls h hP hD hS hl
        unfold fX6_readPart_5_p106 at h
        refine lv_aload_n hx hb dX6_readPart_106 rfl (lv_at hl 0 rfl) ?_
        refine lv_iconst (v := 1) hx hb dX6_readPart_107 (by decide) ?_
        obtain ⟨z_, g8, L9, hf10, h⟩ := cb_some h
        refine x_callVv (rest := []) li_X6_78 C (rX6_refuse_5 l G H.size a fu g L 1 z_ (g8, L9) hf10) (kR rfl) hP hD hS 5 6 rfl (zat (by decide) xs_5) rfl hl.1 rfl (Nat.le_of_ble_eq_true rfl) dX6_readPart_108 (fun u_ H locs e_ hP hD hS => ?_)
        have hP : va_P G.1 vwCl (zw G (XS 2) 105 a g8 L9) H := hP
        have hD : va_D A (zw G (XS 2) 105 a g8 L9) := hD
        exact J111 g8 L9 H locs ls h hP hD hS (lv_sub hl [] rfl)
      refine lv_if_eq (x := x3) (tgt := 106) hx hb dX6_readPart_78 (by decide) (fun c11 => ?_) (fun c11 => ?_)
      ·
        have h := ite_t c11 h
        exact J106 g4 L5 H locs ls h hP hD hS (lv_sub hl [0] rfl)
      ·
        have h := ite_e c11 h
        refine lv_iload_n hx hb dX6_readPart_81 rfl (lv_at hl 1 rfl) ?_
        refine lv_iconst (v := 5) hx hb dX6_readPart_82 (by decide) ?_
        refine lv_icmp_gt (x := p1) (y := 5) (tgt := 106) hx hb dX6_readPart_83 (by decide) (fun c12 => ?_) (fun c12 => ?_)
        ·
          have h := ite_t c12 h
          exact J106 g4 L5 H locs ls h hP hD hS (lv_sub hl [0] rfl)
        ·
          have h := ite_e c12 h
          refine lv_aload_n hx hb dX6_readPart_86 rfl (lv_at hl 0 rfl) ?_
          obtain ⟨z_, g14, L15, hf16, h⟩ := cb_some h
          refine x_callVv (rest := []) li_X6_53 C (rX6_advance_5 l G H.size a fu g4 L5 z_ (g14, L15) hf16) (kR rfl) hP hD hS 5 6 rfl (zat (by decide) xs_5) rfl hl.1 rfl (Nat.le_of_ble_eq_true rfl) dX6_readPart_87 (fun u_ H locs e_ hP hD hS => ?_)
          have hP : va_P G.1 vwCl (zw G (XS 2) 105 a g14 L15) H := hP
          have hD : va_D A (zw G (XS 2) 105 a g14 L15) := hD
          refine lv_aload_n hx hb dX6_readPart_90 rfl (lv_at hl 0 rfl) ?_
          refine lv_iload_n hx hb dX6_readPart_91 rfl (lv_at hl 1 rfl) ?_
          refine lv_iconst (v := 1) hx hb dX6_readPart_92 (by decide) ?_
          refine lv_iadd hx hb dX6_readPart_93 ?_
          obtain ⟨z_, g18, L19, hf20, h⟩ := cb_some h
          refine x_callVv (rest := []) li_X6_134 C (rX6_readExpr_5_L2 l G H.size a fu g14 L15 (p1 + 1) z_ (g18, L19) hf20) (kR rfl) hP hD hS 5 6 rfl (zat (by decide) xs_5) rfl hl.1 rfl (Nat.le_of_ble_eq_true rfl) dX6_readPart_94 (fun u_ H locs e_ hP hD hS => ?_)
          have hP : va_P G.1 vwCl (zw G (XS 2) 105 a g18 L19) H := hP
          have hD : va_D A (zw G (XS 2) 105 a g18 L19) := hD
          refine lv_aload_n hx hb dX6_readPart_97 rfl (lv_at hl 0 rfl) ?_
          refine lv_bipush (v := 41) hx hb dX6_readPart_98 (by decide) ?_
          obtain ⟨z_, g22, L23, hf24, h⟩ := cb_some h
          refine x_callVv (rest := []) li_X6_114 C (rX6_readSign_5 l G H.size a fu g18 L19 41 z_ (g22, L23) hf24) (kR rfl) hP hD hS 5 6 rfl (zat (by decide) xs_5) rfl hl.1 rfl (Nat.le_of_ble_eq_true rfl) dX6_readPart_100 (fun u_ H locs e_ hP hD hS => ?_)
          have hP : va_P G.1 vwCl (zw G (XS 2) 105 a g22 L23) H := hP
          have hD : va_D A (zw G (XS 2) 105 a g22 L23) := hD
          refine lv_goto (tgt := 111) hx hb dX6_readPart_103 (by decide) ?_
          exact J111 g22 L23 H locs ls h hP hD hS (lv_sub hl [] rfl)
    ·
      have h := ite_t c2 h
      refine lv_aload_n hx hb dX6_readPart_37 rfl (lv_at hl 0 rfl) ?_
      obtain ⟨z_, g26, L27, hf28, h⟩ := cb_some h
      refine x_callVi (rest := []) li_X6_233 C (rX6_valueNow_5 l G H.size a fu g L z_ (g26, L27) hf28) (kR rfl) hP hD hS 5 6 rfl (zat (by decide) xs_5) rfl hl.1 rfl (Nat.le_of_ble_eq_true rfl) dX6_readPart_38 (fun x25 u_ H locs e_ hP hD hS => ?_)
      have e_ : x25 = z_ := e_
      subst e_
      have hP : va_P G.1 vwCl (zw G (XS 2) 105 a g26 L27) H := hP
      have hD : va_D A (zw G (XS 2) 105 a g26 L27) := hD
      refine lv_istore_n (lv' := [(2, .int x25), (0, .ref (a 5)), (1, .int p1)]) hx hb dX6_readPart_41 rfl hl (by decide) rfl (fun ls hl => ?_)
      refine lv_iload_n hx hb dX6_readPart_42 rfl (lv_at hl 0 rfl) ?_
      refine lv_iconst (v := -1) hx hb dX6_readPart_43 (by decide) ?_
      have J52 : ∀ (v2 : Int32) (g : Nat → Nat → Int32) (L : Nat → Nat → Int64) (H : Heap) (locs : List Loc) (ls : Array Slot), fX6_readPart_5_p52 fu (fX6_readExpr_5 fu 2) v2 g L = some (res, s9) → va_P G.1 vwCl (zw G (XS 2) 105 a g L) H → va_D A (zw G (XS 2) 105 a g L) → va_S A s.heap H locs → lv_has ls 3 [(0, .ref (a 5)), (2, .int v2)] → W p l e { frames := 26, cells := 0, slots := 0, locals := 549 } s m [.ref (a 5), .int p1].toArray below meth c H locs 0 0 (MQ below ((kQv G (S := Unit) (fun _ => True) (fun _ => zw G (XS 2) 105 a s9.1 s9.2)) A) [.ref (a 5), .int p1].toArray s 0 0 A) (F0 m 52 ls []) := by
        intro v2 g L H locs ls h hP hD hS hl
        unfold fX6_readPart_5_p52 at h
        refine lv_aload_n hx hb dX6_readPart_52 rfl (lv_at hl 0 rfl) ?_
        refine x_getr (Or.inl fl_X6_15) C hP (by decide) xs_5 rfl dX6_readPart_53 ?_
        refine x_getr (Or.inr fl_X6_125) C hP (by decide) xs_2 rfl dX6_readPart_56 ?_
        refine lv_iconst (v := -1) hx hb dX6_readPart_59 (by decide) ?_
        refine lv_iload_n hx hb dX6_readPart_60 rfl (lv_at hl 1 rfl) ?_
        refine lv_isub hx hb dX6_readPart_61 ?_
        obtain ⟨z_, g30, L31, hf32, h⟩ := cb_some h
        refine x_callNv (rest := []) li_X6_211 C (rX8_add_4 l G H.size 2 a fu g L ((-1) - v2) z_ (g30, L31) hf32) (kR rfl) hP hD hS 4 8 rfl (zat (by decide) xs_4) rfl hl.1 rfl (Nat.le_of_ble_eq_true rfl) dX6_readPart_62 (fun u_ H locs e_ hP hD hS => ?_)
        have hP : va_P G.1 vwCl (zw G (XS 2) 105 a g30 L31) H := hP
        have hD : va_D A (zw G (XS 2) 105 a g30 L31) := hD
        refine lv_aload_n hx hb dX6_readPart_65 rfl (lv_at hl 0 rfl) ?_
        obtain ⟨z_, g34, L35, hf36, h⟩ := cb_some h
        refine x_callVv (rest := []) li_X6_53 C (rX6_advance_5 l G H.size a fu g30 L31 z_ (g34, L35) hf36) (kR rfl) hP hD hS 5 6 rfl (zat (by decide) xs_5) rfl hl.1 rfl (Nat.le_of_ble_eq_true rfl) dX6_readPart_66 (fun u_ H locs e_ hP hD hS => ?_)
        have hP : va_P G.1 vwCl (zw G (XS 2) 105 a g34 L35) H := hP
        have hD : va_D A (zw G (XS 2) 105 a g34 L35) := hD
        refine lv_goto (tgt := 111) hx hb dX6_readPart_69 (by decide) ?_
        exact J111 g34 L35 H locs ls h hP hD hS (lv_sub hl [] rfl)
      refine lv_icmp_ne (x := x25) (y := (-1)) (tgt := 52) hx hb dX6_readPart_44 (by decide) (fun c37 => ?_) (fun c37 => ?_)
      ·
        have h := ite_e c37 h
        exact J52 x25 g26 L27 H locs ls h hP hD hS (lv_sub hl [1, 0] rfl)
      ·
        have h := ite_t c37 h
        refine lv_aload_n hx hb dX6_readPart_47 rfl (lv_at hl 1 rfl) ?_
        refine lv_iconst (v := 3) hx hb dX6_readPart_48 (by decide) ?_
        obtain ⟨z_, g39, L40, hf41, h⟩ := cb_some h
        refine x_callVv (rest := []) li_X6_78 C (rX6_refuse_5 l G H.size a fu g26 L27 3 z_ (g39, L40) hf41) (kR rfl) hP hD hS 5 6 rfl (zat (by decide) xs_5) rfl hl.1 rfl (Nat.le_of_ble_eq_true rfl) dX6_readPart_49 (fun u_ H locs e_ hP hD hS => ?_)
        have hP : va_P G.1 vwCl (zw G (XS 2) 105 a g39 L40) H := hP
        have hD : va_D A (zw G (XS 2) 105 a g39 L40) := hD
        exact J52 x25 g39 L40 H locs ls h hP hD hS (lv_sub hl [1, 0] rfl)
  ·
    have h := ite_t c1 h
    refine lv_aload_n hx hb dX6_readPart_8 rfl (lv_at hl 0 rfl) ?_
    refine x_getr (Or.inl fl_X6_15) C hP (by decide) xs_5 rfl dX6_readPart_9 ?_
    refine x_getr (Or.inr fl_X6_125) C hP (by decide) xs_2 rfl dX6_readPart_12 ?_
    refine lv_aload_n hx hb dX6_readPart_15 rfl (lv_at hl 0 rfl) ?_
    refine lv_iconst (v := 0) hx hb dX6_readPart_16 (by decide) ?_
    refine lv_sipush (v := 9999) hx hb dX6_readPart_17 (by decide) ?_
    obtain ⟨z_, g43, L44, hf45, h⟩ := cb_some h
    refine x_callVi (rest := [.ref (a 4)]) li_X6_118 C (rX6_readNumber_5 l G H.size a fu g L 0 9999 z_ (g43, L44) hf45) (kR rfl) hP hD hS 5 6 rfl (zat (by decide) xs_5) rfl hl.1 rfl (Nat.le_of_ble_eq_true rfl) dX6_readPart_20 (fun x42 u_ H locs e_ hP hD hS => ?_)
    have e_ : x42 = z_ := e_
    subst e_
    have hP : va_P G.1 vwCl (zw G (XS 2) 105 a g43 L44) H := hP
    have hD : va_D A (zw G (XS 2) 105 a g43 L44) := hD
    obtain ⟨z_, g47, L48, hf49, h⟩ := cb_some h
    refine x_callNv (rest := []) li_X6_211 C (rX8_add_4 l G H.size 2 a fu g43 L44 x42 z_ (g47, L48) hf49) (kR rfl) hP hD hS 4 8 rfl (zat (by decide) xs_4) rfl hl.1 rfl (Nat.le_of_ble_eq_true rfl) dX6_readPart_23 (fun u_ H locs e_ hP hD hS => ?_)
    have hP : va_P G.1 vwCl (zw G (XS 2) 105 a g47 L48) H := hP
    have hD : va_D A (zw G (XS 2) 105 a g47 L48) := hD
    refine lv_goto (tgt := 111) hx hb dX6_readPart_26 (by decide) ?_
    exact J111 g47 L48 H locs ls h hP hD hS (lv_sub hl [] rfl)
set_option maxHeartbeats 4000000 in
set_option maxRecDepth 100000 in
theorem rX6_readProduct_5_L3 (l : Launch) (G : kG) (sz : Nat) (a : Nat → Nat) (fu : Nat) (g : Nat → Nat → Int32) (L : Nat → Nat → Int64) (p1 : Int32) (res : Unit) (s9 : zS) (h : fX6_readProduct_5 fu (fX6_readExpr_5 fu 2) p1 g L = some (res, s9)) : kM l yX6_readProduct cX6_readProduct 4 none { frames := 27, cells := 0, slots := 0, locals := 571 } G [.ref (a 5), .int p1] (zw G (XS 2) 105 a g L) sz (kQv G (S := Unit) (fun _ => True) (fun _ => zw G (XS 2) 105 a s9.1 s9.2)) := by
  refine kM.of (by decide) (Nat.le_of_ble_eq_true rfl) ?_
  intro p e s m below meth c A ls H C hr hlk hnm hP hD hS hl
  have C : kC G p s m c cX6_readProduct 4 RX6 A := C
  have hx := C.1
  have hb := C.2.1
  have hl : lv_has ls 4 [(0, .ref (a 5)), (1, .int p1)] := hl
  obtain ⟨locs, hlocs⟩ : ∃ q : List Loc, q = [] := ⟨_, rfl⟩
  rw [← hlocs] at hS
  rw [← hlocs]
  unfold fX6_readProduct_5 at h
  refine lv_aload_n hx hb dX6_readProduct_0 rfl (lv_at hl 0 rfl) ?_
  refine lv_iload_n hx hb dX6_readProduct_1 rfl (lv_at hl 1 rfl) ?_
  obtain ⟨z_, g2, L3, hf4, h⟩ := cb_some h
  refine x_callVv (rest := []) li_X6_230 C (rX6_readPart_5_L3 l G H.size a fu g L p1 z_ (g2, L3) hf4) (kR rfl) hP hD hS 5 6 rfl (zat (by decide) xs_5) rfl hl.1 rfl (Nat.le_of_ble_eq_true rfl) dX6_readProduct_2 (fun u_ H locs e_ hP hD hS => ?_)
  have hP : va_P G.1 vwCl (zw G (XS 2) 105 a g2 L3) H := hP
  have hD : va_D A (zw G (XS 2) 105 a g2 L3) := hD
  refine lv_iconst (v := 0) hx hb dX6_readProduct_5 (by decide) ?_
  refine lv_istore_n (lv' := [(2, .int 0), (0, .ref (a 5)), (1, .int p1)]) hx hb dX6_readProduct_6 rfl hl (by decide) rfl (fun ls hl => ?_)
  have lp7 : ∀ (v1 : Int32), ∀ (n : Nat) (v : Int32 × (Nat → Nat → Int32) × (Nat → Nat → Int64)), whileK (fun k v => fX6_readProduct_5_s7 fu (fX6_readExpr_5 fu 2) v1 k v.1 v.2.1 v.2.2) n v = some (res, s9) → ∀ (H : Heap) (locs : List Loc) (ls : Array Slot), va_P G.1 vwCl (zw G (XS 2) 105 a (v.2.1) (v.2.2)) H → va_D A (zw G (XS 2) 105 a (v.2.1) (v.2.2)) → va_S A s.heap H locs → lv_has ls 4 [(0, .ref (a 5)), (1, .int v1), (2, .int (v.1))] → W p l e { frames := 27, cells := 0, slots := 0, locals := 571 } s m [.ref (a 5), .int p1].toArray below meth c H locs 0 0 (MQ below ((kQv G (S := Unit) (fun _ => True) (fun _ => zw G (XS 2) 105 a s9.1 s9.2)) A) [.ref (a 5), .int p1].toArray s 0 0 A) (F0 m 7 ls []) := by
    intro v1
    refine while_ind (fun k7 ih7 v h => ?_)
    obtain ⟨v2, g, L⟩ := v
    intro H locs ls hP hD hS hl
    have h : fX6_readProduct_5_s7 fu (fX6_readExpr_5 fu 2) v1 k7 v2 g L = some (res, s9) := h
    have hP : va_P G.1 vwCl (zw G (XS 2) 105 a g L) H := hP
    have hD : va_D A (zw G (XS 2) 105 a g L) := hD
    have hl : lv_has ls 4 [(0, .ref (a 5)), (1, .int v1), (2, .int v2)] := hl
    show W p l e { frames := 27, cells := 0, slots := 0, locals := 571 } s m [.ref (a 5), .int p1].toArray below meth c H locs 0 0 (MQ below ((kQv G (S := Unit) (fun _ => True) (fun _ => zw G (XS 2) 105 a s9.1 s9.2)) A) [.ref (a 5), .int p1].toArray s 0 0 A) (F0 m 7 ls [])
    unfold fX6_readProduct_5_s7 at h
    refine lv_iload_n hx hb dX6_readProduct_7 rfl (lv_at hl 2 rfl) ?_
    refine lv_sipush (v := 700) hx hb dX6_readProduct_8 (by decide) ?_
    have J75 : ∀ (g : Nat → Nat → Int32) (L : Nat → Nat → Int64) (H : Heap) (locs : List Loc) (ls : Array Slot), fX6_readProduct_5_p75 fu (fX6_readExpr_5 fu 2) g L = some (res, s9) → va_P G.1 vwCl (zw G (XS 2) 105 a g L) H → va_D A (zw G (XS 2) 105 a g L) → va_S A s.heap H locs → lv_has ls 4 [] → W p l e { frames := 27, cells := 0, slots := 0, locals := 571 } s m [.ref (a 5), .int p1].toArray below meth c H locs 0 0 (MQ below ((kQv G (S := Unit) (fun _ => True) (fun _ => zw G (XS 2) 105 a s9.1 s9.2)) A) [.ref (a 5), .int p1].toArray s 0 0 A) (F0 m 75 ls []) := by
      intro g L H locs ls h hP hD hS hl
      unfold fX6_readProduct_5_p75 at h
      exact y_vret C hr hlk hP hD hS h (Nat.le_of_ble_eq_true rfl) (Nat.le_of_ble_eq_true rfl) dX6_readProduct_75
    refine lv_icmp_ge (x := v2) (y := 700) (tgt := 75) hx hb dX6_readProduct_11 (by decide) (fun c5 => ?_) (fun c5 => ?_)
    ·
      have h := ite_t c5 h
      exact J75 g L H locs ls h hP hD hS (lv_sub hl [] rfl)
    ·
      have h := ite_e c5 h
      refine lv_aload_n hx hb dX6_readProduct_14 rfl (lv_at hl 0 rfl) ?_
      refine lv_bipush (v := 42) hx hb dX6_readProduct_15 (by decide) ?_
      obtain ⟨z_, g7, L8, hf9, h⟩ := cb_some h
      refine x_callVi (rest := []) li_X6_86 C (rX6_isSignNow_5 l G H.size a fu g L 42 z_ (g7, L8) hf9) (kR rfl) hP hD hS 5 6 rfl (zat (by decide) xs_5) rfl hl.1 rfl (Nat.le_of_ble_eq_true rfl) dX6_readProduct_17 (fun x6 u_ H locs e_ hP hD hS => ?_)
      have e_ : x6 = z_ := e_
      subst e_
      have hP : va_P G.1 vwCl (zw G (XS 2) 105 a g7 L8) H := hP
      have hD : va_D A (zw G (XS 2) 105 a g7 L8) := hD
      have J32 : ∀ (v2 : Int32) (g : Nat → Nat → Int32) (L : Nat → Nat → Int64) (H : Heap) (locs : List Loc) (ls : Array Slot), fX6_readProduct_5_p32 fu (fX6_readExpr_5 fu 2) k7 v1 v2 g L = some (res, s9) → va_P G.1 vwCl (zw G (XS 2) 105 a g L) H → va_D A (zw G (XS 2) 105 a g L) → va_S A s.heap H locs → lv_has ls 4 [(0, .ref (a 5)), (1, .int v1), (2, .int v2)] → W p l e { frames := 27, cells := 0, slots := 0, locals := 571 } s m [.ref (a 5), .int p1].toArray below meth c H locs 0 0 (MQ below ((kQv G (S := Unit) (fun _ => True) (fun _ => zw G (XS 2) 105 a s9.1 s9.2)) A) [.ref (a 5), .int p1].toArray s 0 0 A) (F0 m 32 ls []) := by
        intro v2 g L H locs ls h hP hD hS hl
        unfold fX6_readProduct_5_p32 at h
        refine lv_aload_n hx hb dX6_readProduct_32 rfl (lv_at hl 0 rfl) ?_
        refine lv_bipush (v := 42) hx hb dX6_readProduct_33 (by decide) ?_
        obtain ⟨z_, g11, L12, hf13, h⟩ := cb_some h
        refine x_callVi (rest := []) li_X6_86 C (rX6_isSignNow_5 l G H.size a fu g L 42 z_ (g11, L12) hf13) (kR rfl) hP hD hS 5 6 rfl (zat (by decide) xs_5) rfl hl.1 rfl (Nat.le_of_ble_eq_true rfl) dX6_readProduct_35 (fun x10 u_ H locs e_ hP hD hS => ?_)
        have e_ : x10 = z_ := e_
        subst e_
        have hP : va_P G.1 vwCl (zw G (XS 2) 105 a g11 L12) H := hP
        have hD : va_D A (zw G (XS 2) 105 a g11 L12) := hD
        have J48 : ∀ (v2 : Int32) (t0 : Int32) (g : Nat → Nat → Int32) (L : Nat → Nat → Int64) (H : Heap) (locs : List Loc) (ls : Array Slot), fX6_readProduct_5_p48 fu (fX6_readExpr_5 fu 2) k7 v1 v2 t0 g L = some (res, s9) → va_P G.1 vwCl (zw G (XS 2) 105 a g L) H → va_D A (zw G (XS 2) 105 a g L) → va_S A s.heap H locs → lv_has ls 4 [(0, .ref (a 5)), (1, .int v1), (2, .int v2)] → W p l e { frames := 27, cells := 0, slots := 0, locals := 571 } s m [.ref (a 5), .int p1].toArray below meth c H locs 0 0 (MQ below ((kQv G (S := Unit) (fun _ => True) (fun _ => zw G (XS 2) 105 a s9.1 s9.2)) A) [.ref (a 5), .int p1].toArray s 0 0 A) (F0 m 48 ls [.int t0]) := by
          intro v2 t0 g L H locs ls h hP hD hS hl
          unfold fX6_readProduct_5_p48 at h
          refine lv_istore_n (lv' := [(3, .int t0), (0, .ref (a 5)), (1, .int v1), (2, .int v2)]) hx hb dX6_readProduct_48 rfl hl (by decide) rfl (fun ls hl => ?_)
          refine lv_aload_n hx hb dX6_readProduct_49 rfl (lv_at hl 1 rfl) ?_
          obtain ⟨z_, g15, L16, hf17, h⟩ := cb_some h
          refine x_callVv (rest := []) li_X6_53 C (rX6_advance_5 l G H.size a fu g L z_ (g15, L16) hf17) (kR rfl) hP hD hS 5 6 rfl (zat (by decide) xs_5) rfl hl.1 rfl (Nat.le_of_ble_eq_true rfl) dX6_readProduct_50 (fun u_ H locs e_ hP hD hS => ?_)
          have hP : va_P G.1 vwCl (zw G (XS 2) 105 a g15 L16) H := hP
          have hD : va_D A (zw G (XS 2) 105 a g15 L16) := hD
          refine lv_aload_n hx hb dX6_readProduct_53 rfl (lv_at hl 1 rfl) ?_
          refine lv_iload_n hx hb dX6_readProduct_54 rfl (lv_at hl 2 rfl) ?_
          obtain ⟨z_, g19, L20, hf21, h⟩ := cb_some h
          refine x_callVv (rest := []) li_X6_230 C (rX6_readPart_5_L3 l G H.size a fu g15 L16 v1 z_ (g19, L20) hf21) (kR rfl) hP hD hS 5 6 rfl (zat (by decide) xs_5) rfl hl.1 rfl (Nat.le_of_ble_eq_true rfl) dX6_readProduct_55 (fun u_ H locs e_ hP hD hS => ?_)
          have hP : va_P G.1 vwCl (zw G (XS 2) 105 a g19 L20) H := hP
          have hD : va_D A (zw G (XS 2) 105 a g19 L20) := hD
          refine lv_aload_n hx hb dX6_readProduct_58 rfl (lv_at hl 1 rfl) ?_
          refine x_getr (Or.inl fl_X6_15) C hP (by decide) xs_5 rfl dX6_readProduct_59 ?_
          refine x_getr (Or.inr fl_X6_125) C hP (by decide) xs_2 rfl dX6_readProduct_62 ?_
          refine lv_iload_n hx hb dX6_readProduct_65 rfl (lv_at hl 0 rfl) ?_
          obtain ⟨z_, g23, L24, hf25, h⟩ := cb_some h
          refine x_callNv (rest := []) li_X6_211 C (rX8_add_4 l G H.size 2 a fu g19 L20 t0 z_ (g23, L24) hf25) (kR rfl) hP hD hS 4 8 rfl (zat (by decide) xs_4) rfl hl.1 rfl (Nat.le_of_ble_eq_true rfl) dX6_readProduct_66 (fun u_ H locs e_ hP hD hS => ?_)
          have hP : va_P G.1 vwCl (zw G (XS 2) 105 a g23 L24) H := hP
          have hD : va_D A (zw G (XS 2) 105 a g23 L24) := hD
          refine lv_iinc (v := (v2 + 1)) (lv' := [(2, .int (v2 + 1)), (3, .int t0), (0, .ref (a 5)), (1, .int v1)]) hx hb dX6_readProduct_69 hl (k := 3) rfl rfl (by decide) rfl (fun ls hl => ?_)
          refine lv_goto (tgt := 7) hx hb dX6_readProduct_72 (by decide) ?_
          exact ih7 ((v2 + 1), g23, L24) h H locs ls hP hD hS (lv_sub hl [2, 3, 0] rfl)
        refine lv_if_eq (x := x10) (tgt := 46) hx hb dX6_readProduct_38 (by decide) (fun c26 => ?_) (fun c26 => ?_)
        ·
          have h := ite_t c26 h
          refine lv_bipush (v := -10) hx hb dX6_readProduct_46 (by decide) ?_
          exact J48 v2 (-10) g11 L12 H locs ls h hP hD hS (lv_sub hl [0, 1, 2] rfl)
        ·
          have h := ite_e c26 h
          refine lv_bipush (v := -9) hx hb dX6_readProduct_41 (by decide) ?_
          refine lv_goto (tgt := 48) hx hb dX6_readProduct_43 (by decide) ?_
          exact J48 v2 (-9) g11 L12 H locs ls h hP hD hS (lv_sub hl [0, 1, 2] rfl)
      refine lv_if_ne (x := x6) (tgt := 32) hx hb dX6_readProduct_20 (by decide) (fun c27 => ?_) (fun c27 => ?_)
      ·
        have h := ite_e c27 h
        exact J32 v2 g7 L8 H locs ls h hP hD hS (lv_sub hl [0, 1, 2] rfl)
      ·
        have h := ite_t c27 h
        refine lv_aload_n hx hb dX6_readProduct_23 rfl (lv_at hl 0 rfl) ?_
        refine lv_bipush (v := 47) hx hb dX6_readProduct_24 (by decide) ?_
        obtain ⟨z_, g29, L30, hf31, h⟩ := cb_some h
        refine x_callVi (rest := []) li_X6_86 C (rX6_isSignNow_5 l G H.size a fu g7 L8 47 z_ (g29, L30) hf31) (kR rfl) hP hD hS 5 6 rfl (zat (by decide) xs_5) rfl hl.1 rfl (Nat.le_of_ble_eq_true rfl) dX6_readProduct_26 (fun x28 u_ H locs e_ hP hD hS => ?_)
        have e_ : x28 = z_ := e_
        subst e_
        have hP : va_P G.1 vwCl (zw G (XS 2) 105 a g29 L30) H := hP
        have hD : va_D A (zw G (XS 2) 105 a g29 L30) := hD
        refine lv_if_eq (x := x28) (tgt := 75) hx hb dX6_readProduct_29 (by decide) (fun c32 => ?_) (fun c32 => ?_)
        ·
          have h := ite_t c32 h
          exact J75 g29 L30 H locs ls h hP hD hS (lv_sub hl [] rfl)
        ·
          have h := ite_e c32 h
          exact J32 v2 g29 L30 H locs ls h hP hD hS (lv_sub hl [0, 1, 2] rfl)
  exact lp7 p1 fu (0, g2, L3) h H locs ls hP hD hS (lv_sub hl [1, 2, 0] rfl)
set_option maxHeartbeats 4000000 in
set_option maxRecDepth 100000 in
theorem rX6_readSum_5_L3 (l : Launch) (G : kG) (sz : Nat) (a : Nat → Nat) (fu : Nat) (g : Nat → Nat → Int32) (L : Nat → Nat → Int64) (p1 : Int32) (res : Unit) (s9 : zS) (h : fX6_readSum_5 fu (fX6_readExpr_5 fu 2) p1 g L = some (res, s9)) : kM l yX6_readSum cX6_readSum 4 none { frames := 28, cells := 0, slots := 0, locals := 594 } G [.ref (a 5), .int p1] (zw G (XS 2) 105 a g L) sz (kQv G (S := Unit) (fun _ => True) (fun _ => zw G (XS 2) 105 a s9.1 s9.2)) := by
  refine kM.of (by decide) (Nat.le_of_ble_eq_true rfl) ?_
  intro p e s m below meth c A ls H C hr hlk hnm hP hD hS hl
  have C : kC G p s m c cX6_readSum 4 RX6 A := C
  have hx := C.1
  have hb := C.2.1
  have hl : lv_has ls 4 [(0, .ref (a 5)), (1, .int p1)] := hl
  obtain ⟨locs, hlocs⟩ : ∃ q : List Loc, q = [] := ⟨_, rfl⟩
  rw [← hlocs] at hS
  rw [← hlocs]
  unfold fX6_readSum_5 at h
  refine lv_aload_n hx hb dX6_readSum_0 rfl (lv_at hl 0 rfl) ?_
  refine lv_iload_n hx hb dX6_readSum_1 rfl (lv_at hl 1 rfl) ?_
  obtain ⟨z_, g2, L3, hf4, h⟩ := cb_some h
  refine x_callVv (rest := []) li_X6_227 C (rX6_readProduct_5_L3 l G H.size a fu g L p1 z_ (g2, L3) hf4) (kR rfl) hP hD hS 5 6 rfl (zat (by decide) xs_5) rfl hl.1 rfl (Nat.le_of_ble_eq_true rfl) dX6_readSum_2 (fun u_ H locs e_ hP hD hS => ?_)
  have hP : va_P G.1 vwCl (zw G (XS 2) 105 a g2 L3) H := hP
  have hD : va_D A (zw G (XS 2) 105 a g2 L3) := hD
  refine lv_iconst (v := 0) hx hb dX6_readSum_5 (by decide) ?_
  refine lv_istore_n (lv' := [(2, .int 0), (0, .ref (a 5)), (1, .int p1)]) hx hb dX6_readSum_6 rfl hl (by decide) rfl (fun ls hl => ?_)
  have lp7 : ∀ (v1 : Int32), ∀ (n : Nat) (v : Int32 × (Nat → Nat → Int32) × (Nat → Nat → Int64)), whileK (fun k v => fX6_readSum_5_s7 fu (fX6_readExpr_5 fu 2) v1 k v.1 v.2.1 v.2.2) n v = some (res, s9) → ∀ (H : Heap) (locs : List Loc) (ls : Array Slot), va_P G.1 vwCl (zw G (XS 2) 105 a (v.2.1) (v.2.2)) H → va_D A (zw G (XS 2) 105 a (v.2.1) (v.2.2)) → va_S A s.heap H locs → lv_has ls 4 [(0, .ref (a 5)), (1, .int v1), (2, .int (v.1))] → W p l e { frames := 28, cells := 0, slots := 0, locals := 594 } s m [.ref (a 5), .int p1].toArray below meth c H locs 0 0 (MQ below ((kQv G (S := Unit) (fun _ => True) (fun _ => zw G (XS 2) 105 a s9.1 s9.2)) A) [.ref (a 5), .int p1].toArray s 0 0 A) (F0 m 7 ls []) := by
    intro v1
    refine while_ind (fun k7 ih7 v h => ?_)
    obtain ⟨v2, g, L⟩ := v
    intro H locs ls hP hD hS hl
    have h : fX6_readSum_5_s7 fu (fX6_readExpr_5 fu 2) v1 k7 v2 g L = some (res, s9) := h
    have hP : va_P G.1 vwCl (zw G (XS 2) 105 a g L) H := hP
    have hD : va_D A (zw G (XS 2) 105 a g L) := hD
    have hl : lv_has ls 4 [(0, .ref (a 5)), (1, .int v1), (2, .int v2)] := hl
    show W p l e { frames := 28, cells := 0, slots := 0, locals := 594 } s m [.ref (a 5), .int p1].toArray below meth c H locs 0 0 (MQ below ((kQv G (S := Unit) (fun _ => True) (fun _ => zw G (XS 2) 105 a s9.1 s9.2)) A) [.ref (a 5), .int p1].toArray s 0 0 A) (F0 m 7 ls [])
    unfold fX6_readSum_5_s7 at h
    refine lv_iload_n hx hb dX6_readSum_7 rfl (lv_at hl 2 rfl) ?_
    refine lv_sipush (v := 700) hx hb dX6_readSum_8 (by decide) ?_
    have J75 : ∀ (g : Nat → Nat → Int32) (L : Nat → Nat → Int64) (H : Heap) (locs : List Loc) (ls : Array Slot), fX6_readSum_5_p75 fu (fX6_readExpr_5 fu 2) g L = some (res, s9) → va_P G.1 vwCl (zw G (XS 2) 105 a g L) H → va_D A (zw G (XS 2) 105 a g L) → va_S A s.heap H locs → lv_has ls 4 [] → W p l e { frames := 28, cells := 0, slots := 0, locals := 594 } s m [.ref (a 5), .int p1].toArray below meth c H locs 0 0 (MQ below ((kQv G (S := Unit) (fun _ => True) (fun _ => zw G (XS 2) 105 a s9.1 s9.2)) A) [.ref (a 5), .int p1].toArray s 0 0 A) (F0 m 75 ls []) := by
      intro g L H locs ls h hP hD hS hl
      unfold fX6_readSum_5_p75 at h
      exact y_vret C hr hlk hP hD hS h (Nat.le_of_ble_eq_true rfl) (Nat.le_of_ble_eq_true rfl) dX6_readSum_75
    refine lv_icmp_ge (x := v2) (y := 700) (tgt := 75) hx hb dX6_readSum_11 (by decide) (fun c5 => ?_) (fun c5 => ?_)
    ·
      have h := ite_t c5 h
      exact J75 g L H locs ls h hP hD hS (lv_sub hl [] rfl)
    ·
      have h := ite_e c5 h
      refine lv_aload_n hx hb dX6_readSum_14 rfl (lv_at hl 0 rfl) ?_
      refine lv_bipush (v := 43) hx hb dX6_readSum_15 (by decide) ?_
      obtain ⟨z_, g7, L8, hf9, h⟩ := cb_some h
      refine x_callVi (rest := []) li_X6_86 C (rX6_isSignNow_5 l G H.size a fu g L 43 z_ (g7, L8) hf9) (kR rfl) hP hD hS 5 6 rfl (zat (by decide) xs_5) rfl hl.1 rfl (Nat.le_of_ble_eq_true rfl) dX6_readSum_17 (fun x6 u_ H locs e_ hP hD hS => ?_)
      have e_ : x6 = z_ := e_
      subst e_
      have hP : va_P G.1 vwCl (zw G (XS 2) 105 a g7 L8) H := hP
      have hD : va_D A (zw G (XS 2) 105 a g7 L8) := hD
      have J32 : ∀ (v2 : Int32) (g : Nat → Nat → Int32) (L : Nat → Nat → Int64) (H : Heap) (locs : List Loc) (ls : Array Slot), fX6_readSum_5_p32 fu (fX6_readExpr_5 fu 2) k7 v1 v2 g L = some (res, s9) → va_P G.1 vwCl (zw G (XS 2) 105 a g L) H → va_D A (zw G (XS 2) 105 a g L) → va_S A s.heap H locs → lv_has ls 4 [(0, .ref (a 5)), (1, .int v1), (2, .int v2)] → W p l e { frames := 28, cells := 0, slots := 0, locals := 594 } s m [.ref (a 5), .int p1].toArray below meth c H locs 0 0 (MQ below ((kQv G (S := Unit) (fun _ => True) (fun _ => zw G (XS 2) 105 a s9.1 s9.2)) A) [.ref (a 5), .int p1].toArray s 0 0 A) (F0 m 32 ls []) := by
        intro v2 g L H locs ls h hP hD hS hl
        unfold fX6_readSum_5_p32 at h
        refine lv_aload_n hx hb dX6_readSum_32 rfl (lv_at hl 0 rfl) ?_
        refine lv_bipush (v := 43) hx hb dX6_readSum_33 (by decide) ?_
        obtain ⟨z_, g11, L12, hf13, h⟩ := cb_some h
        refine x_callVi (rest := []) li_X6_86 C (rX6_isSignNow_5 l G H.size a fu g L 43 z_ (g11, L12) hf13) (kR rfl) hP hD hS 5 6 rfl (zat (by decide) xs_5) rfl hl.1 rfl (Nat.le_of_ble_eq_true rfl) dX6_readSum_35 (fun x10 u_ H locs e_ hP hD hS => ?_)
        have e_ : x10 = z_ := e_
        subst e_
        have hP : va_P G.1 vwCl (zw G (XS 2) 105 a g11 L12) H := hP
        have hD : va_D A (zw G (XS 2) 105 a g11 L12) := hD
        have J48 : ∀ (v2 : Int32) (t0 : Int32) (g : Nat → Nat → Int32) (L : Nat → Nat → Int64) (H : Heap) (locs : List Loc) (ls : Array Slot), fX6_readSum_5_p48 fu (fX6_readExpr_5 fu 2) k7 v1 v2 t0 g L = some (res, s9) → va_P G.1 vwCl (zw G (XS 2) 105 a g L) H → va_D A (zw G (XS 2) 105 a g L) → va_S A s.heap H locs → lv_has ls 4 [(0, .ref (a 5)), (1, .int v1), (2, .int v2)] → W p l e { frames := 28, cells := 0, slots := 0, locals := 594 } s m [.ref (a 5), .int p1].toArray below meth c H locs 0 0 (MQ below ((kQv G (S := Unit) (fun _ => True) (fun _ => zw G (XS 2) 105 a s9.1 s9.2)) A) [.ref (a 5), .int p1].toArray s 0 0 A) (F0 m 48 ls [.int t0]) := by
          intro v2 t0 g L H locs ls h hP hD hS hl
          unfold fX6_readSum_5_p48 at h
          refine lv_istore_n (lv' := [(3, .int t0), (0, .ref (a 5)), (1, .int v1), (2, .int v2)]) hx hb dX6_readSum_48 rfl hl (by decide) rfl (fun ls hl => ?_)
          refine lv_aload_n hx hb dX6_readSum_49 rfl (lv_at hl 1 rfl) ?_
          obtain ⟨z_, g15, L16, hf17, h⟩ := cb_some h
          refine x_callVv (rest := []) li_X6_53 C (rX6_advance_5 l G H.size a fu g L z_ (g15, L16) hf17) (kR rfl) hP hD hS 5 6 rfl (zat (by decide) xs_5) rfl hl.1 rfl (Nat.le_of_ble_eq_true rfl) dX6_readSum_50 (fun u_ H locs e_ hP hD hS => ?_)
          have hP : va_P G.1 vwCl (zw G (XS 2) 105 a g15 L16) H := hP
          have hD : va_D A (zw G (XS 2) 105 a g15 L16) := hD
          refine lv_aload_n hx hb dX6_readSum_53 rfl (lv_at hl 1 rfl) ?_
          refine lv_iload_n hx hb dX6_readSum_54 rfl (lv_at hl 2 rfl) ?_
          obtain ⟨z_, g19, L20, hf21, h⟩ := cb_some h
          refine x_callVv (rest := []) li_X6_227 C (rX6_readProduct_5_L3 l G H.size a fu g15 L16 v1 z_ (g19, L20) hf21) (kR rfl) hP hD hS 5 6 rfl (zat (by decide) xs_5) rfl hl.1 rfl (Nat.le_of_ble_eq_true rfl) dX6_readSum_55 (fun u_ H locs e_ hP hD hS => ?_)
          have hP : va_P G.1 vwCl (zw G (XS 2) 105 a g19 L20) H := hP
          have hD : va_D A (zw G (XS 2) 105 a g19 L20) := hD
          refine lv_aload_n hx hb dX6_readSum_58 rfl (lv_at hl 1 rfl) ?_
          refine x_getr (Or.inl fl_X6_15) C hP (by decide) xs_5 rfl dX6_readSum_59 ?_
          refine x_getr (Or.inr fl_X6_125) C hP (by decide) xs_2 rfl dX6_readSum_62 ?_
          refine lv_iload_n hx hb dX6_readSum_65 rfl (lv_at hl 0 rfl) ?_
          obtain ⟨z_, g23, L24, hf25, h⟩ := cb_some h
          refine x_callNv (rest := []) li_X6_211 C (rX8_add_4 l G H.size 2 a fu g19 L20 t0 z_ (g23, L24) hf25) (kR rfl) hP hD hS 4 8 rfl (zat (by decide) xs_4) rfl hl.1 rfl (Nat.le_of_ble_eq_true rfl) dX6_readSum_66 (fun u_ H locs e_ hP hD hS => ?_)
          have hP : va_P G.1 vwCl (zw G (XS 2) 105 a g23 L24) H := hP
          have hD : va_D A (zw G (XS 2) 105 a g23 L24) := hD
          refine lv_iinc (v := (v2 + 1)) (lv' := [(2, .int (v2 + 1)), (3, .int t0), (0, .ref (a 5)), (1, .int v1)]) hx hb dX6_readSum_69 hl (k := 3) rfl rfl (by decide) rfl (fun ls hl => ?_)
          refine lv_goto (tgt := 7) hx hb dX6_readSum_72 (by decide) ?_
          exact ih7 ((v2 + 1), g23, L24) h H locs ls hP hD hS (lv_sub hl [2, 3, 0] rfl)
        refine lv_if_eq (x := x10) (tgt := 46) hx hb dX6_readSum_38 (by decide) (fun c26 => ?_) (fun c26 => ?_)
        ·
          have h := ite_t c26 h
          refine lv_bipush (v := -8) hx hb dX6_readSum_46 (by decide) ?_
          exact J48 v2 (-8) g11 L12 H locs ls h hP hD hS (lv_sub hl [0, 1, 2] rfl)
        ·
          have h := ite_e c26 h
          refine lv_bipush (v := -7) hx hb dX6_readSum_41 (by decide) ?_
          refine lv_goto (tgt := 48) hx hb dX6_readSum_43 (by decide) ?_
          exact J48 v2 (-7) g11 L12 H locs ls h hP hD hS (lv_sub hl [0, 1, 2] rfl)
      refine lv_if_ne (x := x6) (tgt := 32) hx hb dX6_readSum_20 (by decide) (fun c27 => ?_) (fun c27 => ?_)
      ·
        have h := ite_e c27 h
        exact J32 v2 g7 L8 H locs ls h hP hD hS (lv_sub hl [0, 1, 2] rfl)
      ·
        have h := ite_t c27 h
        refine lv_aload_n hx hb dX6_readSum_23 rfl (lv_at hl 0 rfl) ?_
        refine lv_bipush (v := 45) hx hb dX6_readSum_24 (by decide) ?_
        obtain ⟨z_, g29, L30, hf31, h⟩ := cb_some h
        refine x_callVi (rest := []) li_X6_86 C (rX6_isSignNow_5 l G H.size a fu g7 L8 45 z_ (g29, L30) hf31) (kR rfl) hP hD hS 5 6 rfl (zat (by decide) xs_5) rfl hl.1 rfl (Nat.le_of_ble_eq_true rfl) dX6_readSum_26 (fun x28 u_ H locs e_ hP hD hS => ?_)
        have e_ : x28 = z_ := e_
        subst e_
        have hP : va_P G.1 vwCl (zw G (XS 2) 105 a g29 L30) H := hP
        have hD : va_D A (zw G (XS 2) 105 a g29 L30) := hD
        refine lv_if_eq (x := x28) (tgt := 75) hx hb dX6_readSum_29 (by decide) (fun c32 => ?_) (fun c32 => ?_)
        ·
          have h := ite_t c32 h
          exact J75 g29 L30 H locs ls h hP hD hS (lv_sub hl [] rfl)
        ·
          have h := ite_e c32 h
          exact J32 v2 g29 L30 H locs ls h hP hD hS (lv_sub hl [0, 1, 2] rfl)
  exact lp7 p1 fu (0, g2, L3) h H locs ls hP hD hS (lv_sub hl [1, 2, 0] rfl)
set_option maxHeartbeats 4000000 in
set_option maxRecDepth 100000 in
theorem rX6_readTest_5_L3 (l : Launch) (G : kG) (sz : Nat) (a : Nat → Nat) (fu : Nat) (g : Nat → Nat → Int32) (L : Nat → Nat → Int64) (p1 : Int32) (res : Unit) (s9 : zS) (h : fX6_readTest_5 fu (fX6_readExpr_5 fu 2) p1 g L = some (res, s9)) : kM l yX6_readTest cX6_readTest 2 none { frames := 29, cells := 0, slots := 0, locals := 617 } G [.ref (a 5), .int p1] (zw G (XS 2) 105 a g L) sz (kQv G (S := Unit) (fun _ => True) (fun _ => zw G (XS 2) 105 a s9.1 s9.2)) := by
  refine kM.of (by decide) (Nat.le_of_ble_eq_true rfl) ?_
  intro p e s m below meth c A ls H C hr hlk hnm hP hD hS hl
  have C : kC G p s m c cX6_readTest 2 RX6 A := C
  have hx := C.1
  have hb := C.2.1
  have hl : lv_has ls 2 [(0, .ref (a 5)), (1, .int p1)] := hl
  obtain ⟨locs, hlocs⟩ : ∃ q : List Loc, q = [] := ⟨_, rfl⟩
  rw [← hlocs] at hS
  rw [← hlocs]
  unfold fX6_readTest_5 at h
  refine lv_aload_n hx hb dX6_readTest_0 rfl (lv_at hl 0 rfl) ?_
  refine lv_iload_n hx hb dX6_readTest_1 rfl (lv_at hl 1 rfl) ?_
  obtain ⟨z_, g2, L3, hf4, h⟩ := cb_some h
  refine x_callVv (rest := []) li_X6_224 C (rX6_readSum_5_L3 l G H.size a fu g L p1 z_ (g2, L3) hf4) (kR rfl) hP hD hS 5 6 rfl (zat (by decide) xs_5) rfl hl.1 rfl (Nat.le_of_ble_eq_true rfl) dX6_readTest_2 (fun u_ H locs e_ hP hD hS => ?_)
  have hP : va_P G.1 vwCl (zw G (XS 2) 105 a g2 L3) H := hP
  have hD : va_D A (zw G (XS 2) 105 a g2 L3) := hD
  refine lv_aload_n hx hb dX6_readTest_5 rfl (lv_at hl 0 rfl) ?_
  refine lv_bipush (v := 60) hx hb dX6_readTest_6 (by decide) ?_
  obtain ⟨z_, g6, L7, hf8, h⟩ := cb_some h
  refine x_callVi (rest := []) li_X6_86 C (rX6_isSignNow_5 l G H.size a fu g2 L3 60 z_ (g6, L7) hf8) (kR rfl) hP hD hS 5 6 rfl (zat (by decide) xs_5) rfl hl.1 rfl (Nat.le_of_ble_eq_true rfl) dX6_readTest_8 (fun x5 u_ H locs e_ hP hD hS => ?_)
  have e_ : x5 = z_ := e_
  subst e_
  have hP : va_P G.1 vwCl (zw G (XS 2) 105 a g6 L7) H := hP
  have hD : va_D A (zw G (XS 2) 105 a g6 L7) := hD
  have J68 : ∀ (g : Nat → Nat → Int32) (L : Nat → Nat → Int64) (H : Heap) (locs : List Loc) (ls : Array Slot), fX6_readTest_5_p68 fu (fX6_readExpr_5 fu 2) g L = some (res, s9) → va_P G.1 vwCl (zw G (XS 2) 105 a g L) H → va_D A (zw G (XS 2) 105 a g L) → va_S A s.heap H locs → lv_has ls 2 [] → W p l e { frames := 29, cells := 0, slots := 0, locals := 617 } s m [.ref (a 5), .int p1].toArray below meth c H locs 0 0 (MQ below ((kQv G (S := Unit) (fun _ => True) (fun _ => zw G (XS 2) 105 a s9.1 s9.2)) A) [.ref (a 5), .int p1].toArray s 0 0 A) (F0 m 68 ls []) := by
    intro g L H locs ls h hP hD hS hl
    unfold fX6_readTest_5_p68 at h
    exact y_vret C hr hlk hP hD hS h (Nat.le_of_ble_eq_true rfl) (Nat.le_of_ble_eq_true rfl) dX6_readTest_68
  refine lv_if_eq (x := x5) (tgt := 38) hx hb dX6_readTest_11 (by decide) (fun c9 => ?_) (fun c9 => ?_)
  ·
    have h := ite_t c9 h
    refine lv_aload_n hx hb dX6_readTest_38 rfl (lv_at hl 0 rfl) ?_
    refine lv_bipush (v := 61) hx hb dX6_readTest_39 (by decide) ?_
    obtain ⟨z_, g11, L12, hf13, h⟩ := cb_some h
    refine x_callVi (rest := []) li_X6_86 C (rX6_isSignNow_5 l G H.size a fu g6 L7 61 z_ (g11, L12) hf13) (kR rfl) hP hD hS 5 6 rfl (zat (by decide) xs_5) rfl hl.1 rfl (Nat.le_of_ble_eq_true rfl) dX6_readTest_41 (fun x10 u_ H locs e_ hP hD hS => ?_)
    have e_ : x10 = z_ := e_
    subst e_
    have hP : va_P G.1 vwCl (zw G (XS 2) 105 a g11 L12) H := hP
    have hD : va_D A (zw G (XS 2) 105 a g11 L12) := hD
    refine lv_if_eq (x := x10) (tgt := 68) hx hb dX6_readTest_44 (by decide) (fun c14 => ?_) (fun c14 => ?_)
    ·
      have h := ite_t c14 h
      exact J68 g11 L12 H locs ls h hP hD hS (lv_sub hl [] rfl)
    ·
      have h := ite_e c14 h
      refine lv_aload_n hx hb dX6_readTest_47 rfl (lv_at hl 0 rfl) ?_
      obtain ⟨z_, g16, L17, hf18, h⟩ := cb_some h
      refine x_callVv (rest := []) li_X6_53 C (rX6_advance_5 l G H.size a fu g11 L12 z_ (g16, L17) hf18) (kR rfl) hP hD hS 5 6 rfl (zat (by decide) xs_5) rfl hl.1 rfl (Nat.le_of_ble_eq_true rfl) dX6_readTest_48 (fun u_ H locs e_ hP hD hS => ?_)
      have hP : va_P G.1 vwCl (zw G (XS 2) 105 a g16 L17) H := hP
      have hD : va_D A (zw G (XS 2) 105 a g16 L17) := hD
      refine lv_aload_n hx hb dX6_readTest_51 rfl (lv_at hl 0 rfl) ?_
      refine lv_iload_n hx hb dX6_readTest_52 rfl (lv_at hl 1 rfl) ?_
      obtain ⟨z_, g20, L21, hf22, h⟩ := cb_some h
      refine x_callVv (rest := []) li_X6_224 C (rX6_readSum_5_L3 l G H.size a fu g16 L17 p1 z_ (g20, L21) hf22) (kR rfl) hP hD hS 5 6 rfl (zat (by decide) xs_5) rfl hl.1 rfl (Nat.le_of_ble_eq_true rfl) dX6_readTest_53 (fun u_ H locs e_ hP hD hS => ?_)
      have hP : va_P G.1 vwCl (zw G (XS 2) 105 a g20 L21) H := hP
      have hD : va_D A (zw G (XS 2) 105 a g20 L21) := hD
      refine lv_aload_n hx hb dX6_readTest_56 rfl (lv_at hl 0 rfl) ?_
      refine x_getr (Or.inl fl_X6_15) C hP (by decide) xs_5 rfl dX6_readTest_57 ?_
      refine x_getr (Or.inr fl_X6_125) C hP (by decide) xs_2 rfl dX6_readTest_60 ?_
      refine lv_bipush (v := -12) hx hb dX6_readTest_63 (by decide) ?_
      obtain ⟨z_, g24, L25, hf26, h⟩ := cb_some h
      refine x_callNv (rest := []) li_X6_211 C (rX8_add_4 l G H.size 2 a fu g20 L21 (-12) z_ (g24, L25) hf26) (kR rfl) hP hD hS 4 8 rfl (zat (by decide) xs_4) rfl hl.1 rfl (Nat.le_of_ble_eq_true rfl) dX6_readTest_65 (fun u_ H locs e_ hP hD hS => ?_)
      have hP : va_P G.1 vwCl (zw G (XS 2) 105 a g24 L25) H := hP
      have hD : va_D A (zw G (XS 2) 105 a g24 L25) := hD
      exact J68 g24 L25 H locs ls h hP hD hS (lv_sub hl [] rfl)
  ·
    have h := ite_e c9 h
    refine lv_aload_n hx hb dX6_readTest_14 rfl (lv_at hl 0 rfl) ?_
    obtain ⟨z_, g28, L29, hf30, h⟩ := cb_some h
    refine x_callVv (rest := []) li_X6_53 C (rX6_advance_5 l G H.size a fu g6 L7 z_ (g28, L29) hf30) (kR rfl) hP hD hS 5 6 rfl (zat (by decide) xs_5) rfl hl.1 rfl (Nat.le_of_ble_eq_true rfl) dX6_readTest_15 (fun u_ H locs e_ hP hD hS => ?_)
    have hP : va_P G.1 vwCl (zw G (XS 2) 105 a g28 L29) H := hP
    have hD : va_D A (zw G (XS 2) 105 a g28 L29) := hD
    refine lv_aload_n hx hb dX6_readTest_18 rfl (lv_at hl 0 rfl) ?_
    refine lv_iload_n hx hb dX6_readTest_19 rfl (lv_at hl 1 rfl) ?_
    obtain ⟨z_, g32, L33, hf34, h⟩ := cb_some h
    refine x_callVv (rest := []) li_X6_224 C (rX6_readSum_5_L3 l G H.size a fu g28 L29 p1 z_ (g32, L33) hf34) (kR rfl) hP hD hS 5 6 rfl (zat (by decide) xs_5) rfl hl.1 rfl (Nat.le_of_ble_eq_true rfl) dX6_readTest_20 (fun u_ H locs e_ hP hD hS => ?_)
    have hP : va_P G.1 vwCl (zw G (XS 2) 105 a g32 L33) H := hP
    have hD : va_D A (zw G (XS 2) 105 a g32 L33) := hD
    refine lv_aload_n hx hb dX6_readTest_23 rfl (lv_at hl 0 rfl) ?_
    refine x_getr (Or.inl fl_X6_15) C hP (by decide) xs_5 rfl dX6_readTest_24 ?_
    refine x_getr (Or.inr fl_X6_125) C hP (by decide) xs_2 rfl dX6_readTest_27 ?_
    refine lv_bipush (v := -11) hx hb dX6_readTest_30 (by decide) ?_
    obtain ⟨z_, g36, L37, hf38, h⟩ := cb_some h
    refine x_callNv (rest := []) li_X6_211 C (rX8_add_4 l G H.size 2 a fu g32 L33 (-11) z_ (g36, L37) hf38) (kR rfl) hP hD hS 4 8 rfl (zat (by decide) xs_4) rfl hl.1 rfl (Nat.le_of_ble_eq_true rfl) dX6_readTest_32 (fun u_ H locs e_ hP hD hS => ?_)
    have hP : va_P G.1 vwCl (zw G (XS 2) 105 a g36 L37) H := hP
    have hD : va_D A (zw G (XS 2) 105 a g36 L37) := hD
    refine lv_goto (tgt := 68) hx hb dX6_readTest_35 (by decide) ?_
    exact J68 g36 L37 H locs ls h hP hD hS (lv_sub hl [] rfl)
set_option maxHeartbeats 4000000 in
set_option maxRecDepth 100000 in
theorem rX6_readNot_5_L3 (l : Launch) (G : kG) (sz : Nat) (a : Nat → Nat) (fu : Nat) (g : Nat → Nat → Int32) (L : Nat → Nat → Int64) (p1 : Int32) (res : Unit) (s9 : zS) (h : fX6_readNot_5 fu (fX6_readExpr_5 fu 2) p1 g L = some (res, s9)) : kM l yX6_readNot cX6_readNot 4 none { frames := 30, cells := 0, slots := 0, locals := 638 } G [.ref (a 5), .int p1] (zw G (XS 2) 105 a g L) sz (kQv G (S := Unit) (fun _ => True) (fun _ => zw G (XS 2) 105 a s9.1 s9.2)) := by
  refine kM.of (by decide) (Nat.le_of_ble_eq_true rfl) ?_
  intro p e s m below meth c A ls H C hr hlk hnm hP hD hS hl
  have C : kC G p s m c cX6_readNot 4 RX6 A := C
  have hx := C.1
  have hb := C.2.1
  have hl : lv_has ls 4 [(0, .ref (a 5)), (1, .int p1)] := hl
  obtain ⟨locs, hlocs⟩ : ∃ q : List Loc, q = [] := ⟨_, rfl⟩
  rw [← hlocs] at hS
  rw [← hlocs]
  unfold fX6_readNot_5 at h
  refine lv_iconst (v := 0) hx hb dX6_readNot_0 (by decide) ?_
  refine lv_istore_n (lv' := [(2, .int 0), (0, .ref (a 5)), (1, .int p1)]) hx hb dX6_readNot_1 rfl hl (by decide) rfl (fun ls hl => ?_)
  have lp2 : ∀ (v1 : Int32), ∀ (n : Nat) (v : Int32 × (Nat → Nat → Int32) × (Nat → Nat → Int64)), whileK (fun k v => fX6_readNot_5_s2 fu (fX6_readExpr_5 fu 2) v1 k v.1 v.2.1 v.2.2) n v = some (res, s9) → ∀ (H : Heap) (locs : List Loc) (ls : Array Slot), va_P G.1 vwCl (zw G (XS 2) 105 a (v.2.1) (v.2.2)) H → va_D A (zw G (XS 2) 105 a (v.2.1) (v.2.2)) → va_S A s.heap H locs → lv_has ls 4 [(0, .ref (a 5)), (1, .int v1), (2, .int (v.1))] → W p l e { frames := 30, cells := 0, slots := 0, locals := 638 } s m [.ref (a 5), .int p1].toArray below meth c H locs 0 0 (MQ below ((kQv G (S := Unit) (fun _ => True) (fun _ => zw G (XS 2) 105 a s9.1 s9.2)) A) [.ref (a 5), .int p1].toArray s 0 0 A) (F0 m 2 ls []) := by
    intro v1
    refine while_ind (fun k2 ih2 v h => ?_)
    obtain ⟨v2, g, L⟩ := v
    intro H locs ls hP hD hS hl
    have h : fX6_readNot_5_s2 fu (fX6_readExpr_5 fu 2) v1 k2 v2 g L = some (res, s9) := h
    have hP : va_P G.1 vwCl (zw G (XS 2) 105 a g L) H := hP
    have hD : va_D A (zw G (XS 2) 105 a g L) := hD
    have hl : lv_has ls 4 [(0, .ref (a 5)), (1, .int v1), (2, .int v2)] := hl
    show W p l e { frames := 30, cells := 0, slots := 0, locals := 638 } s m [.ref (a 5), .int p1].toArray below meth c H locs 0 0 (MQ below ((kQv G (S := Unit) (fun _ => True) (fun _ => zw G (XS 2) 105 a s9.1 s9.2)) A) [.ref (a 5), .int p1].toArray s 0 0 A) (F0 m 2 ls [])
    unfold fX6_readNot_5_s2 at h
    refine lv_iload_n hx hb dX6_readNot_2 rfl (lv_at hl 2 rfl) ?_
    refine lv_bipush (v := 6) hx hb dX6_readNot_3 (by decide) ?_
    have J27 : ∀ (v1 : Int32) (v2 : Int32) (g : Nat → Nat → Int32) (L : Nat → Nat → Int64) (H : Heap) (locs : List Loc) (ls : Array Slot), fX6_readNot_5_p27 fu (fX6_readExpr_5 fu 2) v1 v2 g L = some (res, s9) → va_P G.1 vwCl (zw G (XS 2) 105 a g L) H → va_D A (zw G (XS 2) 105 a g L) → va_S A s.heap H locs → lv_has ls 4 [(0, .ref (a 5)), (1, .int v1), (2, .int v2)] → W p l e { frames := 30, cells := 0, slots := 0, locals := 638 } s m [.ref (a 5), .int p1].toArray below meth c H locs 0 0 (MQ below ((kQv G (S := Unit) (fun _ => True) (fun _ => zw G (XS 2) 105 a s9.1 s9.2)) A) [.ref (a 5), .int p1].toArray s 0 0 A) (F0 m 27 ls []) := by
      intro v1 v2 g L H locs ls h hP hD hS hl
      unfold fX6_readNot_5_p27 at h
      refine lv_aload_n hx hb dX6_readNot_27 rfl (lv_at hl 0 rfl) ?_
      refine y_ldcS (i := 11) C (by decide) rfl dX6_readNot_28 ?_
      obtain ⟨z_, g2, L3, hf4, h⟩ := cb_some h
      refine x_callVi (rest := []) li_X6_92 C (rX6_isWord_5_not l G H.size a fu g L z_ (g2, L3) hf4) (kR rfl) hP hD hS 5 6 rfl (zat (by decide) xs_5) rfl hl.1 rfl (Nat.le_of_ble_eq_true rfl) dX6_readNot_30 (fun x1 u_ H locs e_ hP hD hS => ?_)
      have e_ : x1 = z_ := e_
      subst e_
      have hP : va_P G.1 vwCl (zw G (XS 2) 105 a g2 L3) H := hP
      have hD : va_D A (zw G (XS 2) 105 a g2 L3) := hD
      have J47 : ∀ (v1 : Int32) (v2 : Int32) (g : Nat → Nat → Int32) (L : Nat → Nat → Int64) (H : Heap) (locs : List Loc) (ls : Array Slot), fX6_readNot_5_p47 fu (fX6_readExpr_5 fu 2) v1 v2 g L = some (res, s9) → va_P G.1 vwCl (zw G (XS 2) 105 a g L) H → va_D A (zw G (XS 2) 105 a g L) → va_S A s.heap H locs → lv_has ls 4 [(0, .ref (a 5)), (1, .int v1), (2, .int v2)] → W p l e { frames := 30, cells := 0, slots := 0, locals := 638 } s m [.ref (a 5), .int p1].toArray below meth c H locs 0 0 (MQ below ((kQv G (S := Unit) (fun _ => True) (fun _ => zw G (XS 2) 105 a s9.1 s9.2)) A) [.ref (a 5), .int p1].toArray s 0 0 A) (F0 m 47 ls []) := by
        intro v1 v2 g L H locs ls h hP hD hS hl
        unfold fX6_readNot_5_p47 at h
        refine lv_aload_n hx hb dX6_readNot_47 rfl (lv_at hl 0 rfl) ?_
        refine lv_iload_n hx hb dX6_readNot_48 rfl (lv_at hl 1 rfl) ?_
        obtain ⟨z_, g6, L7, hf8, h⟩ := cb_some h
        refine x_callVv (rest := []) li_X6_221 C (rX6_readTest_5_L3 l G H.size a fu g L v1 z_ (g6, L7) hf8) (kR rfl) hP hD hS 5 6 rfl (zat (by decide) xs_5) rfl hl.1 rfl (Nat.le_of_ble_eq_true rfl) dX6_readNot_49 (fun u_ H locs e_ hP hD hS => ?_)
        have hP : va_P G.1 vwCl (zw G (XS 2) 105 a g6 L7) H := hP
        have hD : va_D A (zw G (XS 2) 105 a g6 L7) := hD
        refine lv_iconst (v := 0) hx hb dX6_readNot_52 (by decide) ?_
        refine lv_istore_n (lv' := [(3, .int 0), (0, .ref (a 5)), (1, .int v1), (2, .int v2)]) hx hb dX6_readNot_53 rfl hl (by decide) rfl (fun ls hl => ?_)
        have lp54 : ∀ (v2 : Int32), ∀ (n : Nat) (v : Int32 × (Nat → Nat → Int32) × (Nat → Nat → Int64)), whileK (fun k v => fX6_readNot_5_s54 fu (fX6_readExpr_5 fu 2) v2 k v.1 v.2.1 v.2.2) n v = some (res, s9) → ∀ (H : Heap) (locs : List Loc) (ls : Array Slot), va_P G.1 vwCl (zw G (XS 2) 105 a (v.2.1) (v.2.2)) H → va_D A (zw G (XS 2) 105 a (v.2.1) (v.2.2)) → va_S A s.heap H locs → lv_has ls 4 [(0, .ref (a 5)), (2, .int v2), (3, .int (v.1))] → W p l e { frames := 30, cells := 0, slots := 0, locals := 638 } s m [.ref (a 5), .int p1].toArray below meth c H locs 0 0 (MQ below ((kQv G (S := Unit) (fun _ => True) (fun _ => zw G (XS 2) 105 a s9.1 s9.2)) A) [.ref (a 5), .int p1].toArray s 0 0 A) (F0 m 54 ls []) := by
          intro v2
          refine while_ind (fun k54 ih54 v h => ?_)
          obtain ⟨v3, g, L⟩ := v
          intro H locs ls hP hD hS hl
          have h : fX6_readNot_5_s54 fu (fX6_readExpr_5 fu 2) v2 k54 v3 g L = some (res, s9) := h
          have hP : va_P G.1 vwCl (zw G (XS 2) 105 a g L) H := hP
          have hD : va_D A (zw G (XS 2) 105 a g L) := hD
          have hl : lv_has ls 4 [(0, .ref (a 5)), (2, .int v2), (3, .int v3)] := hl
          show W p l e { frames := 30, cells := 0, slots := 0, locals := 638 } s m [.ref (a 5), .int p1].toArray below meth c H locs 0 0 (MQ below ((kQv G (S := Unit) (fun _ => True) (fun _ => zw G (XS 2) 105 a s9.1 s9.2)) A) [.ref (a 5), .int p1].toArray s 0 0 A) (F0 m 54 ls [])
          unfold fX6_readNot_5_s54 at h
          refine lv_iload_n hx hb dX6_readNot_54 rfl (lv_at hl 2 rfl) ?_
          refine lv_iload_n hx hb dX6_readNot_55 rfl (lv_at hl 1 rfl) ?_
          refine lv_icmp_ge (x := v3) (y := v2) (tgt := 77) hx hb dX6_readNot_56 (by decide) (fun c9 => ?_) (fun c9 => ?_)
          ·
            have h := ite_t c9 h
            exact y_vret C hr hlk hP hD hS h (Nat.le_of_ble_eq_true rfl) (Nat.le_of_ble_eq_true rfl) dX6_readNot_77
          ·
            have h := ite_e c9 h
            refine lv_aload_n hx hb dX6_readNot_59 rfl (lv_at hl 0 rfl) ?_
            refine x_getr (Or.inl fl_X6_15) C hP (by decide) xs_5 rfl dX6_readNot_60 ?_
            refine x_getr (Or.inr fl_X6_125) C hP (by decide) xs_2 rfl dX6_readNot_63 ?_
            refine lv_bipush (v := -15) hx hb dX6_readNot_66 (by decide) ?_
            obtain ⟨z_, g11, L12, hf13, h⟩ := cb_some h
            refine x_callNv (rest := []) li_X6_211 C (rX8_add_4 l G H.size 2 a fu g L (-15) z_ (g11, L12) hf13) (kR rfl) hP hD hS 4 8 rfl (zat (by decide) xs_4) rfl hl.1 rfl (Nat.le_of_ble_eq_true rfl) dX6_readNot_68 (fun u_ H locs e_ hP hD hS => ?_)
            have hP : va_P G.1 vwCl (zw G (XS 2) 105 a g11 L12) H := hP
            have hD : va_D A (zw G (XS 2) 105 a g11 L12) := hD
            refine lv_iinc (v := (v3 + 1)) (lv' := [(3, .int (v3 + 1)), (0, .ref (a 5)), (2, .int v2)]) hx hb dX6_readNot_71 hl (k := 2) rfl rfl (by decide) rfl (fun ls hl => ?_)
            refine lv_goto (tgt := 54) hx hb dX6_readNot_74 (by decide) ?_
            exact ih54 ((v3 + 1), g11, L12) h H locs ls hP hD hS (lv_sub hl [1, 2, 0] rfl)
        exact lp54 v2 fu (0, g6, L7) h H locs ls hP hD hS (lv_sub hl [1, 3, 0] rfl)
      refine lv_if_eq (x := x1) (tgt := 47) hx hb dX6_readNot_33 (by decide) (fun c14 => ?_) (fun c14 => ?_)
      ·
        have h := ite_t c14 h
        exact J47 v1 v2 g2 L3 H locs ls h hP hD hS (lv_sub hl [0, 1, 2] rfl)
      ·
        have h := ite_e c14 h
        refine lv_iload_n hx hb dX6_readNot_36 rfl (lv_at hl 2 rfl) ?_
        refine lv_bipush (v := 6) hx hb dX6_readNot_37 (by decide) ?_
        refine lv_icmp_lt (x := v2) (y := 6) (tgt := 47) hx hb dX6_readNot_39 (by decide) (fun c15 => ?_) (fun c15 => ?_)
        ·
          have h := ite_t c15 h
          exact J47 v1 v2 g2 L3 H locs ls h hP hD hS (lv_sub hl [0, 1, 2] rfl)
        ·
          have h := ite_e c15 h
          refine lv_aload_n hx hb dX6_readNot_42 rfl (lv_at hl 0 rfl) ?_
          refine lv_iconst (v := 2) hx hb dX6_readNot_43 (by decide) ?_
          obtain ⟨z_, g17, L18, hf19, h⟩ := cb_some h
          refine x_callVv (rest := []) li_X6_78 C (rX6_refuse_5 l G H.size a fu g2 L3 2 z_ (g17, L18) hf19) (kR rfl) hP hD hS 5 6 rfl (zat (by decide) xs_5) rfl hl.1 rfl (Nat.le_of_ble_eq_true rfl) dX6_readNot_44 (fun u_ H locs e_ hP hD hS => ?_)
          have hP : va_P G.1 vwCl (zw G (XS 2) 105 a g17 L18) H := hP
          have hD : va_D A (zw G (XS 2) 105 a g17 L18) := hD
          exact J47 v1 v2 g17 L18 H locs ls h hP hD hS (lv_sub hl [0, 1, 2] rfl)
    refine lv_icmp_ge (x := v2) (y := 6) (tgt := 27) hx hb dX6_readNot_5 (by decide) (fun c20 => ?_) (fun c20 => ?_)
    ·
      have h := ite_t c20 h
      exact J27 v1 v2 g L H locs ls h hP hD hS (lv_sub hl [0, 1, 2] rfl)
    ·
      have h := ite_e c20 h
      refine lv_aload_n hx hb dX6_readNot_8 rfl (lv_at hl 0 rfl) ?_
      refine y_ldcS (i := 11) C (by decide) rfl dX6_readNot_9 ?_
      obtain ⟨z_, g22, L23, hf24, h⟩ := cb_some h
      refine x_callVi (rest := []) li_X6_92 C (rX6_isWord_5_not l G H.size a fu g L z_ (g22, L23) hf24) (kR rfl) hP hD hS 5 6 rfl (zat (by decide) xs_5) rfl hl.1 rfl (Nat.le_of_ble_eq_true rfl) dX6_readNot_11 (fun x21 u_ H locs e_ hP hD hS => ?_)
      have e_ : x21 = z_ := e_
      subst e_
      have hP : va_P G.1 vwCl (zw G (XS 2) 105 a g22 L23) H := hP
      have hD : va_D A (zw G (XS 2) 105 a g22 L23) := hD
      refine lv_if_eq (x := x21) (tgt := 27) hx hb dX6_readNot_14 (by decide) (fun c25 => ?_) (fun c25 => ?_)
      ·
        have h := ite_t c25 h
        exact J27 v1 v2 g22 L23 H locs ls h hP hD hS (lv_sub hl [0, 1, 2] rfl)
      ·
        have h := ite_e c25 h
        refine lv_iinc (v := (v2 + 1)) (lv' := [(2, .int (v2 + 1)), (0, .ref (a 5)), (1, .int v1)]) hx hb dX6_readNot_17 hl (k := 2) rfl rfl (by decide) rfl (fun ls hl => ?_)
        refine lv_aload_n hx hb dX6_readNot_20 rfl (lv_at hl 1 rfl) ?_
        obtain ⟨z_, g27, L28, hf29, h⟩ := cb_some h
        refine x_callVv (rest := []) li_X6_53 C (rX6_advance_5 l G H.size a fu g22 L23 z_ (g27, L28) hf29) (kR rfl) hP hD hS 5 6 rfl (zat (by decide) xs_5) rfl hl.1 rfl (Nat.le_of_ble_eq_true rfl) dX6_readNot_21 (fun u_ H locs e_ hP hD hS => ?_)
        have hP : va_P G.1 vwCl (zw G (XS 2) 105 a g27 L28) H := hP
        have hD : va_D A (zw G (XS 2) 105 a g27 L28) := hD
        refine lv_goto (tgt := 2) hx hb dX6_readNot_24 (by decide) ?_
        exact ih2 ((v2 + 1), g27, L28) h H locs ls hP hD hS (lv_sub hl [1, 2, 0] rfl)
  exact lp2 p1 fu (0, g, L) h H locs ls hP hD hS (lv_sub hl [1, 2, 0] rfl)
set_option maxHeartbeats 4000000 in
set_option maxRecDepth 100000 in
theorem rX6_readAnd_5_L3 (l : Launch) (G : kG) (sz : Nat) (a : Nat → Nat) (fu : Nat) (g : Nat → Nat → Int32) (L : Nat → Nat → Int64) (p1 : Int32) (res : Unit) (s9 : zS) (h : fX6_readAnd_5 fu (fX6_readExpr_5 fu 2) p1 g L = some (res, s9)) : kM l yX6_readAnd cX6_readAnd 3 none { frames := 31, cells := 0, slots := 0, locals := 661 } G [.ref (a 5), .int p1] (zw G (XS 2) 105 a g L) sz (kQv G (S := Unit) (fun _ => True) (fun _ => zw G (XS 2) 105 a s9.1 s9.2)) := by
  refine kM.of (by decide) (Nat.le_of_ble_eq_true rfl) ?_
  intro p e s m below meth c A ls H C hr hlk hnm hP hD hS hl
  have C : kC G p s m c cX6_readAnd 3 RX6 A := C
  have hx := C.1
  have hb := C.2.1
  have hl : lv_has ls 3 [(0, .ref (a 5)), (1, .int p1)] := hl
  obtain ⟨locs, hlocs⟩ : ∃ q : List Loc, q = [] := ⟨_, rfl⟩
  rw [← hlocs] at hS
  rw [← hlocs]
  unfold fX6_readAnd_5 at h
  refine lv_aload_n hx hb dX6_readAnd_0 rfl (lv_at hl 0 rfl) ?_
  refine lv_iload_n hx hb dX6_readAnd_1 rfl (lv_at hl 1 rfl) ?_
  obtain ⟨z_, g2, L3, hf4, h⟩ := cb_some h
  refine x_callVv (rest := []) li_X6_214 C (rX6_readNot_5_L3 l G H.size a fu g L p1 z_ (g2, L3) hf4) (kR rfl) hP hD hS 5 6 rfl (zat (by decide) xs_5) rfl hl.1 rfl (Nat.le_of_ble_eq_true rfl) dX6_readAnd_2 (fun u_ H locs e_ hP hD hS => ?_)
  have hP : va_P G.1 vwCl (zw G (XS 2) 105 a g2 L3) H := hP
  have hD : va_D A (zw G (XS 2) 105 a g2 L3) := hD
  refine lv_iconst (v := 0) hx hb dX6_readAnd_5 (by decide) ?_
  refine lv_istore_n (lv' := [(2, .int 0), (0, .ref (a 5)), (1, .int p1)]) hx hb dX6_readAnd_6 rfl hl (by decide) rfl (fun ls hl => ?_)
  have lp7 : ∀ (v1 : Int32), ∀ (n : Nat) (v : Int32 × (Nat → Nat → Int32) × (Nat → Nat → Int64)), whileK (fun k v => fX6_readAnd_5_s7 fu (fX6_readExpr_5 fu 2) v1 k v.1 v.2.1 v.2.2) n v = some (res, s9) → ∀ (H : Heap) (locs : List Loc) (ls : Array Slot), va_P G.1 vwCl (zw G (XS 2) 105 a (v.2.1) (v.2.2)) H → va_D A (zw G (XS 2) 105 a (v.2.1) (v.2.2)) → va_S A s.heap H locs → lv_has ls 3 [(0, .ref (a 5)), (1, .int v1), (2, .int (v.1))] → W p l e { frames := 31, cells := 0, slots := 0, locals := 661 } s m [.ref (a 5), .int p1].toArray below meth c H locs 0 0 (MQ below ((kQv G (S := Unit) (fun _ => True) (fun _ => zw G (XS 2) 105 a s9.1 s9.2)) A) [.ref (a 5), .int p1].toArray s 0 0 A) (F0 m 7 ls []) := by
    intro v1
    refine while_ind (fun k7 ih7 v h => ?_)
    obtain ⟨v2, g, L⟩ := v
    intro H locs ls hP hD hS hl
    have h : fX6_readAnd_5_s7 fu (fX6_readExpr_5 fu 2) v1 k7 v2 g L = some (res, s9) := h
    have hP : va_P G.1 vwCl (zw G (XS 2) 105 a g L) H := hP
    have hD : va_D A (zw G (XS 2) 105 a g L) := hD
    have hl : lv_has ls 3 [(0, .ref (a 5)), (1, .int v1), (2, .int v2)] := hl
    show W p l e { frames := 31, cells := 0, slots := 0, locals := 661 } s m [.ref (a 5), .int p1].toArray below meth c H locs 0 0 (MQ below ((kQv G (S := Unit) (fun _ => True) (fun _ => zw G (XS 2) 105 a s9.1 s9.2)) A) [.ref (a 5), .int p1].toArray s 0 0 A) (F0 m 7 ls [])
    unfold fX6_readAnd_5_s7 at h
    refine lv_iload_n hx hb dX6_readAnd_7 rfl (lv_at hl 2 rfl) ?_
    refine lv_sipush (v := 700) hx hb dX6_readAnd_8 (by decide) ?_
    have J50 : ∀ (g : Nat → Nat → Int32) (L : Nat → Nat → Int64) (H : Heap) (locs : List Loc) (ls : Array Slot), fX6_readAnd_5_p50 fu (fX6_readExpr_5 fu 2) g L = some (res, s9) → va_P G.1 vwCl (zw G (XS 2) 105 a g L) H → va_D A (zw G (XS 2) 105 a g L) → va_S A s.heap H locs → lv_has ls 3 [] → W p l e { frames := 31, cells := 0, slots := 0, locals := 661 } s m [.ref (a 5), .int p1].toArray below meth c H locs 0 0 (MQ below ((kQv G (S := Unit) (fun _ => True) (fun _ => zw G (XS 2) 105 a s9.1 s9.2)) A) [.ref (a 5), .int p1].toArray s 0 0 A) (F0 m 50 ls []) := by
      intro g L H locs ls h hP hD hS hl
      unfold fX6_readAnd_5_p50 at h
      exact y_vret C hr hlk hP hD hS h (Nat.le_of_ble_eq_true rfl) (Nat.le_of_ble_eq_true rfl) dX6_readAnd_50
    refine lv_icmp_ge (x := v2) (y := 700) (tgt := 50) hx hb dX6_readAnd_11 (by decide) (fun c5 => ?_) (fun c5 => ?_)
    ·
      have h := ite_t c5 h
      exact J50 g L H locs ls h hP hD hS (lv_sub hl [] rfl)
    ·
      have h := ite_e c5 h
      refine lv_aload_n hx hb dX6_readAnd_14 rfl (lv_at hl 0 rfl) ?_
      refine y_ldcS (i := 10) C (by decide) rfl dX6_readAnd_15 ?_
      obtain ⟨z_, g7, L8, hf9, h⟩ := cb_some h
      refine x_callVi (rest := []) li_X6_92 C (rX6_isWord_5_and l G H.size a fu g L z_ (g7, L8) hf9) (kR rfl) hP hD hS 5 6 rfl (zat (by decide) xs_5) rfl hl.1 rfl (Nat.le_of_ble_eq_true rfl) dX6_readAnd_17 (fun x6 u_ H locs e_ hP hD hS => ?_)
      have e_ : x6 = z_ := e_
      subst e_
      have hP : va_P G.1 vwCl (zw G (XS 2) 105 a g7 L8) H := hP
      have hD : va_D A (zw G (XS 2) 105 a g7 L8) := hD
      refine lv_if_eq (x := x6) (tgt := 50) hx hb dX6_readAnd_20 (by decide) (fun c10 => ?_) (fun c10 => ?_)
      ·
        have h := ite_t c10 h
        exact J50 g7 L8 H locs ls h hP hD hS (lv_sub hl [] rfl)
      ·
        have h := ite_e c10 h
        refine lv_aload_n hx hb dX6_readAnd_23 rfl (lv_at hl 0 rfl) ?_
        obtain ⟨z_, g12, L13, hf14, h⟩ := cb_some h
        refine x_callVv (rest := []) li_X6_53 C (rX6_advance_5 l G H.size a fu g7 L8 z_ (g12, L13) hf14) (kR rfl) hP hD hS 5 6 rfl (zat (by decide) xs_5) rfl hl.1 rfl (Nat.le_of_ble_eq_true rfl) dX6_readAnd_24 (fun u_ H locs e_ hP hD hS => ?_)
        have hP : va_P G.1 vwCl (zw G (XS 2) 105 a g12 L13) H := hP
        have hD : va_D A (zw G (XS 2) 105 a g12 L13) := hD
        refine lv_aload_n hx hb dX6_readAnd_27 rfl (lv_at hl 0 rfl) ?_
        refine lv_iload_n hx hb dX6_readAnd_28 rfl (lv_at hl 1 rfl) ?_
        obtain ⟨z_, g16, L17, hf18, h⟩ := cb_some h
        refine x_callVv (rest := []) li_X6_214 C (rX6_readNot_5_L3 l G H.size a fu g12 L13 v1 z_ (g16, L17) hf18) (kR rfl) hP hD hS 5 6 rfl (zat (by decide) xs_5) rfl hl.1 rfl (Nat.le_of_ble_eq_true rfl) dX6_readAnd_29 (fun u_ H locs e_ hP hD hS => ?_)
        have hP : va_P G.1 vwCl (zw G (XS 2) 105 a g16 L17) H := hP
        have hD : va_D A (zw G (XS 2) 105 a g16 L17) := hD
        refine lv_aload_n hx hb dX6_readAnd_32 rfl (lv_at hl 0 rfl) ?_
        refine x_getr (Or.inl fl_X6_15) C hP (by decide) xs_5 rfl dX6_readAnd_33 ?_
        refine x_getr (Or.inr fl_X6_125) C hP (by decide) xs_2 rfl dX6_readAnd_36 ?_
        refine lv_bipush (v := -13) hx hb dX6_readAnd_39 (by decide) ?_
        obtain ⟨z_, g20, L21, hf22, h⟩ := cb_some h
        refine x_callNv (rest := []) li_X6_211 C (rX8_add_4 l G H.size 2 a fu g16 L17 (-13) z_ (g20, L21) hf22) (kR rfl) hP hD hS 4 8 rfl (zat (by decide) xs_4) rfl hl.1 rfl (Nat.le_of_ble_eq_true rfl) dX6_readAnd_41 (fun u_ H locs e_ hP hD hS => ?_)
        have hP : va_P G.1 vwCl (zw G (XS 2) 105 a g20 L21) H := hP
        have hD : va_D A (zw G (XS 2) 105 a g20 L21) := hD
        refine lv_iinc (v := (v2 + 1)) (lv' := [(2, .int (v2 + 1)), (0, .ref (a 5)), (1, .int v1)]) hx hb dX6_readAnd_44 hl (k := 2) rfl rfl (by decide) rfl (fun ls hl => ?_)
        refine lv_goto (tgt := 7) hx hb dX6_readAnd_47 (by decide) ?_
        exact ih7 ((v2 + 1), g20, L21) h H locs ls hP hD hS (lv_sub hl [1, 2, 0] rfl)
  exact lp7 p1 fu (0, g2, L3) h H locs ls hP hD hS (lv_sub hl [1, 2, 0] rfl)
set_option maxHeartbeats 4000000 in
set_option maxRecDepth 100000 in
theorem rX6_readExpr_5_L3 (l : Launch) (G : kG) (sz : Nat) (a : Nat → Nat) (fu : Nat) (g : Nat → Nat → Int32) (L : Nat → Nat → Int64) (p1 : Int32) (res : Unit) (s9 : zS) (h : fX6_readExpr_5 fu 3 p1 g L = some (res, s9)) : kM l yX6_readExpr cX6_readExpr 3 none { frames := 32, cells := 0, slots := 0, locals := 683 } G [.ref (a 5), .int p1] (zw G (XS 2) 105 a g L) sz (kQv G (S := Unit) (fun _ => True) (fun _ => zw G (XS 2) 105 a s9.1 s9.2)) := by
  refine kM.of (by decide) (Nat.le_of_ble_eq_true rfl) ?_
  intro p e s m below meth c A ls H C hr hlk hnm hP hD hS hl
  have C : kC G p s m c cX6_readExpr 3 RX6 A := C
  have hx := C.1
  have hb := C.2.1
  have hl : lv_has ls 3 [(0, .ref (a 5)), (1, .int p1)] := hl
  obtain ⟨locs, hlocs⟩ : ∃ q : List Loc, q = [] := ⟨_, rfl⟩
  rw [← hlocs] at hS
  rw [← hlocs]
  rw [fX6_readExpr_5_succ] at h
  unfold fX6_readExpr_5B at h
  refine lv_iload_n hx hb dX6_readExpr_0 rfl (lv_at hl 1 rfl) ?_
  refine lv_iconst (v := 5) hx hb dX6_readExpr_1 (by decide) ?_
  have J35 : ∀ (v1 : Int32) (g : Nat → Nat → Int32) (L : Nat → Nat → Int64) (H : Heap) (locs : List Loc) (ls : Array Slot), fX6_readExpr_5_p35 fu (fX6_readExpr_5 fu 2) v1 g L = some (res, s9) → va_P G.1 vwCl (zw G (XS 2) 105 a g L) H → va_D A (zw G (XS 2) 105 a g L) → va_S A s.heap H locs → lv_has ls 3 [(0, .ref (a 5)), (1, .int v1)] → W p l e { frames := 32, cells := 0, slots := 0, locals := 683 } s m [.ref (a 5), .int p1].toArray below meth c H locs 0 0 (MQ below ((kQv G (S := Unit) (fun _ => True) (fun _ => zw G (XS 2) 105 a s9.1 s9.2)) A) [.ref (a 5), .int p1].toArray s 0 0 A) (F0 m 35 ls []) := by
    intro v1 g L H locs ls h hP hD hS hl
    unfold fX6_readExpr_5_p35 at h
    refine lv_aload_n hx hb dX6_readExpr_35 rfl (lv_at hl 0 rfl) ?_
    refine lv_iload_n hx hb dX6_readExpr_36 rfl (lv_at hl 1 rfl) ?_
    obtain ⟨z_, g2, L3, hf4, h⟩ := cb_some h
    refine x_callVv (rest := []) li_X6_206 C (rX6_readAnd_5_L3 l G H.size a fu g L v1 z_ (g2, L3) hf4) (kR rfl) hP hD hS 5 6 rfl (zat (by decide) xs_5) rfl hl.1 rfl (Nat.le_of_ble_eq_true rfl) dX6_readExpr_37 (fun u_ H locs e_ hP hD hS => ?_)
    have hP : va_P G.1 vwCl (zw G (XS 2) 105 a g2 L3) H := hP
    have hD : va_D A (zw G (XS 2) 105 a g2 L3) := hD
    refine lv_iconst (v := 0) hx hb dX6_readExpr_40 (by decide) ?_
    refine lv_istore_n (lv' := [(2, .int 0), (0, .ref (a 5)), (1, .int v1)]) hx hb dX6_readExpr_41 rfl hl (by decide) rfl (fun ls hl => ?_)
    have lp42 : ∀ (v1 : Int32), ∀ (n : Nat) (v : Int32 × (Nat → Nat → Int32) × (Nat → Nat → Int64)), whileK (fun k v => fX6_readExpr_5_s42 fu (fX6_readExpr_5 fu 2) v1 k v.1 v.2.1 v.2.2) n v = some (res, s9) → ∀ (H : Heap) (locs : List Loc) (ls : Array Slot), va_P G.1 vwCl (zw G (XS 2) 105 a (v.2.1) (v.2.2)) H → va_D A (zw G (XS 2) 105 a (v.2.1) (v.2.2)) → va_S A s.heap H locs → lv_has ls 3 [(0, .ref (a 5)), (1, .int v1), (2, .int (v.1))] → W p l e { frames := 32, cells := 0, slots := 0, locals := 683 } s m [.ref (a 5), .int p1].toArray below meth c H locs 0 0 (MQ below ((kQv G (S := Unit) (fun _ => True) (fun _ => zw G (XS 2) 105 a s9.1 s9.2)) A) [.ref (a 5), .int p1].toArray s 0 0 A) (F0 m 42 ls []) := by
      intro v1
      refine while_ind (fun k42 ih42 v h => ?_)
      obtain ⟨v2, g, L⟩ := v
      intro H locs ls hP hD hS hl
      have h : fX6_readExpr_5_s42 fu (fX6_readExpr_5 fu 2) v1 k42 v2 g L = some (res, s9) := h
      have hP : va_P G.1 vwCl (zw G (XS 2) 105 a g L) H := hP
      have hD : va_D A (zw G (XS 2) 105 a g L) := hD
      have hl : lv_has ls 3 [(0, .ref (a 5)), (1, .int v1), (2, .int v2)] := hl
      show W p l e { frames := 32, cells := 0, slots := 0, locals := 683 } s m [.ref (a 5), .int p1].toArray below meth c H locs 0 0 (MQ below ((kQv G (S := Unit) (fun _ => True) (fun _ => zw G (XS 2) 105 a s9.1 s9.2)) A) [.ref (a 5), .int p1].toArray s 0 0 A) (F0 m 42 ls [])
      unfold fX6_readExpr_5_s42 at h
      refine lv_iload_n hx hb dX6_readExpr_42 rfl (lv_at hl 2 rfl) ?_
      refine lv_sipush (v := 700) hx hb dX6_readExpr_43 (by decide) ?_
      have J85 : ∀ (g : Nat → Nat → Int32) (L : Nat → Nat → Int64) (H : Heap) (locs : List Loc) (ls : Array Slot), fX6_readExpr_5_p85 fu (fX6_readExpr_5 fu 2) g L = some (res, s9) → va_P G.1 vwCl (zw G (XS 2) 105 a g L) H → va_D A (zw G (XS 2) 105 a g L) → va_S A s.heap H locs → lv_has ls 3 [] → W p l e { frames := 32, cells := 0, slots := 0, locals := 683 } s m [.ref (a 5), .int p1].toArray below meth c H locs 0 0 (MQ below ((kQv G (S := Unit) (fun _ => True) (fun _ => zw G (XS 2) 105 a s9.1 s9.2)) A) [.ref (a 5), .int p1].toArray s 0 0 A) (F0 m 85 ls []) := by
        intro g L H locs ls h hP hD hS hl
        unfold fX6_readExpr_5_p85 at h
        exact y_vret C hr hlk hP hD hS h (Nat.le_of_ble_eq_true rfl) (Nat.le_of_ble_eq_true rfl) dX6_readExpr_85
      refine lv_icmp_ge (x := v2) (y := 700) (tgt := 85) hx hb dX6_readExpr_46 (by decide) (fun c5 => ?_) (fun c5 => ?_)
      ·
        have h := ite_t c5 h
        exact J85 g L H locs ls h hP hD hS (lv_sub hl [] rfl)
      ·
        have h := ite_e c5 h
        refine lv_aload_n hx hb dX6_readExpr_49 rfl (lv_at hl 0 rfl) ?_
        refine y_ldcS (i := 9) C (by decide) rfl dX6_readExpr_50 ?_
        obtain ⟨z_, g7, L8, hf9, h⟩ := cb_some h
        refine x_callVi (rest := []) li_X6_92 C (rX6_isWord_5_or l G H.size a fu g L z_ (g7, L8) hf9) (kR rfl) hP hD hS 5 6 rfl (zat (by decide) xs_5) rfl hl.1 rfl (Nat.le_of_ble_eq_true rfl) dX6_readExpr_52 (fun x6 u_ H locs e_ hP hD hS => ?_)
        have e_ : x6 = z_ := e_
        subst e_
        have hP : va_P G.1 vwCl (zw G (XS 2) 105 a g7 L8) H := hP
        have hD : va_D A (zw G (XS 2) 105 a g7 L8) := hD
        refine lv_if_eq (x := x6) (tgt := 85) hx hb dX6_readExpr_55 (by decide) (fun c10 => ?_) (fun c10 => ?_)
        ·
          have h := ite_t c10 h
          exact J85 g7 L8 H locs ls h hP hD hS (lv_sub hl [] rfl)
        ·
          have h := ite_e c10 h
          refine lv_aload_n hx hb dX6_readExpr_58 rfl (lv_at hl 0 rfl) ?_
          obtain ⟨z_, g12, L13, hf14, h⟩ := cb_some h
          refine x_callVv (rest := []) li_X6_53 C (rX6_advance_5 l G H.size a fu g7 L8 z_ (g12, L13) hf14) (kR rfl) hP hD hS 5 6 rfl (zat (by decide) xs_5) rfl hl.1 rfl (Nat.le_of_ble_eq_true rfl) dX6_readExpr_59 (fun u_ H locs e_ hP hD hS => ?_)
          have hP : va_P G.1 vwCl (zw G (XS 2) 105 a g12 L13) H := hP
          have hD : va_D A (zw G (XS 2) 105 a g12 L13) := hD
          refine lv_aload_n hx hb dX6_readExpr_62 rfl (lv_at hl 0 rfl) ?_
          refine lv_iload_n hx hb dX6_readExpr_63 rfl (lv_at hl 1 rfl) ?_
          obtain ⟨z_, g16, L17, hf18, h⟩ := cb_some h
          refine x_callVv (rest := []) li_X6_206 C (rX6_readAnd_5_L3 l G H.size a fu g12 L13 v1 z_ (g16, L17) hf18) (kR rfl) hP hD hS 5 6 rfl (zat (by decide) xs_5) rfl hl.1 rfl (Nat.le_of_ble_eq_true rfl) dX6_readExpr_64 (fun u_ H locs e_ hP hD hS => ?_)
          have hP : va_P G.1 vwCl (zw G (XS 2) 105 a g16 L17) H := hP
          have hD : va_D A (zw G (XS 2) 105 a g16 L17) := hD
          refine lv_aload_n hx hb dX6_readExpr_67 rfl (lv_at hl 0 rfl) ?_
          refine x_getr (Or.inl fl_X6_15) C hP (by decide) xs_5 rfl dX6_readExpr_68 ?_
          refine x_getr (Or.inr fl_X6_125) C hP (by decide) xs_2 rfl dX6_readExpr_71 ?_
          refine lv_bipush (v := -14) hx hb dX6_readExpr_74 (by decide) ?_
          obtain ⟨z_, g20, L21, hf22, h⟩ := cb_some h
          refine x_callNv (rest := []) li_X6_211 C (rX8_add_4 l G H.size 2 a fu g16 L17 (-14) z_ (g20, L21) hf22) (kR rfl) hP hD hS 4 8 rfl (zat (by decide) xs_4) rfl hl.1 rfl (Nat.le_of_ble_eq_true rfl) dX6_readExpr_76 (fun u_ H locs e_ hP hD hS => ?_)
          have hP : va_P G.1 vwCl (zw G (XS 2) 105 a g20 L21) H := hP
          have hD : va_D A (zw G (XS 2) 105 a g20 L21) := hD
          refine lv_iinc (v := (v2 + 1)) (lv' := [(2, .int (v2 + 1)), (0, .ref (a 5)), (1, .int v1)]) hx hb dX6_readExpr_79 hl (k := 2) rfl rfl (by decide) rfl (fun ls hl => ?_)
          refine lv_goto (tgt := 42) hx hb dX6_readExpr_82 (by decide) ?_
          exact ih42 ((v2 + 1), g20, L21) h H locs ls hP hD hS (lv_sub hl [1, 2, 0] rfl)
    exact lp42 v1 fu (0, g2, L3) h H locs ls hP hD hS (lv_sub hl [1, 2, 0] rfl)
  refine lv_icmp_le (x := p1) (y := 5) (tgt := 35) hx hb dX6_readExpr_2 (by decide) (fun c23 => ?_) (fun c23 => ?_)
  ·
    have h := ite_t c23 h
    exact J35 p1 g L H locs ls h hP hD hS (lv_sub hl [0, 1] rfl)
  ·
    have h := ite_e c23 h
    refine lv_aload_n hx hb dX6_readExpr_5 rfl (lv_at hl 0 rfl) ?_
    refine x_getv (v := .int (g 5 4)) (Or.inl fl_X6_50) C hP (by decide) xs_5 rfl dX6_readExpr_6 ?_
    refine lv_iconst (v := 1) hx hb dX6_readExpr_9 (by decide) ?_
    have J30 : ∀ (v1 : Int32) (g : Nat → Nat → Int32) (L : Nat → Nat → Int64) (H : Heap) (locs : List Loc) (ls : Array Slot), fX6_readExpr_5_p30 fu (fX6_readExpr_5 fu 2) v1 g L = some (res, s9) → va_P G.1 vwCl (zw G (XS 2) 105 a g L) H → va_D A (zw G (XS 2) 105 a g L) → va_S A s.heap H locs → lv_has ls 3 [(0, .ref (a 5)), (1, .int v1)] → W p l e { frames := 32, cells := 0, slots := 0, locals := 683 } s m [.ref (a 5), .int p1].toArray below meth c H locs 0 0 (MQ below ((kQv G (S := Unit) (fun _ => True) (fun _ => zw G (XS 2) 105 a s9.1 s9.2)) A) [.ref (a 5), .int p1].toArray s 0 0 A) (F0 m 30 ls []) := by
      intro v1 g L H locs ls h hP hD hS hl
      unfold fX6_readExpr_5_p30 at h
      refine lv_aload_n hx hb dX6_readExpr_30 rfl (lv_at hl 0 rfl) ?_
      refine lv_iconst (v := 2) hx hb dX6_readExpr_31 (by decide) ?_
      obtain ⟨z_, g25, L26, hf27, h⟩ := cb_some h
      refine x_callVv (rest := []) li_X6_78 C (rX6_refuse_5 l G H.size a fu g L 2 z_ (g25, L26) hf27) (kR rfl) hP hD hS 5 6 rfl (zat (by decide) xs_5) rfl hl.1 rfl (Nat.le_of_ble_eq_true rfl) dX6_readExpr_32 (fun u_ H locs e_ hP hD hS => ?_)
      have hP : va_P G.1 vwCl (zw G (XS 2) 105 a g25 L26) H := hP
      have hD : va_D A (zw G (XS 2) 105 a g25 L26) := hD
      exact J35 v1 g25 L26 H locs ls h hP hD hS (lv_sub hl [0, 1] rfl)
    refine lv_icmp_eq (x := (g 5 4)) (y := 1) (tgt := 30) hx hb dX6_readExpr_10 (by decide) (fun c28 => ?_) (fun c28 => ?_)
    ·
      have h := ite_t c28 h
      exact J30 p1 g L H locs ls h hP hD hS (lv_sub hl [0, 1] rfl)
    ·
      have h := ite_e c28 h
      refine lv_aload_n hx hb dX6_readExpr_13 rfl (lv_at hl 0 rfl) ?_
      refine x_getv (v := .int (g 5 4)) (Or.inl fl_X6_50) C hP (by decide) xs_5 rfl dX6_readExpr_14 ?_
      refine lv_iconst (v := 2) hx hb dX6_readExpr_17 (by decide) ?_
      refine lv_icmp_eq (x := (g 5 4)) (y := 2) (tgt := 30) hx hb dX6_readExpr_18 (by decide) (fun c29 => ?_) (fun c29 => ?_)
      ·
        have h := ite_t c29 h
        exact J30 p1 g L H locs ls h hP hD hS (lv_sub hl [0, 1] rfl)
      ·
        have h := ite_e c29 h
        refine lv_aload_n hx hb dX6_readExpr_21 rfl (lv_at hl 0 rfl) ?_
        refine lv_bipush (v := 40) hx hb dX6_readExpr_22 (by decide) ?_
        obtain ⟨z_, g31, L32, hf33, h⟩ := cb_some h
        refine x_callVi (rest := []) li_X6_86 C (rX6_isSignNow_5 l G H.size a fu g L 40 z_ (g31, L32) hf33) (kR rfl) hP hD hS 5 6 rfl (zat (by decide) xs_5) rfl hl.1 rfl (Nat.le_of_ble_eq_true rfl) dX6_readExpr_24 (fun x30 u_ H locs e_ hP hD hS => ?_)
        have e_ : x30 = z_ := e_
        subst e_
        have hP : va_P G.1 vwCl (zw G (XS 2) 105 a g31 L32) H := hP
        have hD : va_D A (zw G (XS 2) 105 a g31 L32) := hD
        refine lv_if_eq (x := x30) (tgt := 35) hx hb dX6_readExpr_27 (by decide) (fun c34 => ?_) (fun c34 => ?_)
        ·
          have h := ite_t c34 h
          exact J35 p1 g31 L32 H locs ls h hP hD hS (lv_sub hl [0, 1] rfl)
        ·
          have h := ite_e c34 h
          exact J30 p1 g31 L32 H locs ls h hP hD hS (lv_sub hl [0, 1] rfl)
set_option maxHeartbeats 4000000 in
set_option maxRecDepth 100000 in
theorem rX6_readPart_5_L4 (l : Launch) (G : kG) (sz : Nat) (a : Nat → Nat) (fu : Nat) (g : Nat → Nat → Int32) (L : Nat → Nat → Int64) (p1 : Int32) (res : Unit) (s9 : zS) (h : fX6_readPart_5 fu (fX6_readExpr_5 fu 3) p1 g L = some (res, s9)) : kM l yX6_readPart cX6_readPart 3 none { frames := 33, cells := 0, slots := 0, locals := 705 } G [.ref (a 5), .int p1] (zw G (XS 2) 105 a g L) sz (kQv G (S := Unit) (fun _ => True) (fun _ => zw G (XS 2) 105 a s9.1 s9.2)) := by
  refine kM.of (by decide) (Nat.le_of_ble_eq_true rfl) ?_
  intro p e s m below meth c A ls H C hr hlk hnm hP hD hS hl
  have C : kC G p s m c cX6_readPart 3 RX6 A := C
  have hx := C.1
  have hb := C.2.1
  have hl : lv_has ls 3 [(0, .ref (a 5)), (1, .int p1)] := hl
  obtain ⟨locs, hlocs⟩ : ∃ q : List Loc, q = [] := ⟨_, rfl⟩
  rw [← hlocs] at hS
  rw [← hlocs]
  unfold fX6_readPart_5 at h
  refine lv_aload_n hx hb dX6_readPart_0 rfl (lv_at hl 0 rfl) ?_
  refine x_getv (v := .int (g 5 4)) (Or.inl fl_X6_50) C hP (by decide) xs_5 rfl dX6_readPart_1 ?_
  refine lv_iconst (v := 1) hx hb dX6_readPart_4 (by decide) ?_
  have J111 : ∀ (g : Nat → Nat → Int32) (L : Nat → Nat → Int64) (H : Heap) (locs : List Loc) (ls : Array Slot), fX6_readPart_5_p111 fu (fX6_readExpr_5 fu 3) g L = some (res, s9) → va_P G.1 vwCl (zw G (XS 2) 105 a g L) H → va_D A (zw G (XS 2) 105 a g L) → va_S A s.heap H locs → lv_has ls 3 [] → W p l e { frames := 33, cells := 0, slots := 0, locals := 705 } s m [.ref (a 5), .int p1].toArray below meth c H locs 0 0 (MQ below ((kQv G (S := Unit) (fun _ => True) (fun _ => zw G (XS 2) 105 a s9.1 s9.2)) A) [.ref (a 5), .int p1].toArray s 0 0 A) (F0 m 111 ls []) := by
    intro g L H locs ls h hP hD hS hl
    unfold fX6_readPart_5_p111 at h
    exact y_vret C hr hlk hP hD hS h (Nat.le_of_ble_eq_true rfl) (Nat.le_of_ble_eq_true rfl) dX6_readPart_111
  refine lv_icmp_ne (x := (g 5 4)) (y := 1) (tgt := 29) hx hb dX6_readPart_5 (by decide) (fun c1 => ?_) (fun c1 => ?_)
  ·
    have h := ite_e c1 h
    refine lv_aload_n hx hb dX6_readPart_29 rfl (lv_at hl 0 rfl) ?_
    refine x_getv (v := .int (g 5 4)) (Or.inl fl_X6_50) C hP (by decide) xs_5 rfl dX6_readPart_30 ?_
    refine lv_iconst (v := 2) hx hb dX6_readPart_33 (by decide) ?_
    refine lv_icmp_ne (x := (g 5 4)) (y := 2) (tgt := 72) hx hb dX6_readPart_34 (by decide) (fun c2 => ?_) (fun c2 => ?_)
    ·
      have h := ite_e c2 h
      refine lv_aload_n hx hb dX6_readPart_72 rfl (lv_at hl 0 rfl) ?_
      refine lv_bipush (v := 40) hx hb dX6_readPart_73 (by decide) ?_
      obtain ⟨z_, g4, L5, hf6, h⟩ := cb_some h
      refine x_callVi (rest := []) li_X6_86 C (rX6_isSignNow_5 l G H.size a fu g L 40 z_ (g4, L5) hf6) (kR rfl) hP hD hS 5 6 rfl (zat (by decide) xs_5) rfl hl.1 rfl (Nat.le_of_ble_eq_true rfl) dX6_readPart_75 (fun x3 u_ H locs e_ hP hD hS => ?_)
      have e_ : x3 = z_ := e_
      subst e_
      have hP : va_P G.1 vwCl (zw G (XS 2) 105 a g4 L5) H := hP
      have hD : va_D A (zw G (XS 2) 105 a g4 L5) := hD
      have J106 : ∀ (g : Nat → Nat → Int32) (L : Nat → Nat → Int64) (H : Heap) (locs : List Loc) (ls : Array Slot), fX6_readPart_5_p106 fu (fX6_readExpr_5 fu 3) g L = some (res, s9) → va_P G.1 vwCl (zw G (XS 2) 105 a g L) H → va_D A (zw G (XS 2) 105 a g L) → va_S A s.heap H locs → lv_has ls 3 [(0, .ref (a 5))] → W p l e { frames := 33, cells := 0, slots := 0, locals := 705 } s m [.ref (a 5), .int p1].toArray below meth c H locs 0 0 (MQ below ((kQv G (S := Unit) (fun _ => True) (fun _ => zw G (XS 2) 105 a s9.1 s9.2)) A) [.ref (a 5), .int p1].toArray s 0 0 A) (F0 m 106 ls []) := by
        intro g L H locs ls h hP hD hS hl
        unfold fX6_readPart_5_p106 at h
        refine lv_aload_n hx hb dX6_readPart_106 rfl (lv_at hl 0 rfl) ?_
        refine lv_iconst (v := 1) hx hb dX6_readPart_107 (by decide) ?_
        obtain ⟨z_, g8, L9, hf10, h⟩ := cb_some h
        refine x_callVv (rest := []) li_X6_78 C (rX6_refuse_5 l G H.size a fu g L 1 z_ (g8, L9) hf10) (kR rfl) hP hD hS 5 6 rfl (zat (by decide) xs_5) rfl hl.1 rfl (Nat.le_of_ble_eq_true rfl) dX6_readPart_108 (fun u_ H locs e_ hP hD hS => ?_)
        have hP : va_P G.1 vwCl (zw G (XS 2) 105 a g8 L9) H := hP
        have hD : va_D A (zw G (XS 2) 105 a g8 L9) := hD
        exact J111 g8 L9 H locs ls h hP hD hS (lv_sub hl [] rfl)
      refine lv_if_eq (x := x3) (tgt := 106) hx hb dX6_readPart_78 (by decide) (fun c11 => ?_) (fun c11 => ?_)
      ·
        have h := ite_t c11 h
        exact J106 g4 L5 H locs ls h hP hD hS (lv_sub hl [0] rfl)
      ·
        have h := ite_e c11 h
        refine lv_iload_n hx hb dX6_readPart_81 rfl (lv_at hl 1 rfl) ?_
        refine lv_iconst (v := 5) hx hb dX6_readPart_82 (by decide) ?_
        refine lv_icmp_gt (x := p1) (y := 5) (tgt := 106) hx hb dX6_readPart_83 (by decide) (fun c12 => ?_) (fun c12 => ?_)
        ·
          have h := ite_t c12 h
          exact J106 g4 L5 H locs ls h hP hD hS (lv_sub hl [0] rfl)
        ·
          have h := ite_e c12 h
          refine lv_aload_n hx hb dX6_readPart_86 rfl (lv_at hl 0 rfl) ?_
          obtain ⟨z_, g14, L15, hf16, h⟩ := cb_some h
          refine x_callVv (rest := []) li_X6_53 C (rX6_advance_5 l G H.size a fu g4 L5 z_ (g14, L15) hf16) (kR rfl) hP hD hS 5 6 rfl (zat (by decide) xs_5) rfl hl.1 rfl (Nat.le_of_ble_eq_true rfl) dX6_readPart_87 (fun u_ H locs e_ hP hD hS => ?_)
          have hP : va_P G.1 vwCl (zw G (XS 2) 105 a g14 L15) H := hP
          have hD : va_D A (zw G (XS 2) 105 a g14 L15) := hD
          refine lv_aload_n hx hb dX6_readPart_90 rfl (lv_at hl 0 rfl) ?_
          refine lv_iload_n hx hb dX6_readPart_91 rfl (lv_at hl 1 rfl) ?_
          refine lv_iconst (v := 1) hx hb dX6_readPart_92 (by decide) ?_
          refine lv_iadd hx hb dX6_readPart_93 ?_
          obtain ⟨z_, g18, L19, hf20, h⟩ := cb_some h
          refine x_callVv (rest := []) li_X6_134 C (rX6_readExpr_5_L3 l G H.size a fu g14 L15 (p1 + 1) z_ (g18, L19) hf20) (kR rfl) hP hD hS 5 6 rfl (zat (by decide) xs_5) rfl hl.1 rfl (Nat.le_of_ble_eq_true rfl) dX6_readPart_94 (fun u_ H locs e_ hP hD hS => ?_)
          have hP : va_P G.1 vwCl (zw G (XS 2) 105 a g18 L19) H := hP
          have hD : va_D A (zw G (XS 2) 105 a g18 L19) := hD
          refine lv_aload_n hx hb dX6_readPart_97 rfl (lv_at hl 0 rfl) ?_
          refine lv_bipush (v := 41) hx hb dX6_readPart_98 (by decide) ?_
          obtain ⟨z_, g22, L23, hf24, h⟩ := cb_some h
          refine x_callVv (rest := []) li_X6_114 C (rX6_readSign_5 l G H.size a fu g18 L19 41 z_ (g22, L23) hf24) (kR rfl) hP hD hS 5 6 rfl (zat (by decide) xs_5) rfl hl.1 rfl (Nat.le_of_ble_eq_true rfl) dX6_readPart_100 (fun u_ H locs e_ hP hD hS => ?_)
          have hP : va_P G.1 vwCl (zw G (XS 2) 105 a g22 L23) H := hP
          have hD : va_D A (zw G (XS 2) 105 a g22 L23) := hD
          refine lv_goto (tgt := 111) hx hb dX6_readPart_103 (by decide) ?_
          exact J111 g22 L23 H locs ls h hP hD hS (lv_sub hl [] rfl)
    ·
      have h := ite_t c2 h
      refine lv_aload_n hx hb dX6_readPart_37 rfl (lv_at hl 0 rfl) ?_
      obtain ⟨z_, g26, L27, hf28, h⟩ := cb_some h
      refine x_callVi (rest := []) li_X6_233 C (rX6_valueNow_5 l G H.size a fu g L z_ (g26, L27) hf28) (kR rfl) hP hD hS 5 6 rfl (zat (by decide) xs_5) rfl hl.1 rfl (Nat.le_of_ble_eq_true rfl) dX6_readPart_38 (fun x25 u_ H locs e_ hP hD hS => ?_)
      have e_ : x25 = z_ := e_
      subst e_
      have hP : va_P G.1 vwCl (zw G (XS 2) 105 a g26 L27) H := hP
      have hD : va_D A (zw G (XS 2) 105 a g26 L27) := hD
      refine lv_istore_n (lv' := [(2, .int x25), (0, .ref (a 5)), (1, .int p1)]) hx hb dX6_readPart_41 rfl hl (by decide) rfl (fun ls hl => ?_)
      refine lv_iload_n hx hb dX6_readPart_42 rfl (lv_at hl 0 rfl) ?_
      refine lv_iconst (v := -1) hx hb dX6_readPart_43 (by decide) ?_
      have J52 : ∀ (v2 : Int32) (g : Nat → Nat → Int32) (L : Nat → Nat → Int64) (H : Heap) (locs : List Loc) (ls : Array Slot), fX6_readPart_5_p52 fu (fX6_readExpr_5 fu 3) v2 g L = some (res, s9) → va_P G.1 vwCl (zw G (XS 2) 105 a g L) H → va_D A (zw G (XS 2) 105 a g L) → va_S A s.heap H locs → lv_has ls 3 [(0, .ref (a 5)), (2, .int v2)] → W p l e { frames := 33, cells := 0, slots := 0, locals := 705 } s m [.ref (a 5), .int p1].toArray below meth c H locs 0 0 (MQ below ((kQv G (S := Unit) (fun _ => True) (fun _ => zw G (XS 2) 105 a s9.1 s9.2)) A) [.ref (a 5), .int p1].toArray s 0 0 A) (F0 m 52 ls []) := by
        intro v2 g L H locs ls h hP hD hS hl
        unfold fX6_readPart_5_p52 at h
        refine lv_aload_n hx hb dX6_readPart_52 rfl (lv_at hl 0 rfl) ?_
        refine x_getr (Or.inl fl_X6_15) C hP (by decide) xs_5 rfl dX6_readPart_53 ?_
        refine x_getr (Or.inr fl_X6_125) C hP (by decide) xs_2 rfl dX6_readPart_56 ?_
        refine lv_iconst (v := -1) hx hb dX6_readPart_59 (by decide) ?_
        refine lv_iload_n hx hb dX6_readPart_60 rfl (lv_at hl 1 rfl) ?_
        refine lv_isub hx hb dX6_readPart_61 ?_
        obtain ⟨z_, g30, L31, hf32, h⟩ := cb_some h
        refine x_callNv (rest := []) li_X6_211 C (rX8_add_4 l G H.size 2 a fu g L ((-1) - v2) z_ (g30, L31) hf32) (kR rfl) hP hD hS 4 8 rfl (zat (by decide) xs_4) rfl hl.1 rfl (Nat.le_of_ble_eq_true rfl) dX6_readPart_62 (fun u_ H locs e_ hP hD hS => ?_)
        have hP : va_P G.1 vwCl (zw G (XS 2) 105 a g30 L31) H := hP
        have hD : va_D A (zw G (XS 2) 105 a g30 L31) := hD
        refine lv_aload_n hx hb dX6_readPart_65 rfl (lv_at hl 0 rfl) ?_
        obtain ⟨z_, g34, L35, hf36, h⟩ := cb_some h
        refine x_callVv (rest := []) li_X6_53 C (rX6_advance_5 l G H.size a fu g30 L31 z_ (g34, L35) hf36) (kR rfl) hP hD hS 5 6 rfl (zat (by decide) xs_5) rfl hl.1 rfl (Nat.le_of_ble_eq_true rfl) dX6_readPart_66 (fun u_ H locs e_ hP hD hS => ?_)
        have hP : va_P G.1 vwCl (zw G (XS 2) 105 a g34 L35) H := hP
        have hD : va_D A (zw G (XS 2) 105 a g34 L35) := hD
        refine lv_goto (tgt := 111) hx hb dX6_readPart_69 (by decide) ?_
        exact J111 g34 L35 H locs ls h hP hD hS (lv_sub hl [] rfl)
      refine lv_icmp_ne (x := x25) (y := (-1)) (tgt := 52) hx hb dX6_readPart_44 (by decide) (fun c37 => ?_) (fun c37 => ?_)
      ·
        have h := ite_e c37 h
        exact J52 x25 g26 L27 H locs ls h hP hD hS (lv_sub hl [1, 0] rfl)
      ·
        have h := ite_t c37 h
        refine lv_aload_n hx hb dX6_readPart_47 rfl (lv_at hl 1 rfl) ?_
        refine lv_iconst (v := 3) hx hb dX6_readPart_48 (by decide) ?_
        obtain ⟨z_, g39, L40, hf41, h⟩ := cb_some h
        refine x_callVv (rest := []) li_X6_78 C (rX6_refuse_5 l G H.size a fu g26 L27 3 z_ (g39, L40) hf41) (kR rfl) hP hD hS 5 6 rfl (zat (by decide) xs_5) rfl hl.1 rfl (Nat.le_of_ble_eq_true rfl) dX6_readPart_49 (fun u_ H locs e_ hP hD hS => ?_)
        have hP : va_P G.1 vwCl (zw G (XS 2) 105 a g39 L40) H := hP
        have hD : va_D A (zw G (XS 2) 105 a g39 L40) := hD
        exact J52 x25 g39 L40 H locs ls h hP hD hS (lv_sub hl [1, 0] rfl)
  ·
    have h := ite_t c1 h
    refine lv_aload_n hx hb dX6_readPart_8 rfl (lv_at hl 0 rfl) ?_
    refine x_getr (Or.inl fl_X6_15) C hP (by decide) xs_5 rfl dX6_readPart_9 ?_
    refine x_getr (Or.inr fl_X6_125) C hP (by decide) xs_2 rfl dX6_readPart_12 ?_
    refine lv_aload_n hx hb dX6_readPart_15 rfl (lv_at hl 0 rfl) ?_
    refine lv_iconst (v := 0) hx hb dX6_readPart_16 (by decide) ?_
    refine lv_sipush (v := 9999) hx hb dX6_readPart_17 (by decide) ?_
    obtain ⟨z_, g43, L44, hf45, h⟩ := cb_some h
    refine x_callVi (rest := [.ref (a 4)]) li_X6_118 C (rX6_readNumber_5 l G H.size a fu g L 0 9999 z_ (g43, L44) hf45) (kR rfl) hP hD hS 5 6 rfl (zat (by decide) xs_5) rfl hl.1 rfl (Nat.le_of_ble_eq_true rfl) dX6_readPart_20 (fun x42 u_ H locs e_ hP hD hS => ?_)
    have e_ : x42 = z_ := e_
    subst e_
    have hP : va_P G.1 vwCl (zw G (XS 2) 105 a g43 L44) H := hP
    have hD : va_D A (zw G (XS 2) 105 a g43 L44) := hD
    obtain ⟨z_, g47, L48, hf49, h⟩ := cb_some h
    refine x_callNv (rest := []) li_X6_211 C (rX8_add_4 l G H.size 2 a fu g43 L44 x42 z_ (g47, L48) hf49) (kR rfl) hP hD hS 4 8 rfl (zat (by decide) xs_4) rfl hl.1 rfl (Nat.le_of_ble_eq_true rfl) dX6_readPart_23 (fun u_ H locs e_ hP hD hS => ?_)
    have hP : va_P G.1 vwCl (zw G (XS 2) 105 a g47 L48) H := hP
    have hD : va_D A (zw G (XS 2) 105 a g47 L48) := hD
    refine lv_goto (tgt := 111) hx hb dX6_readPart_26 (by decide) ?_
    exact J111 g47 L48 H locs ls h hP hD hS (lv_sub hl [] rfl)
set_option maxHeartbeats 4000000 in
set_option maxRecDepth 100000 in
theorem rX6_readProduct_5_L4 (l : Launch) (G : kG) (sz : Nat) (a : Nat → Nat) (fu : Nat) (g : Nat → Nat → Int32) (L : Nat → Nat → Int64) (p1 : Int32) (res : Unit) (s9 : zS) (h : fX6_readProduct_5 fu (fX6_readExpr_5 fu 3) p1 g L = some (res, s9)) : kM l yX6_readProduct cX6_readProduct 4 none { frames := 34, cells := 0, slots := 0, locals := 727 } G [.ref (a 5), .int p1] (zw G (XS 2) 105 a g L) sz (kQv G (S := Unit) (fun _ => True) (fun _ => zw G (XS 2) 105 a s9.1 s9.2)) := by
  refine kM.of (by decide) (Nat.le_of_ble_eq_true rfl) ?_
  intro p e s m below meth c A ls H C hr hlk hnm hP hD hS hl
  have C : kC G p s m c cX6_readProduct 4 RX6 A := C
  have hx := C.1
  have hb := C.2.1
  have hl : lv_has ls 4 [(0, .ref (a 5)), (1, .int p1)] := hl
  obtain ⟨locs, hlocs⟩ : ∃ q : List Loc, q = [] := ⟨_, rfl⟩
  rw [← hlocs] at hS
  rw [← hlocs]
  unfold fX6_readProduct_5 at h
  refine lv_aload_n hx hb dX6_readProduct_0 rfl (lv_at hl 0 rfl) ?_
  refine lv_iload_n hx hb dX6_readProduct_1 rfl (lv_at hl 1 rfl) ?_
  obtain ⟨z_, g2, L3, hf4, h⟩ := cb_some h
  refine x_callVv (rest := []) li_X6_230 C (rX6_readPart_5_L4 l G H.size a fu g L p1 z_ (g2, L3) hf4) (kR rfl) hP hD hS 5 6 rfl (zat (by decide) xs_5) rfl hl.1 rfl (Nat.le_of_ble_eq_true rfl) dX6_readProduct_2 (fun u_ H locs e_ hP hD hS => ?_)
  have hP : va_P G.1 vwCl (zw G (XS 2) 105 a g2 L3) H := hP
  have hD : va_D A (zw G (XS 2) 105 a g2 L3) := hD
  refine lv_iconst (v := 0) hx hb dX6_readProduct_5 (by decide) ?_
  refine lv_istore_n (lv' := [(2, .int 0), (0, .ref (a 5)), (1, .int p1)]) hx hb dX6_readProduct_6 rfl hl (by decide) rfl (fun ls hl => ?_)
  have lp7 : ∀ (v1 : Int32), ∀ (n : Nat) (v : Int32 × (Nat → Nat → Int32) × (Nat → Nat → Int64)), whileK (fun k v => fX6_readProduct_5_s7 fu (fX6_readExpr_5 fu 3) v1 k v.1 v.2.1 v.2.2) n v = some (res, s9) → ∀ (H : Heap) (locs : List Loc) (ls : Array Slot), va_P G.1 vwCl (zw G (XS 2) 105 a (v.2.1) (v.2.2)) H → va_D A (zw G (XS 2) 105 a (v.2.1) (v.2.2)) → va_S A s.heap H locs → lv_has ls 4 [(0, .ref (a 5)), (1, .int v1), (2, .int (v.1))] → W p l e { frames := 34, cells := 0, slots := 0, locals := 727 } s m [.ref (a 5), .int p1].toArray below meth c H locs 0 0 (MQ below ((kQv G (S := Unit) (fun _ => True) (fun _ => zw G (XS 2) 105 a s9.1 s9.2)) A) [.ref (a 5), .int p1].toArray s 0 0 A) (F0 m 7 ls []) := by
    intro v1
    refine while_ind (fun k7 ih7 v h => ?_)
    obtain ⟨v2, g, L⟩ := v
    intro H locs ls hP hD hS hl
    have h : fX6_readProduct_5_s7 fu (fX6_readExpr_5 fu 3) v1 k7 v2 g L = some (res, s9) := h
    have hP : va_P G.1 vwCl (zw G (XS 2) 105 a g L) H := hP
    have hD : va_D A (zw G (XS 2) 105 a g L) := hD
    have hl : lv_has ls 4 [(0, .ref (a 5)), (1, .int v1), (2, .int v2)] := hl
    show W p l e { frames := 34, cells := 0, slots := 0, locals := 727 } s m [.ref (a 5), .int p1].toArray below meth c H locs 0 0 (MQ below ((kQv G (S := Unit) (fun _ => True) (fun _ => zw G (XS 2) 105 a s9.1 s9.2)) A) [.ref (a 5), .int p1].toArray s 0 0 A) (F0 m 7 ls [])
    unfold fX6_readProduct_5_s7 at h
    refine lv_iload_n hx hb dX6_readProduct_7 rfl (lv_at hl 2 rfl) ?_
    refine lv_sipush (v := 700) hx hb dX6_readProduct_8 (by decide) ?_
    have J75 : ∀ (g : Nat → Nat → Int32) (L : Nat → Nat → Int64) (H : Heap) (locs : List Loc) (ls : Array Slot), fX6_readProduct_5_p75 fu (fX6_readExpr_5 fu 3) g L = some (res, s9) → va_P G.1 vwCl (zw G (XS 2) 105 a g L) H → va_D A (zw G (XS 2) 105 a g L) → va_S A s.heap H locs → lv_has ls 4 [] → W p l e { frames := 34, cells := 0, slots := 0, locals := 727 } s m [.ref (a 5), .int p1].toArray below meth c H locs 0 0 (MQ below ((kQv G (S := Unit) (fun _ => True) (fun _ => zw G (XS 2) 105 a s9.1 s9.2)) A) [.ref (a 5), .int p1].toArray s 0 0 A) (F0 m 75 ls []) := by
      intro g L H locs ls h hP hD hS hl
      unfold fX6_readProduct_5_p75 at h
      exact y_vret C hr hlk hP hD hS h (Nat.le_of_ble_eq_true rfl) (Nat.le_of_ble_eq_true rfl) dX6_readProduct_75
    refine lv_icmp_ge (x := v2) (y := 700) (tgt := 75) hx hb dX6_readProduct_11 (by decide) (fun c5 => ?_) (fun c5 => ?_)
    ·
      have h := ite_t c5 h
      exact J75 g L H locs ls h hP hD hS (lv_sub hl [] rfl)
    ·
      have h := ite_e c5 h
      refine lv_aload_n hx hb dX6_readProduct_14 rfl (lv_at hl 0 rfl) ?_
      refine lv_bipush (v := 42) hx hb dX6_readProduct_15 (by decide) ?_
      obtain ⟨z_, g7, L8, hf9, h⟩ := cb_some h
      refine x_callVi (rest := []) li_X6_86 C (rX6_isSignNow_5 l G H.size a fu g L 42 z_ (g7, L8) hf9) (kR rfl) hP hD hS 5 6 rfl (zat (by decide) xs_5) rfl hl.1 rfl (Nat.le_of_ble_eq_true rfl) dX6_readProduct_17 (fun x6 u_ H locs e_ hP hD hS => ?_)
      have e_ : x6 = z_ := e_
      subst e_
      have hP : va_P G.1 vwCl (zw G (XS 2) 105 a g7 L8) H := hP
      have hD : va_D A (zw G (XS 2) 105 a g7 L8) := hD
      have J32 : ∀ (v2 : Int32) (g : Nat → Nat → Int32) (L : Nat → Nat → Int64) (H : Heap) (locs : List Loc) (ls : Array Slot), fX6_readProduct_5_p32 fu (fX6_readExpr_5 fu 3) k7 v1 v2 g L = some (res, s9) → va_P G.1 vwCl (zw G (XS 2) 105 a g L) H → va_D A (zw G (XS 2) 105 a g L) → va_S A s.heap H locs → lv_has ls 4 [(0, .ref (a 5)), (1, .int v1), (2, .int v2)] → W p l e { frames := 34, cells := 0, slots := 0, locals := 727 } s m [.ref (a 5), .int p1].toArray below meth c H locs 0 0 (MQ below ((kQv G (S := Unit) (fun _ => True) (fun _ => zw G (XS 2) 105 a s9.1 s9.2)) A) [.ref (a 5), .int p1].toArray s 0 0 A) (F0 m 32 ls []) := by
        intro v2 g L H locs ls h hP hD hS hl
        unfold fX6_readProduct_5_p32 at h
        refine lv_aload_n hx hb dX6_readProduct_32 rfl (lv_at hl 0 rfl) ?_
        refine lv_bipush (v := 42) hx hb dX6_readProduct_33 (by decide) ?_
        obtain ⟨z_, g11, L12, hf13, h⟩ := cb_some h
        refine x_callVi (rest := []) li_X6_86 C (rX6_isSignNow_5 l G H.size a fu g L 42 z_ (g11, L12) hf13) (kR rfl) hP hD hS 5 6 rfl (zat (by decide) xs_5) rfl hl.1 rfl (Nat.le_of_ble_eq_true rfl) dX6_readProduct_35 (fun x10 u_ H locs e_ hP hD hS => ?_)
        have e_ : x10 = z_ := e_
        subst e_
        have hP : va_P G.1 vwCl (zw G (XS 2) 105 a g11 L12) H := hP
        have hD : va_D A (zw G (XS 2) 105 a g11 L12) := hD
        have J48 : ∀ (v2 : Int32) (t0 : Int32) (g : Nat → Nat → Int32) (L : Nat → Nat → Int64) (H : Heap) (locs : List Loc) (ls : Array Slot), fX6_readProduct_5_p48 fu (fX6_readExpr_5 fu 3) k7 v1 v2 t0 g L = some (res, s9) → va_P G.1 vwCl (zw G (XS 2) 105 a g L) H → va_D A (zw G (XS 2) 105 a g L) → va_S A s.heap H locs → lv_has ls 4 [(0, .ref (a 5)), (1, .int v1), (2, .int v2)] → W p l e { frames := 34, cells := 0, slots := 0, locals := 727 } s m [.ref (a 5), .int p1].toArray below meth c H locs 0 0 (MQ below ((kQv G (S := Unit) (fun _ => True) (fun _ => zw G (XS 2) 105 a s9.1 s9.2)) A) [.ref (a 5), .int p1].toArray s 0 0 A) (F0 m 48 ls [.int t0]) := by
          intro v2 t0 g L H locs ls h hP hD hS hl
          unfold fX6_readProduct_5_p48 at h
          refine lv_istore_n (lv' := [(3, .int t0), (0, .ref (a 5)), (1, .int v1), (2, .int v2)]) hx hb dX6_readProduct_48 rfl hl (by decide) rfl (fun ls hl => ?_)
          refine lv_aload_n hx hb dX6_readProduct_49 rfl (lv_at hl 1 rfl) ?_
          obtain ⟨z_, g15, L16, hf17, h⟩ := cb_some h
          refine x_callVv (rest := []) li_X6_53 C (rX6_advance_5 l G H.size a fu g L z_ (g15, L16) hf17) (kR rfl) hP hD hS 5 6 rfl (zat (by decide) xs_5) rfl hl.1 rfl (Nat.le_of_ble_eq_true rfl) dX6_readProduct_50 (fun u_ H locs e_ hP hD hS => ?_)
          have hP : va_P G.1 vwCl (zw G (XS 2) 105 a g15 L16) H := hP
          have hD : va_D A (zw G (XS 2) 105 a g15 L16) := hD
          refine lv_aload_n hx hb dX6_readProduct_53 rfl (lv_at hl 1 rfl) ?_
          refine lv_iload_n hx hb dX6_readProduct_54 rfl (lv_at hl 2 rfl) ?_
          obtain ⟨z_, g19, L20, hf21, h⟩ := cb_some h
          refine x_callVv (rest := []) li_X6_230 C (rX6_readPart_5_L4 l G H.size a fu g15 L16 v1 z_ (g19, L20) hf21) (kR rfl) hP hD hS 5 6 rfl (zat (by decide) xs_5) rfl hl.1 rfl (Nat.le_of_ble_eq_true rfl) dX6_readProduct_55 (fun u_ H locs e_ hP hD hS => ?_)
          have hP : va_P G.1 vwCl (zw G (XS 2) 105 a g19 L20) H := hP
          have hD : va_D A (zw G (XS 2) 105 a g19 L20) := hD
          refine lv_aload_n hx hb dX6_readProduct_58 rfl (lv_at hl 1 rfl) ?_
          refine x_getr (Or.inl fl_X6_15) C hP (by decide) xs_5 rfl dX6_readProduct_59 ?_
          refine x_getr (Or.inr fl_X6_125) C hP (by decide) xs_2 rfl dX6_readProduct_62 ?_
          refine lv_iload_n hx hb dX6_readProduct_65 rfl (lv_at hl 0 rfl) ?_
          obtain ⟨z_, g23, L24, hf25, h⟩ := cb_some h
          refine x_callNv (rest := []) li_X6_211 C (rX8_add_4 l G H.size 2 a fu g19 L20 t0 z_ (g23, L24) hf25) (kR rfl) hP hD hS 4 8 rfl (zat (by decide) xs_4) rfl hl.1 rfl (Nat.le_of_ble_eq_true rfl) dX6_readProduct_66 (fun u_ H locs e_ hP hD hS => ?_)
          have hP : va_P G.1 vwCl (zw G (XS 2) 105 a g23 L24) H := hP
          have hD : va_D A (zw G (XS 2) 105 a g23 L24) := hD
          refine lv_iinc (v := (v2 + 1)) (lv' := [(2, .int (v2 + 1)), (3, .int t0), (0, .ref (a 5)), (1, .int v1)]) hx hb dX6_readProduct_69 hl (k := 3) rfl rfl (by decide) rfl (fun ls hl => ?_)
          refine lv_goto (tgt := 7) hx hb dX6_readProduct_72 (by decide) ?_
          exact ih7 ((v2 + 1), g23, L24) h H locs ls hP hD hS (lv_sub hl [2, 3, 0] rfl)
        refine lv_if_eq (x := x10) (tgt := 46) hx hb dX6_readProduct_38 (by decide) (fun c26 => ?_) (fun c26 => ?_)
        ·
          have h := ite_t c26 h
          refine lv_bipush (v := -10) hx hb dX6_readProduct_46 (by decide) ?_
          exact J48 v2 (-10) g11 L12 H locs ls h hP hD hS (lv_sub hl [0, 1, 2] rfl)
        ·
          have h := ite_e c26 h
          refine lv_bipush (v := -9) hx hb dX6_readProduct_41 (by decide) ?_
          refine lv_goto (tgt := 48) hx hb dX6_readProduct_43 (by decide) ?_
          exact J48 v2 (-9) g11 L12 H locs ls h hP hD hS (lv_sub hl [0, 1, 2] rfl)
      refine lv_if_ne (x := x6) (tgt := 32) hx hb dX6_readProduct_20 (by decide) (fun c27 => ?_) (fun c27 => ?_)
      ·
        have h := ite_e c27 h
        exact J32 v2 g7 L8 H locs ls h hP hD hS (lv_sub hl [0, 1, 2] rfl)
      ·
        have h := ite_t c27 h
        refine lv_aload_n hx hb dX6_readProduct_23 rfl (lv_at hl 0 rfl) ?_
        refine lv_bipush (v := 47) hx hb dX6_readProduct_24 (by decide) ?_
        obtain ⟨z_, g29, L30, hf31, h⟩ := cb_some h
        refine x_callVi (rest := []) li_X6_86 C (rX6_isSignNow_5 l G H.size a fu g7 L8 47 z_ (g29, L30) hf31) (kR rfl) hP hD hS 5 6 rfl (zat (by decide) xs_5) rfl hl.1 rfl (Nat.le_of_ble_eq_true rfl) dX6_readProduct_26 (fun x28 u_ H locs e_ hP hD hS => ?_)
        have e_ : x28 = z_ := e_
        subst e_
        have hP : va_P G.1 vwCl (zw G (XS 2) 105 a g29 L30) H := hP
        have hD : va_D A (zw G (XS 2) 105 a g29 L30) := hD
        refine lv_if_eq (x := x28) (tgt := 75) hx hb dX6_readProduct_29 (by decide) (fun c32 => ?_) (fun c32 => ?_)
        ·
          have h := ite_t c32 h
          exact J75 g29 L30 H locs ls h hP hD hS (lv_sub hl [] rfl)
        ·
          have h := ite_e c32 h
          exact J32 v2 g29 L30 H locs ls h hP hD hS (lv_sub hl [0, 1, 2] rfl)
  exact lp7 p1 fu (0, g2, L3) h H locs ls hP hD hS (lv_sub hl [1, 2, 0] rfl)
set_option maxHeartbeats 4000000 in
set_option maxRecDepth 100000 in
theorem rX6_readSum_5_L4 (l : Launch) (G : kG) (sz : Nat) (a : Nat → Nat) (fu : Nat) (g : Nat → Nat → Int32) (L : Nat → Nat → Int64) (p1 : Int32) (res : Unit) (s9 : zS) (h : fX6_readSum_5 fu (fX6_readExpr_5 fu 3) p1 g L = some (res, s9)) : kM l yX6_readSum cX6_readSum 4 none { frames := 35, cells := 0, slots := 0, locals := 750 } G [.ref (a 5), .int p1] (zw G (XS 2) 105 a g L) sz (kQv G (S := Unit) (fun _ => True) (fun _ => zw G (XS 2) 105 a s9.1 s9.2)) := by
  refine kM.of (by decide) (Nat.le_of_ble_eq_true rfl) ?_
  intro p e s m below meth c A ls H C hr hlk hnm hP hD hS hl
  have C : kC G p s m c cX6_readSum 4 RX6 A := C
  have hx := C.1
  have hb := C.2.1
  have hl : lv_has ls 4 [(0, .ref (a 5)), (1, .int p1)] := hl
  obtain ⟨locs, hlocs⟩ : ∃ q : List Loc, q = [] := ⟨_, rfl⟩
  rw [← hlocs] at hS
  rw [← hlocs]
  unfold fX6_readSum_5 at h
  refine lv_aload_n hx hb dX6_readSum_0 rfl (lv_at hl 0 rfl) ?_
  refine lv_iload_n hx hb dX6_readSum_1 rfl (lv_at hl 1 rfl) ?_
  obtain ⟨z_, g2, L3, hf4, h⟩ := cb_some h
  refine x_callVv (rest := []) li_X6_227 C (rX6_readProduct_5_L4 l G H.size a fu g L p1 z_ (g2, L3) hf4) (kR rfl) hP hD hS 5 6 rfl (zat (by decide) xs_5) rfl hl.1 rfl (Nat.le_of_ble_eq_true rfl) dX6_readSum_2 (fun u_ H locs e_ hP hD hS => ?_)
  have hP : va_P G.1 vwCl (zw G (XS 2) 105 a g2 L3) H := hP
  have hD : va_D A (zw G (XS 2) 105 a g2 L3) := hD
  refine lv_iconst (v := 0) hx hb dX6_readSum_5 (by decide) ?_
  refine lv_istore_n (lv' := [(2, .int 0), (0, .ref (a 5)), (1, .int p1)]) hx hb dX6_readSum_6 rfl hl (by decide) rfl (fun ls hl => ?_)
  have lp7 : ∀ (v1 : Int32), ∀ (n : Nat) (v : Int32 × (Nat → Nat → Int32) × (Nat → Nat → Int64)), whileK (fun k v => fX6_readSum_5_s7 fu (fX6_readExpr_5 fu 3) v1 k v.1 v.2.1 v.2.2) n v = some (res, s9) → ∀ (H : Heap) (locs : List Loc) (ls : Array Slot), va_P G.1 vwCl (zw G (XS 2) 105 a (v.2.1) (v.2.2)) H → va_D A (zw G (XS 2) 105 a (v.2.1) (v.2.2)) → va_S A s.heap H locs → lv_has ls 4 [(0, .ref (a 5)), (1, .int v1), (2, .int (v.1))] → W p l e { frames := 35, cells := 0, slots := 0, locals := 750 } s m [.ref (a 5), .int p1].toArray below meth c H locs 0 0 (MQ below ((kQv G (S := Unit) (fun _ => True) (fun _ => zw G (XS 2) 105 a s9.1 s9.2)) A) [.ref (a 5), .int p1].toArray s 0 0 A) (F0 m 7 ls []) := by
    intro v1
    refine while_ind (fun k7 ih7 v h => ?_)
    obtain ⟨v2, g, L⟩ := v
    intro H locs ls hP hD hS hl
    have h : fX6_readSum_5_s7 fu (fX6_readExpr_5 fu 3) v1 k7 v2 g L = some (res, s9) := h
    have hP : va_P G.1 vwCl (zw G (XS 2) 105 a g L) H := hP
    have hD : va_D A (zw G (XS 2) 105 a g L) := hD
    have hl : lv_has ls 4 [(0, .ref (a 5)), (1, .int v1), (2, .int v2)] := hl
    show W p l e { frames := 35, cells := 0, slots := 0, locals := 750 } s m [.ref (a 5), .int p1].toArray below meth c H locs 0 0 (MQ below ((kQv G (S := Unit) (fun _ => True) (fun _ => zw G (XS 2) 105 a s9.1 s9.2)) A) [.ref (a 5), .int p1].toArray s 0 0 A) (F0 m 7 ls [])
    unfold fX6_readSum_5_s7 at h
    refine lv_iload_n hx hb dX6_readSum_7 rfl (lv_at hl 2 rfl) ?_
    refine lv_sipush (v := 700) hx hb dX6_readSum_8 (by decide) ?_
    have J75 : ∀ (g : Nat → Nat → Int32) (L : Nat → Nat → Int64) (H : Heap) (locs : List Loc) (ls : Array Slot), fX6_readSum_5_p75 fu (fX6_readExpr_5 fu 3) g L = some (res, s9) → va_P G.1 vwCl (zw G (XS 2) 105 a g L) H → va_D A (zw G (XS 2) 105 a g L) → va_S A s.heap H locs → lv_has ls 4 [] → W p l e { frames := 35, cells := 0, slots := 0, locals := 750 } s m [.ref (a 5), .int p1].toArray below meth c H locs 0 0 (MQ below ((kQv G (S := Unit) (fun _ => True) (fun _ => zw G (XS 2) 105 a s9.1 s9.2)) A) [.ref (a 5), .int p1].toArray s 0 0 A) (F0 m 75 ls []) := by
      intro g L H locs ls h hP hD hS hl
      unfold fX6_readSum_5_p75 at h
      exact y_vret C hr hlk hP hD hS h (Nat.le_of_ble_eq_true rfl) (Nat.le_of_ble_eq_true rfl) dX6_readSum_75
    refine lv_icmp_ge (x := v2) (y := 700) (tgt := 75) hx hb dX6_readSum_11 (by decide) (fun c5 => ?_) (fun c5 => ?_)
    ·
      have h := ite_t c5 h
      exact J75 g L H locs ls h hP hD hS (lv_sub hl [] rfl)
    ·
      have h := ite_e c5 h
      refine lv_aload_n hx hb dX6_readSum_14 rfl (lv_at hl 0 rfl) ?_
      refine lv_bipush (v := 43) hx hb dX6_readSum_15 (by decide) ?_
      obtain ⟨z_, g7, L8, hf9, h⟩ := cb_some h
      refine x_callVi (rest := []) li_X6_86 C (rX6_isSignNow_5 l G H.size a fu g L 43 z_ (g7, L8) hf9) (kR rfl) hP hD hS 5 6 rfl (zat (by decide) xs_5) rfl hl.1 rfl (Nat.le_of_ble_eq_true rfl) dX6_readSum_17 (fun x6 u_ H locs e_ hP hD hS => ?_)
      have e_ : x6 = z_ := e_
      subst e_
      have hP : va_P G.1 vwCl (zw G (XS 2) 105 a g7 L8) H := hP
      have hD : va_D A (zw G (XS 2) 105 a g7 L8) := hD
      have J32 : ∀ (v2 : Int32) (g : Nat → Nat → Int32) (L : Nat → Nat → Int64) (H : Heap) (locs : List Loc) (ls : Array Slot), fX6_readSum_5_p32 fu (fX6_readExpr_5 fu 3) k7 v1 v2 g L = some (res, s9) → va_P G.1 vwCl (zw G (XS 2) 105 a g L) H → va_D A (zw G (XS 2) 105 a g L) → va_S A s.heap H locs → lv_has ls 4 [(0, .ref (a 5)), (1, .int v1), (2, .int v2)] → W p l e { frames := 35, cells := 0, slots := 0, locals := 750 } s m [.ref (a 5), .int p1].toArray below meth c H locs 0 0 (MQ below ((kQv G (S := Unit) (fun _ => True) (fun _ => zw G (XS 2) 105 a s9.1 s9.2)) A) [.ref (a 5), .int p1].toArray s 0 0 A) (F0 m 32 ls []) := by
        intro v2 g L H locs ls h hP hD hS hl
        unfold fX6_readSum_5_p32 at h
        refine lv_aload_n hx hb dX6_readSum_32 rfl (lv_at hl 0 rfl) ?_
        refine lv_bipush (v := 43) hx hb dX6_readSum_33 (by decide) ?_
        obtain ⟨z_, g11, L12, hf13, h⟩ := cb_some h
        refine x_callVi (rest := []) li_X6_86 C (rX6_isSignNow_5 l G H.size a fu g L 43 z_ (g11, L12) hf13) (kR rfl) hP hD hS 5 6 rfl (zat (by decide) xs_5) rfl hl.1 rfl (Nat.le_of_ble_eq_true rfl) dX6_readSum_35 (fun x10 u_ H locs e_ hP hD hS => ?_)
        have e_ : x10 = z_ := e_
        subst e_
        have hP : va_P G.1 vwCl (zw G (XS 2) 105 a g11 L12) H := hP
        have hD : va_D A (zw G (XS 2) 105 a g11 L12) := hD
        have J48 : ∀ (v2 : Int32) (t0 : Int32) (g : Nat → Nat → Int32) (L : Nat → Nat → Int64) (H : Heap) (locs : List Loc) (ls : Array Slot), fX6_readSum_5_p48 fu (fX6_readExpr_5 fu 3) k7 v1 v2 t0 g L = some (res, s9) → va_P G.1 vwCl (zw G (XS 2) 105 a g L) H → va_D A (zw G (XS 2) 105 a g L) → va_S A s.heap H locs → lv_has ls 4 [(0, .ref (a 5)), (1, .int v1), (2, .int v2)] → W p l e { frames := 35, cells := 0, slots := 0, locals := 750 } s m [.ref (a 5), .int p1].toArray below meth c H locs 0 0 (MQ below ((kQv G (S := Unit) (fun _ => True) (fun _ => zw G (XS 2) 105 a s9.1 s9.2)) A) [.ref (a 5), .int p1].toArray s 0 0 A) (F0 m 48 ls [.int t0]) := by
          intro v2 t0 g L H locs ls h hP hD hS hl
          unfold fX6_readSum_5_p48 at h
          refine lv_istore_n (lv' := [(3, .int t0), (0, .ref (a 5)), (1, .int v1), (2, .int v2)]) hx hb dX6_readSum_48 rfl hl (by decide) rfl (fun ls hl => ?_)
          refine lv_aload_n hx hb dX6_readSum_49 rfl (lv_at hl 1 rfl) ?_
          obtain ⟨z_, g15, L16, hf17, h⟩ := cb_some h
          refine x_callVv (rest := []) li_X6_53 C (rX6_advance_5 l G H.size a fu g L z_ (g15, L16) hf17) (kR rfl) hP hD hS 5 6 rfl (zat (by decide) xs_5) rfl hl.1 rfl (Nat.le_of_ble_eq_true rfl) dX6_readSum_50 (fun u_ H locs e_ hP hD hS => ?_)
          have hP : va_P G.1 vwCl (zw G (XS 2) 105 a g15 L16) H := hP
          have hD : va_D A (zw G (XS 2) 105 a g15 L16) := hD
          refine lv_aload_n hx hb dX6_readSum_53 rfl (lv_at hl 1 rfl) ?_
          refine lv_iload_n hx hb dX6_readSum_54 rfl (lv_at hl 2 rfl) ?_
          obtain ⟨z_, g19, L20, hf21, h⟩ := cb_some h
          refine x_callVv (rest := []) li_X6_227 C (rX6_readProduct_5_L4 l G H.size a fu g15 L16 v1 z_ (g19, L20) hf21) (kR rfl) hP hD hS 5 6 rfl (zat (by decide) xs_5) rfl hl.1 rfl (Nat.le_of_ble_eq_true rfl) dX6_readSum_55 (fun u_ H locs e_ hP hD hS => ?_)
          have hP : va_P G.1 vwCl (zw G (XS 2) 105 a g19 L20) H := hP
          have hD : va_D A (zw G (XS 2) 105 a g19 L20) := hD
          refine lv_aload_n hx hb dX6_readSum_58 rfl (lv_at hl 1 rfl) ?_
          refine x_getr (Or.inl fl_X6_15) C hP (by decide) xs_5 rfl dX6_readSum_59 ?_
          refine x_getr (Or.inr fl_X6_125) C hP (by decide) xs_2 rfl dX6_readSum_62 ?_
          refine lv_iload_n hx hb dX6_readSum_65 rfl (lv_at hl 0 rfl) ?_
          obtain ⟨z_, g23, L24, hf25, h⟩ := cb_some h
          refine x_callNv (rest := []) li_X6_211 C (rX8_add_4 l G H.size 2 a fu g19 L20 t0 z_ (g23, L24) hf25) (kR rfl) hP hD hS 4 8 rfl (zat (by decide) xs_4) rfl hl.1 rfl (Nat.le_of_ble_eq_true rfl) dX6_readSum_66 (fun u_ H locs e_ hP hD hS => ?_)
          have hP : va_P G.1 vwCl (zw G (XS 2) 105 a g23 L24) H := hP
          have hD : va_D A (zw G (XS 2) 105 a g23 L24) := hD
          refine lv_iinc (v := (v2 + 1)) (lv' := [(2, .int (v2 + 1)), (3, .int t0), (0, .ref (a 5)), (1, .int v1)]) hx hb dX6_readSum_69 hl (k := 3) rfl rfl (by decide) rfl (fun ls hl => ?_)
          refine lv_goto (tgt := 7) hx hb dX6_readSum_72 (by decide) ?_
          exact ih7 ((v2 + 1), g23, L24) h H locs ls hP hD hS (lv_sub hl [2, 3, 0] rfl)
        refine lv_if_eq (x := x10) (tgt := 46) hx hb dX6_readSum_38 (by decide) (fun c26 => ?_) (fun c26 => ?_)
        ·
          have h := ite_t c26 h
          refine lv_bipush (v := -8) hx hb dX6_readSum_46 (by decide) ?_
          exact J48 v2 (-8) g11 L12 H locs ls h hP hD hS (lv_sub hl [0, 1, 2] rfl)
        ·
          have h := ite_e c26 h
          refine lv_bipush (v := -7) hx hb dX6_readSum_41 (by decide) ?_
          refine lv_goto (tgt := 48) hx hb dX6_readSum_43 (by decide) ?_
          exact J48 v2 (-7) g11 L12 H locs ls h hP hD hS (lv_sub hl [0, 1, 2] rfl)
      refine lv_if_ne (x := x6) (tgt := 32) hx hb dX6_readSum_20 (by decide) (fun c27 => ?_) (fun c27 => ?_)
      ·
        have h := ite_e c27 h
        exact J32 v2 g7 L8 H locs ls h hP hD hS (lv_sub hl [0, 1, 2] rfl)
      ·
        have h := ite_t c27 h
        refine lv_aload_n hx hb dX6_readSum_23 rfl (lv_at hl 0 rfl) ?_
        refine lv_bipush (v := 45) hx hb dX6_readSum_24 (by decide) ?_
        obtain ⟨z_, g29, L30, hf31, h⟩ := cb_some h
        refine x_callVi (rest := []) li_X6_86 C (rX6_isSignNow_5 l G H.size a fu g7 L8 45 z_ (g29, L30) hf31) (kR rfl) hP hD hS 5 6 rfl (zat (by decide) xs_5) rfl hl.1 rfl (Nat.le_of_ble_eq_true rfl) dX6_readSum_26 (fun x28 u_ H locs e_ hP hD hS => ?_)
        have e_ : x28 = z_ := e_
        subst e_
        have hP : va_P G.1 vwCl (zw G (XS 2) 105 a g29 L30) H := hP
        have hD : va_D A (zw G (XS 2) 105 a g29 L30) := hD
        refine lv_if_eq (x := x28) (tgt := 75) hx hb dX6_readSum_29 (by decide) (fun c32 => ?_) (fun c32 => ?_)
        ·
          have h := ite_t c32 h
          exact J75 g29 L30 H locs ls h hP hD hS (lv_sub hl [] rfl)
        ·
          have h := ite_e c32 h
          exact J32 v2 g29 L30 H locs ls h hP hD hS (lv_sub hl [0, 1, 2] rfl)
  exact lp7 p1 fu (0, g2, L3) h H locs ls hP hD hS (lv_sub hl [1, 2, 0] rfl)
set_option maxHeartbeats 4000000 in
set_option maxRecDepth 100000 in
theorem rX6_readTest_5_L4 (l : Launch) (G : kG) (sz : Nat) (a : Nat → Nat) (fu : Nat) (g : Nat → Nat → Int32) (L : Nat → Nat → Int64) (p1 : Int32) (res : Unit) (s9 : zS) (h : fX6_readTest_5 fu (fX6_readExpr_5 fu 3) p1 g L = some (res, s9)) : kM l yX6_readTest cX6_readTest 2 none { frames := 36, cells := 0, slots := 0, locals := 773 } G [.ref (a 5), .int p1] (zw G (XS 2) 105 a g L) sz (kQv G (S := Unit) (fun _ => True) (fun _ => zw G (XS 2) 105 a s9.1 s9.2)) := by
  refine kM.of (by decide) (Nat.le_of_ble_eq_true rfl) ?_
  intro p e s m below meth c A ls H C hr hlk hnm hP hD hS hl
  have C : kC G p s m c cX6_readTest 2 RX6 A := C
  have hx := C.1
  have hb := C.2.1
  have hl : lv_has ls 2 [(0, .ref (a 5)), (1, .int p1)] := hl
  obtain ⟨locs, hlocs⟩ : ∃ q : List Loc, q = [] := ⟨_, rfl⟩
  rw [← hlocs] at hS
  rw [← hlocs]
  unfold fX6_readTest_5 at h
  refine lv_aload_n hx hb dX6_readTest_0 rfl (lv_at hl 0 rfl) ?_
  refine lv_iload_n hx hb dX6_readTest_1 rfl (lv_at hl 1 rfl) ?_
  obtain ⟨z_, g2, L3, hf4, h⟩ := cb_some h
  refine x_callVv (rest := []) li_X6_224 C (rX6_readSum_5_L4 l G H.size a fu g L p1 z_ (g2, L3) hf4) (kR rfl) hP hD hS 5 6 rfl (zat (by decide) xs_5) rfl hl.1 rfl (Nat.le_of_ble_eq_true rfl) dX6_readTest_2 (fun u_ H locs e_ hP hD hS => ?_)
  have hP : va_P G.1 vwCl (zw G (XS 2) 105 a g2 L3) H := hP
  have hD : va_D A (zw G (XS 2) 105 a g2 L3) := hD
  refine lv_aload_n hx hb dX6_readTest_5 rfl (lv_at hl 0 rfl) ?_
  refine lv_bipush (v := 60) hx hb dX6_readTest_6 (by decide) ?_
  obtain ⟨z_, g6, L7, hf8, h⟩ := cb_some h
  refine x_callVi (rest := []) li_X6_86 C (rX6_isSignNow_5 l G H.size a fu g2 L3 60 z_ (g6, L7) hf8) (kR rfl) hP hD hS 5 6 rfl (zat (by decide) xs_5) rfl hl.1 rfl (Nat.le_of_ble_eq_true rfl) dX6_readTest_8 (fun x5 u_ H locs e_ hP hD hS => ?_)
  have e_ : x5 = z_ := e_
  subst e_
  have hP : va_P G.1 vwCl (zw G (XS 2) 105 a g6 L7) H := hP
  have hD : va_D A (zw G (XS 2) 105 a g6 L7) := hD
  have J68 : ∀ (g : Nat → Nat → Int32) (L : Nat → Nat → Int64) (H : Heap) (locs : List Loc) (ls : Array Slot), fX6_readTest_5_p68 fu (fX6_readExpr_5 fu 3) g L = some (res, s9) → va_P G.1 vwCl (zw G (XS 2) 105 a g L) H → va_D A (zw G (XS 2) 105 a g L) → va_S A s.heap H locs → lv_has ls 2 [] → W p l e { frames := 36, cells := 0, slots := 0, locals := 773 } s m [.ref (a 5), .int p1].toArray below meth c H locs 0 0 (MQ below ((kQv G (S := Unit) (fun _ => True) (fun _ => zw G (XS 2) 105 a s9.1 s9.2)) A) [.ref (a 5), .int p1].toArray s 0 0 A) (F0 m 68 ls []) := by
    intro g L H locs ls h hP hD hS hl
    unfold fX6_readTest_5_p68 at h
    exact y_vret C hr hlk hP hD hS h (Nat.le_of_ble_eq_true rfl) (Nat.le_of_ble_eq_true rfl) dX6_readTest_68
  refine lv_if_eq (x := x5) (tgt := 38) hx hb dX6_readTest_11 (by decide) (fun c9 => ?_) (fun c9 => ?_)
  ·
    have h := ite_t c9 h
    refine lv_aload_n hx hb dX6_readTest_38 rfl (lv_at hl 0 rfl) ?_
    refine lv_bipush (v := 61) hx hb dX6_readTest_39 (by decide) ?_
    obtain ⟨z_, g11, L12, hf13, h⟩ := cb_some h
    refine x_callVi (rest := []) li_X6_86 C (rX6_isSignNow_5 l G H.size a fu g6 L7 61 z_ (g11, L12) hf13) (kR rfl) hP hD hS 5 6 rfl (zat (by decide) xs_5) rfl hl.1 rfl (Nat.le_of_ble_eq_true rfl) dX6_readTest_41 (fun x10 u_ H locs e_ hP hD hS => ?_)
    have e_ : x10 = z_ := e_
    subst e_
    have hP : va_P G.1 vwCl (zw G (XS 2) 105 a g11 L12) H := hP
    have hD : va_D A (zw G (XS 2) 105 a g11 L12) := hD
    refine lv_if_eq (x := x10) (tgt := 68) hx hb dX6_readTest_44 (by decide) (fun c14 => ?_) (fun c14 => ?_)
    ·
      have h := ite_t c14 h
      exact J68 g11 L12 H locs ls h hP hD hS (lv_sub hl [] rfl)
    ·
      have h := ite_e c14 h
      refine lv_aload_n hx hb dX6_readTest_47 rfl (lv_at hl 0 rfl) ?_
      obtain ⟨z_, g16, L17, hf18, h⟩ := cb_some h
      refine x_callVv (rest := []) li_X6_53 C (rX6_advance_5 l G H.size a fu g11 L12 z_ (g16, L17) hf18) (kR rfl) hP hD hS 5 6 rfl (zat (by decide) xs_5) rfl hl.1 rfl (Nat.le_of_ble_eq_true rfl) dX6_readTest_48 (fun u_ H locs e_ hP hD hS => ?_)
      have hP : va_P G.1 vwCl (zw G (XS 2) 105 a g16 L17) H := hP
      have hD : va_D A (zw G (XS 2) 105 a g16 L17) := hD
      refine lv_aload_n hx hb dX6_readTest_51 rfl (lv_at hl 0 rfl) ?_
      refine lv_iload_n hx hb dX6_readTest_52 rfl (lv_at hl 1 rfl) ?_
      obtain ⟨z_, g20, L21, hf22, h⟩ := cb_some h
      refine x_callVv (rest := []) li_X6_224 C (rX6_readSum_5_L4 l G H.size a fu g16 L17 p1 z_ (g20, L21) hf22) (kR rfl) hP hD hS 5 6 rfl (zat (by decide) xs_5) rfl hl.1 rfl (Nat.le_of_ble_eq_true rfl) dX6_readTest_53 (fun u_ H locs e_ hP hD hS => ?_)
      have hP : va_P G.1 vwCl (zw G (XS 2) 105 a g20 L21) H := hP
      have hD : va_D A (zw G (XS 2) 105 a g20 L21) := hD
      refine lv_aload_n hx hb dX6_readTest_56 rfl (lv_at hl 0 rfl) ?_
      refine x_getr (Or.inl fl_X6_15) C hP (by decide) xs_5 rfl dX6_readTest_57 ?_
      refine x_getr (Or.inr fl_X6_125) C hP (by decide) xs_2 rfl dX6_readTest_60 ?_
      refine lv_bipush (v := -12) hx hb dX6_readTest_63 (by decide) ?_
      obtain ⟨z_, g24, L25, hf26, h⟩ := cb_some h
      refine x_callNv (rest := []) li_X6_211 C (rX8_add_4 l G H.size 2 a fu g20 L21 (-12) z_ (g24, L25) hf26) (kR rfl) hP hD hS 4 8 rfl (zat (by decide) xs_4) rfl hl.1 rfl (Nat.le_of_ble_eq_true rfl) dX6_readTest_65 (fun u_ H locs e_ hP hD hS => ?_)
      have hP : va_P G.1 vwCl (zw G (XS 2) 105 a g24 L25) H := hP
      have hD : va_D A (zw G (XS 2) 105 a g24 L25) := hD
      exact J68 g24 L25 H locs ls h hP hD hS (lv_sub hl [] rfl)
  ·
    have h := ite_e c9 h
    refine lv_aload_n hx hb dX6_readTest_14 rfl (lv_at hl 0 rfl) ?_
    obtain ⟨z_, g28, L29, hf30, h⟩ := cb_some h
    refine x_callVv (rest := []) li_X6_53 C (rX6_advance_5 l G H.size a fu g6 L7 z_ (g28, L29) hf30) (kR rfl) hP hD hS 5 6 rfl (zat (by decide) xs_5) rfl hl.1 rfl (Nat.le_of_ble_eq_true rfl) dX6_readTest_15 (fun u_ H locs e_ hP hD hS => ?_)
    have hP : va_P G.1 vwCl (zw G (XS 2) 105 a g28 L29) H := hP
    have hD : va_D A (zw G (XS 2) 105 a g28 L29) := hD
    refine lv_aload_n hx hb dX6_readTest_18 rfl (lv_at hl 0 rfl) ?_
    refine lv_iload_n hx hb dX6_readTest_19 rfl (lv_at hl 1 rfl) ?_
    obtain ⟨z_, g32, L33, hf34, h⟩ := cb_some h
    refine x_callVv (rest := []) li_X6_224 C (rX6_readSum_5_L4 l G H.size a fu g28 L29 p1 z_ (g32, L33) hf34) (kR rfl) hP hD hS 5 6 rfl (zat (by decide) xs_5) rfl hl.1 rfl (Nat.le_of_ble_eq_true rfl) dX6_readTest_20 (fun u_ H locs e_ hP hD hS => ?_)
    have hP : va_P G.1 vwCl (zw G (XS 2) 105 a g32 L33) H := hP
    have hD : va_D A (zw G (XS 2) 105 a g32 L33) := hD
    refine lv_aload_n hx hb dX6_readTest_23 rfl (lv_at hl 0 rfl) ?_
    refine x_getr (Or.inl fl_X6_15) C hP (by decide) xs_5 rfl dX6_readTest_24 ?_
    refine x_getr (Or.inr fl_X6_125) C hP (by decide) xs_2 rfl dX6_readTest_27 ?_
    refine lv_bipush (v := -11) hx hb dX6_readTest_30 (by decide) ?_
    obtain ⟨z_, g36, L37, hf38, h⟩ := cb_some h
    refine x_callNv (rest := []) li_X6_211 C (rX8_add_4 l G H.size 2 a fu g32 L33 (-11) z_ (g36, L37) hf38) (kR rfl) hP hD hS 4 8 rfl (zat (by decide) xs_4) rfl hl.1 rfl (Nat.le_of_ble_eq_true rfl) dX6_readTest_32 (fun u_ H locs e_ hP hD hS => ?_)
    have hP : va_P G.1 vwCl (zw G (XS 2) 105 a g36 L37) H := hP
    have hD : va_D A (zw G (XS 2) 105 a g36 L37) := hD
    refine lv_goto (tgt := 68) hx hb dX6_readTest_35 (by decide) ?_
    exact J68 g36 L37 H locs ls h hP hD hS (lv_sub hl [] rfl)
set_option maxHeartbeats 4000000 in
set_option maxRecDepth 100000 in
theorem rX6_readNot_5_L4 (l : Launch) (G : kG) (sz : Nat) (a : Nat → Nat) (fu : Nat) (g : Nat → Nat → Int32) (L : Nat → Nat → Int64) (p1 : Int32) (res : Unit) (s9 : zS) (h : fX6_readNot_5 fu (fX6_readExpr_5 fu 3) p1 g L = some (res, s9)) : kM l yX6_readNot cX6_readNot 4 none { frames := 37, cells := 0, slots := 0, locals := 794 } G [.ref (a 5), .int p1] (zw G (XS 2) 105 a g L) sz (kQv G (S := Unit) (fun _ => True) (fun _ => zw G (XS 2) 105 a s9.1 s9.2)) := by
  refine kM.of (by decide) (Nat.le_of_ble_eq_true rfl) ?_
  intro p e s m below meth c A ls H C hr hlk hnm hP hD hS hl
  have C : kC G p s m c cX6_readNot 4 RX6 A := C
  have hx := C.1
  have hb := C.2.1
  have hl : lv_has ls 4 [(0, .ref (a 5)), (1, .int p1)] := hl
  obtain ⟨locs, hlocs⟩ : ∃ q : List Loc, q = [] := ⟨_, rfl⟩
  rw [← hlocs] at hS
  rw [← hlocs]
  unfold fX6_readNot_5 at h
  refine lv_iconst (v := 0) hx hb dX6_readNot_0 (by decide) ?_
  refine lv_istore_n (lv' := [(2, .int 0), (0, .ref (a 5)), (1, .int p1)]) hx hb dX6_readNot_1 rfl hl (by decide) rfl (fun ls hl => ?_)
  have lp2 : ∀ (v1 : Int32), ∀ (n : Nat) (v : Int32 × (Nat → Nat → Int32) × (Nat → Nat → Int64)), whileK (fun k v => fX6_readNot_5_s2 fu (fX6_readExpr_5 fu 3) v1 k v.1 v.2.1 v.2.2) n v = some (res, s9) → ∀ (H : Heap) (locs : List Loc) (ls : Array Slot), va_P G.1 vwCl (zw G (XS 2) 105 a (v.2.1) (v.2.2)) H → va_D A (zw G (XS 2) 105 a (v.2.1) (v.2.2)) → va_S A s.heap H locs → lv_has ls 4 [(0, .ref (a 5)), (1, .int v1), (2, .int (v.1))] → W p l e { frames := 37, cells := 0, slots := 0, locals := 794 } s m [.ref (a 5), .int p1].toArray below meth c H locs 0 0 (MQ below ((kQv G (S := Unit) (fun _ => True) (fun _ => zw G (XS 2) 105 a s9.1 s9.2)) A) [.ref (a 5), .int p1].toArray s 0 0 A) (F0 m 2 ls []) := by
    intro v1
    refine while_ind (fun k2 ih2 v h => ?_)
    obtain ⟨v2, g, L⟩ := v
    intro H locs ls hP hD hS hl
    have h : fX6_readNot_5_s2 fu (fX6_readExpr_5 fu 3) v1 k2 v2 g L = some (res, s9) := h
    have hP : va_P G.1 vwCl (zw G (XS 2) 105 a g L) H := hP
    have hD : va_D A (zw G (XS 2) 105 a g L) := hD
    have hl : lv_has ls 4 [(0, .ref (a 5)), (1, .int v1), (2, .int v2)] := hl
    show W p l e { frames := 37, cells := 0, slots := 0, locals := 794 } s m [.ref (a 5), .int p1].toArray below meth c H locs 0 0 (MQ below ((kQv G (S := Unit) (fun _ => True) (fun _ => zw G (XS 2) 105 a s9.1 s9.2)) A) [.ref (a 5), .int p1].toArray s 0 0 A) (F0 m 2 ls [])
    unfold fX6_readNot_5_s2 at h
    refine lv_iload_n hx hb dX6_readNot_2 rfl (lv_at hl 2 rfl) ?_
    refine lv_bipush (v := 6) hx hb dX6_readNot_3 (by decide) ?_
    have J27 : ∀ (v1 : Int32) (v2 : Int32) (g : Nat → Nat → Int32) (L : Nat → Nat → Int64) (H : Heap) (locs : List Loc) (ls : Array Slot), fX6_readNot_5_p27 fu (fX6_readExpr_5 fu 3) v1 v2 g L = some (res, s9) → va_P G.1 vwCl (zw G (XS 2) 105 a g L) H → va_D A (zw G (XS 2) 105 a g L) → va_S A s.heap H locs → lv_has ls 4 [(0, .ref (a 5)), (1, .int v1), (2, .int v2)] → W p l e { frames := 37, cells := 0, slots := 0, locals := 794 } s m [.ref (a 5), .int p1].toArray below meth c H locs 0 0 (MQ below ((kQv G (S := Unit) (fun _ => True) (fun _ => zw G (XS 2) 105 a s9.1 s9.2)) A) [.ref (a 5), .int p1].toArray s 0 0 A) (F0 m 27 ls []) := by
      intro v1 v2 g L H locs ls h hP hD hS hl
      unfold fX6_readNot_5_p27 at h
      refine lv_aload_n hx hb dX6_readNot_27 rfl (lv_at hl 0 rfl) ?_
      refine y_ldcS (i := 11) C (by decide) rfl dX6_readNot_28 ?_
      obtain ⟨z_, g2, L3, hf4, h⟩ := cb_some h
      refine x_callVi (rest := []) li_X6_92 C (rX6_isWord_5_not l G H.size a fu g L z_ (g2, L3) hf4) (kR rfl) hP hD hS 5 6 rfl (zat (by decide) xs_5) rfl hl.1 rfl (Nat.le_of_ble_eq_true rfl) dX6_readNot_30 (fun x1 u_ H locs e_ hP hD hS => ?_)
      have e_ : x1 = z_ := e_
      subst e_
      have hP : va_P G.1 vwCl (zw G (XS 2) 105 a g2 L3) H := hP
      have hD : va_D A (zw G (XS 2) 105 a g2 L3) := hD
      have J47 : ∀ (v1 : Int32) (v2 : Int32) (g : Nat → Nat → Int32) (L : Nat → Nat → Int64) (H : Heap) (locs : List Loc) (ls : Array Slot), fX6_readNot_5_p47 fu (fX6_readExpr_5 fu 3) v1 v2 g L = some (res, s9) → va_P G.1 vwCl (zw G (XS 2) 105 a g L) H → va_D A (zw G (XS 2) 105 a g L) → va_S A s.heap H locs → lv_has ls 4 [(0, .ref (a 5)), (1, .int v1), (2, .int v2)] → W p l e { frames := 37, cells := 0, slots := 0, locals := 794 } s m [.ref (a 5), .int p1].toArray below meth c H locs 0 0 (MQ below ((kQv G (S := Unit) (fun _ => True) (fun _ => zw G (XS 2) 105 a s9.1 s9.2)) A) [.ref (a 5), .int p1].toArray s 0 0 A) (F0 m 47 ls []) := by
        intro v1 v2 g L H locs ls h hP hD hS hl
        unfold fX6_readNot_5_p47 at h
        refine lv_aload_n hx hb dX6_readNot_47 rfl (lv_at hl 0 rfl) ?_
        refine lv_iload_n hx hb dX6_readNot_48 rfl (lv_at hl 1 rfl) ?_
        obtain ⟨z_, g6, L7, hf8, h⟩ := cb_some h
        refine x_callVv (rest := []) li_X6_221 C (rX6_readTest_5_L4 l G H.size a fu g L v1 z_ (g6, L7) hf8) (kR rfl) hP hD hS 5 6 rfl (zat (by decide) xs_5) rfl hl.1 rfl (Nat.le_of_ble_eq_true rfl) dX6_readNot_49 (fun u_ H locs e_ hP hD hS => ?_)
        have hP : va_P G.1 vwCl (zw G (XS 2) 105 a g6 L7) H := hP
        have hD : va_D A (zw G (XS 2) 105 a g6 L7) := hD
        refine lv_iconst (v := 0) hx hb dX6_readNot_52 (by decide) ?_
        refine lv_istore_n (lv' := [(3, .int 0), (0, .ref (a 5)), (1, .int v1), (2, .int v2)]) hx hb dX6_readNot_53 rfl hl (by decide) rfl (fun ls hl => ?_)
        have lp54 : ∀ (v2 : Int32), ∀ (n : Nat) (v : Int32 × (Nat → Nat → Int32) × (Nat → Nat → Int64)), whileK (fun k v => fX6_readNot_5_s54 fu (fX6_readExpr_5 fu 3) v2 k v.1 v.2.1 v.2.2) n v = some (res, s9) → ∀ (H : Heap) (locs : List Loc) (ls : Array Slot), va_P G.1 vwCl (zw G (XS 2) 105 a (v.2.1) (v.2.2)) H → va_D A (zw G (XS 2) 105 a (v.2.1) (v.2.2)) → va_S A s.heap H locs → lv_has ls 4 [(0, .ref (a 5)), (2, .int v2), (3, .int (v.1))] → W p l e { frames := 37, cells := 0, slots := 0, locals := 794 } s m [.ref (a 5), .int p1].toArray below meth c H locs 0 0 (MQ below ((kQv G (S := Unit) (fun _ => True) (fun _ => zw G (XS 2) 105 a s9.1 s9.2)) A) [.ref (a 5), .int p1].toArray s 0 0 A) (F0 m 54 ls []) := by
          intro v2
          refine while_ind (fun k54 ih54 v h => ?_)
          obtain ⟨v3, g, L⟩ := v
          intro H locs ls hP hD hS hl
          have h : fX6_readNot_5_s54 fu (fX6_readExpr_5 fu 3) v2 k54 v3 g L = some (res, s9) := h
          have hP : va_P G.1 vwCl (zw G (XS 2) 105 a g L) H := hP
          have hD : va_D A (zw G (XS 2) 105 a g L) := hD
          have hl : lv_has ls 4 [(0, .ref (a 5)), (2, .int v2), (3, .int v3)] := hl
          show W p l e { frames := 37, cells := 0, slots := 0, locals := 794 } s m [.ref (a 5), .int p1].toArray below meth c H locs 0 0 (MQ below ((kQv G (S := Unit) (fun _ => True) (fun _ => zw G (XS 2) 105 a s9.1 s9.2)) A) [.ref (a 5), .int p1].toArray s 0 0 A) (F0 m 54 ls [])
          unfold fX6_readNot_5_s54 at h
          refine lv_iload_n hx hb dX6_readNot_54 rfl (lv_at hl 2 rfl) ?_
          refine lv_iload_n hx hb dX6_readNot_55 rfl (lv_at hl 1 rfl) ?_
          refine lv_icmp_ge (x := v3) (y := v2) (tgt := 77) hx hb dX6_readNot_56 (by decide) (fun c9 => ?_) (fun c9 => ?_)
          ·
            have h := ite_t c9 h
            exact y_vret C hr hlk hP hD hS h (Nat.le_of_ble_eq_true rfl) (Nat.le_of_ble_eq_true rfl) dX6_readNot_77
          ·
            have h := ite_e c9 h
            refine lv_aload_n hx hb dX6_readNot_59 rfl (lv_at hl 0 rfl) ?_
            refine x_getr (Or.inl fl_X6_15) C hP (by decide) xs_5 rfl dX6_readNot_60 ?_
            refine x_getr (Or.inr fl_X6_125) C hP (by decide) xs_2 rfl dX6_readNot_63 ?_
            refine lv_bipush (v := -15) hx hb dX6_readNot_66 (by decide) ?_
            obtain ⟨z_, g11, L12, hf13, h⟩ := cb_some h
            refine x_callNv (rest := []) li_X6_211 C (rX8_add_4 l G H.size 2 a fu g L (-15) z_ (g11, L12) hf13) (kR rfl) hP hD hS 4 8 rfl (zat (by decide) xs_4) rfl hl.1 rfl (Nat.le_of_ble_eq_true rfl) dX6_readNot_68 (fun u_ H locs e_ hP hD hS => ?_)
            have hP : va_P G.1 vwCl (zw G (XS 2) 105 a g11 L12) H := hP
            have hD : va_D A (zw G (XS 2) 105 a g11 L12) := hD
            refine lv_iinc (v := (v3 + 1)) (lv' := [(3, .int (v3 + 1)), (0, .ref (a 5)), (2, .int v2)]) hx hb dX6_readNot_71 hl (k := 2) rfl rfl (by decide) rfl (fun ls hl => ?_)
            refine lv_goto (tgt := 54) hx hb dX6_readNot_74 (by decide) ?_
            exact ih54 ((v3 + 1), g11, L12) h H locs ls hP hD hS (lv_sub hl [1, 2, 0] rfl)
        exact lp54 v2 fu (0, g6, L7) h H locs ls hP hD hS (lv_sub hl [1, 3, 0] rfl)
      refine lv_if_eq (x := x1) (tgt := 47) hx hb dX6_readNot_33 (by decide) (fun c14 => ?_) (fun c14 => ?_)
      ·
        have h := ite_t c14 h
        exact J47 v1 v2 g2 L3 H locs ls h hP hD hS (lv_sub hl [0, 1, 2] rfl)
      ·
        have h := ite_e c14 h
        refine lv_iload_n hx hb dX6_readNot_36 rfl (lv_at hl 2 rfl) ?_
        refine lv_bipush (v := 6) hx hb dX6_readNot_37 (by decide) ?_
        refine lv_icmp_lt (x := v2) (y := 6) (tgt := 47) hx hb dX6_readNot_39 (by decide) (fun c15 => ?_) (fun c15 => ?_)
        ·
          have h := ite_t c15 h
          exact J47 v1 v2 g2 L3 H locs ls h hP hD hS (lv_sub hl [0, 1, 2] rfl)
        ·
          have h := ite_e c15 h
          refine lv_aload_n hx hb dX6_readNot_42 rfl (lv_at hl 0 rfl) ?_
          refine lv_iconst (v := 2) hx hb dX6_readNot_43 (by decide) ?_
          obtain ⟨z_, g17, L18, hf19, h⟩ := cb_some h
          refine x_callVv (rest := []) li_X6_78 C (rX6_refuse_5 l G H.size a fu g2 L3 2 z_ (g17, L18) hf19) (kR rfl) hP hD hS 5 6 rfl (zat (by decide) xs_5) rfl hl.1 rfl (Nat.le_of_ble_eq_true rfl) dX6_readNot_44 (fun u_ H locs e_ hP hD hS => ?_)
          have hP : va_P G.1 vwCl (zw G (XS 2) 105 a g17 L18) H := hP
          have hD : va_D A (zw G (XS 2) 105 a g17 L18) := hD
          exact J47 v1 v2 g17 L18 H locs ls h hP hD hS (lv_sub hl [0, 1, 2] rfl)
    refine lv_icmp_ge (x := v2) (y := 6) (tgt := 27) hx hb dX6_readNot_5 (by decide) (fun c20 => ?_) (fun c20 => ?_)
    ·
      have h := ite_t c20 h
      exact J27 v1 v2 g L H locs ls h hP hD hS (lv_sub hl [0, 1, 2] rfl)
    ·
      have h := ite_e c20 h
      refine lv_aload_n hx hb dX6_readNot_8 rfl (lv_at hl 0 rfl) ?_
      refine y_ldcS (i := 11) C (by decide) rfl dX6_readNot_9 ?_
      obtain ⟨z_, g22, L23, hf24, h⟩ := cb_some h
      refine x_callVi (rest := []) li_X6_92 C (rX6_isWord_5_not l G H.size a fu g L z_ (g22, L23) hf24) (kR rfl) hP hD hS 5 6 rfl (zat (by decide) xs_5) rfl hl.1 rfl (Nat.le_of_ble_eq_true rfl) dX6_readNot_11 (fun x21 u_ H locs e_ hP hD hS => ?_)
      have e_ : x21 = z_ := e_
      subst e_
      have hP : va_P G.1 vwCl (zw G (XS 2) 105 a g22 L23) H := hP
      have hD : va_D A (zw G (XS 2) 105 a g22 L23) := hD
      refine lv_if_eq (x := x21) (tgt := 27) hx hb dX6_readNot_14 (by decide) (fun c25 => ?_) (fun c25 => ?_)
      ·
        have h := ite_t c25 h
        exact J27 v1 v2 g22 L23 H locs ls h hP hD hS (lv_sub hl [0, 1, 2] rfl)
      ·
        have h := ite_e c25 h
        refine lv_iinc (v := (v2 + 1)) (lv' := [(2, .int (v2 + 1)), (0, .ref (a 5)), (1, .int v1)]) hx hb dX6_readNot_17 hl (k := 2) rfl rfl (by decide) rfl (fun ls hl => ?_)
        refine lv_aload_n hx hb dX6_readNot_20 rfl (lv_at hl 1 rfl) ?_
        obtain ⟨z_, g27, L28, hf29, h⟩ := cb_some h
        refine x_callVv (rest := []) li_X6_53 C (rX6_advance_5 l G H.size a fu g22 L23 z_ (g27, L28) hf29) (kR rfl) hP hD hS 5 6 rfl (zat (by decide) xs_5) rfl hl.1 rfl (Nat.le_of_ble_eq_true rfl) dX6_readNot_21 (fun u_ H locs e_ hP hD hS => ?_)
        have hP : va_P G.1 vwCl (zw G (XS 2) 105 a g27 L28) H := hP
        have hD : va_D A (zw G (XS 2) 105 a g27 L28) := hD
        refine lv_goto (tgt := 2) hx hb dX6_readNot_24 (by decide) ?_
        exact ih2 ((v2 + 1), g27, L28) h H locs ls hP hD hS (lv_sub hl [1, 2, 0] rfl)
  exact lp2 p1 fu (0, g, L) h H locs ls hP hD hS (lv_sub hl [1, 2, 0] rfl)
set_option maxHeartbeats 4000000 in
set_option maxRecDepth 100000 in
theorem rX6_readAnd_5_L4 (l : Launch) (G : kG) (sz : Nat) (a : Nat → Nat) (fu : Nat) (g : Nat → Nat → Int32) (L : Nat → Nat → Int64) (p1 : Int32) (res : Unit) (s9 : zS) (h : fX6_readAnd_5 fu (fX6_readExpr_5 fu 3) p1 g L = some (res, s9)) : kM l yX6_readAnd cX6_readAnd 3 none { frames := 38, cells := 0, slots := 0, locals := 817 } G [.ref (a 5), .int p1] (zw G (XS 2) 105 a g L) sz (kQv G (S := Unit) (fun _ => True) (fun _ => zw G (XS 2) 105 a s9.1 s9.2)) := by
  refine kM.of (by decide) (Nat.le_of_ble_eq_true rfl) ?_
  intro p e s m below meth c A ls H C hr hlk hnm hP hD hS hl
  have C : kC G p s m c cX6_readAnd 3 RX6 A := C
  have hx := C.1
  have hb := C.2.1
  have hl : lv_has ls 3 [(0, .ref (a 5)), (1, .int p1)] := hl
  obtain ⟨locs, hlocs⟩ : ∃ q : List Loc, q = [] := ⟨_, rfl⟩
  rw [← hlocs] at hS
  rw [← hlocs]
  unfold fX6_readAnd_5 at h
  refine lv_aload_n hx hb dX6_readAnd_0 rfl (lv_at hl 0 rfl) ?_
  refine lv_iload_n hx hb dX6_readAnd_1 rfl (lv_at hl 1 rfl) ?_
  obtain ⟨z_, g2, L3, hf4, h⟩ := cb_some h
  refine x_callVv (rest := []) li_X6_214 C (rX6_readNot_5_L4 l G H.size a fu g L p1 z_ (g2, L3) hf4) (kR rfl) hP hD hS 5 6 rfl (zat (by decide) xs_5) rfl hl.1 rfl (Nat.le_of_ble_eq_true rfl) dX6_readAnd_2 (fun u_ H locs e_ hP hD hS => ?_)
  have hP : va_P G.1 vwCl (zw G (XS 2) 105 a g2 L3) H := hP
  have hD : va_D A (zw G (XS 2) 105 a g2 L3) := hD
  refine lv_iconst (v := 0) hx hb dX6_readAnd_5 (by decide) ?_
  refine lv_istore_n (lv' := [(2, .int 0), (0, .ref (a 5)), (1, .int p1)]) hx hb dX6_readAnd_6 rfl hl (by decide) rfl (fun ls hl => ?_)
  have lp7 : ∀ (v1 : Int32), ∀ (n : Nat) (v : Int32 × (Nat → Nat → Int32) × (Nat → Nat → Int64)), whileK (fun k v => fX6_readAnd_5_s7 fu (fX6_readExpr_5 fu 3) v1 k v.1 v.2.1 v.2.2) n v = some (res, s9) → ∀ (H : Heap) (locs : List Loc) (ls : Array Slot), va_P G.1 vwCl (zw G (XS 2) 105 a (v.2.1) (v.2.2)) H → va_D A (zw G (XS 2) 105 a (v.2.1) (v.2.2)) → va_S A s.heap H locs → lv_has ls 3 [(0, .ref (a 5)), (1, .int v1), (2, .int (v.1))] → W p l e { frames := 38, cells := 0, slots := 0, locals := 817 } s m [.ref (a 5), .int p1].toArray below meth c H locs 0 0 (MQ below ((kQv G (S := Unit) (fun _ => True) (fun _ => zw G (XS 2) 105 a s9.1 s9.2)) A) [.ref (a 5), .int p1].toArray s 0 0 A) (F0 m 7 ls []) := by
    intro v1
    refine while_ind (fun k7 ih7 v h => ?_)
    obtain ⟨v2, g, L⟩ := v
    intro H locs ls hP hD hS hl
    have h : fX6_readAnd_5_s7 fu (fX6_readExpr_5 fu 3) v1 k7 v2 g L = some (res, s9) := h
    have hP : va_P G.1 vwCl (zw G (XS 2) 105 a g L) H := hP
    have hD : va_D A (zw G (XS 2) 105 a g L) := hD
    have hl : lv_has ls 3 [(0, .ref (a 5)), (1, .int v1), (2, .int v2)] := hl
    show W p l e { frames := 38, cells := 0, slots := 0, locals := 817 } s m [.ref (a 5), .int p1].toArray below meth c H locs 0 0 (MQ below ((kQv G (S := Unit) (fun _ => True) (fun _ => zw G (XS 2) 105 a s9.1 s9.2)) A) [.ref (a 5), .int p1].toArray s 0 0 A) (F0 m 7 ls [])
    unfold fX6_readAnd_5_s7 at h
    refine lv_iload_n hx hb dX6_readAnd_7 rfl (lv_at hl 2 rfl) ?_
    refine lv_sipush (v := 700) hx hb dX6_readAnd_8 (by decide) ?_
    have J50 : ∀ (g : Nat → Nat → Int32) (L : Nat → Nat → Int64) (H : Heap) (locs : List Loc) (ls : Array Slot), fX6_readAnd_5_p50 fu (fX6_readExpr_5 fu 3) g L = some (res, s9) → va_P G.1 vwCl (zw G (XS 2) 105 a g L) H → va_D A (zw G (XS 2) 105 a g L) → va_S A s.heap H locs → lv_has ls 3 [] → W p l e { frames := 38, cells := 0, slots := 0, locals := 817 } s m [.ref (a 5), .int p1].toArray below meth c H locs 0 0 (MQ below ((kQv G (S := Unit) (fun _ => True) (fun _ => zw G (XS 2) 105 a s9.1 s9.2)) A) [.ref (a 5), .int p1].toArray s 0 0 A) (F0 m 50 ls []) := by
      intro g L H locs ls h hP hD hS hl
      unfold fX6_readAnd_5_p50 at h
      exact y_vret C hr hlk hP hD hS h (Nat.le_of_ble_eq_true rfl) (Nat.le_of_ble_eq_true rfl) dX6_readAnd_50
    refine lv_icmp_ge (x := v2) (y := 700) (tgt := 50) hx hb dX6_readAnd_11 (by decide) (fun c5 => ?_) (fun c5 => ?_)
    ·
      have h := ite_t c5 h
      exact J50 g L H locs ls h hP hD hS (lv_sub hl [] rfl)
    ·
      have h := ite_e c5 h
      refine lv_aload_n hx hb dX6_readAnd_14 rfl (lv_at hl 0 rfl) ?_
      refine y_ldcS (i := 10) C (by decide) rfl dX6_readAnd_15 ?_
      obtain ⟨z_, g7, L8, hf9, h⟩ := cb_some h
      refine x_callVi (rest := []) li_X6_92 C (rX6_isWord_5_and l G H.size a fu g L z_ (g7, L8) hf9) (kR rfl) hP hD hS 5 6 rfl (zat (by decide) xs_5) rfl hl.1 rfl (Nat.le_of_ble_eq_true rfl) dX6_readAnd_17 (fun x6 u_ H locs e_ hP hD hS => ?_)
      have e_ : x6 = z_ := e_
      subst e_
      have hP : va_P G.1 vwCl (zw G (XS 2) 105 a g7 L8) H := hP
      have hD : va_D A (zw G (XS 2) 105 a g7 L8) := hD
      refine lv_if_eq (x := x6) (tgt := 50) hx hb dX6_readAnd_20 (by decide) (fun c10 => ?_) (fun c10 => ?_)
      ·
        have h := ite_t c10 h
        exact J50 g7 L8 H locs ls h hP hD hS (lv_sub hl [] rfl)
      ·
        have h := ite_e c10 h
        refine lv_aload_n hx hb dX6_readAnd_23 rfl (lv_at hl 0 rfl) ?_
        obtain ⟨z_, g12, L13, hf14, h⟩ := cb_some h
        refine x_callVv (rest := []) li_X6_53 C (rX6_advance_5 l G H.size a fu g7 L8 z_ (g12, L13) hf14) (kR rfl) hP hD hS 5 6 rfl (zat (by decide) xs_5) rfl hl.1 rfl (Nat.le_of_ble_eq_true rfl) dX6_readAnd_24 (fun u_ H locs e_ hP hD hS => ?_)
        have hP : va_P G.1 vwCl (zw G (XS 2) 105 a g12 L13) H := hP
        have hD : va_D A (zw G (XS 2) 105 a g12 L13) := hD
        refine lv_aload_n hx hb dX6_readAnd_27 rfl (lv_at hl 0 rfl) ?_
        refine lv_iload_n hx hb dX6_readAnd_28 rfl (lv_at hl 1 rfl) ?_
        obtain ⟨z_, g16, L17, hf18, h⟩ := cb_some h
        refine x_callVv (rest := []) li_X6_214 C (rX6_readNot_5_L4 l G H.size a fu g12 L13 v1 z_ (g16, L17) hf18) (kR rfl) hP hD hS 5 6 rfl (zat (by decide) xs_5) rfl hl.1 rfl (Nat.le_of_ble_eq_true rfl) dX6_readAnd_29 (fun u_ H locs e_ hP hD hS => ?_)
        have hP : va_P G.1 vwCl (zw G (XS 2) 105 a g16 L17) H := hP
        have hD : va_D A (zw G (XS 2) 105 a g16 L17) := hD
        refine lv_aload_n hx hb dX6_readAnd_32 rfl (lv_at hl 0 rfl) ?_
        refine x_getr (Or.inl fl_X6_15) C hP (by decide) xs_5 rfl dX6_readAnd_33 ?_
        refine x_getr (Or.inr fl_X6_125) C hP (by decide) xs_2 rfl dX6_readAnd_36 ?_
        refine lv_bipush (v := -13) hx hb dX6_readAnd_39 (by decide) ?_
        obtain ⟨z_, g20, L21, hf22, h⟩ := cb_some h
        refine x_callNv (rest := []) li_X6_211 C (rX8_add_4 l G H.size 2 a fu g16 L17 (-13) z_ (g20, L21) hf22) (kR rfl) hP hD hS 4 8 rfl (zat (by decide) xs_4) rfl hl.1 rfl (Nat.le_of_ble_eq_true rfl) dX6_readAnd_41 (fun u_ H locs e_ hP hD hS => ?_)
        have hP : va_P G.1 vwCl (zw G (XS 2) 105 a g20 L21) H := hP
        have hD : va_D A (zw G (XS 2) 105 a g20 L21) := hD
        refine lv_iinc (v := (v2 + 1)) (lv' := [(2, .int (v2 + 1)), (0, .ref (a 5)), (1, .int v1)]) hx hb dX6_readAnd_44 hl (k := 2) rfl rfl (by decide) rfl (fun ls hl => ?_)
        refine lv_goto (tgt := 7) hx hb dX6_readAnd_47 (by decide) ?_
        exact ih7 ((v2 + 1), g20, L21) h H locs ls hP hD hS (lv_sub hl [1, 2, 0] rfl)
  exact lp7 p1 fu (0, g2, L3) h H locs ls hP hD hS (lv_sub hl [1, 2, 0] rfl)
set_option maxHeartbeats 4000000 in
set_option maxRecDepth 100000 in
theorem rX6_readExpr_5_L4 (l : Launch) (G : kG) (sz : Nat) (a : Nat → Nat) (fu : Nat) (g : Nat → Nat → Int32) (L : Nat → Nat → Int64) (p1 : Int32) (res : Unit) (s9 : zS) (h : fX6_readExpr_5 fu 4 p1 g L = some (res, s9)) : kM l yX6_readExpr cX6_readExpr 3 none { frames := 39, cells := 0, slots := 0, locals := 839 } G [.ref (a 5), .int p1] (zw G (XS 2) 105 a g L) sz (kQv G (S := Unit) (fun _ => True) (fun _ => zw G (XS 2) 105 a s9.1 s9.2)) := by
  refine kM.of (by decide) (Nat.le_of_ble_eq_true rfl) ?_
  intro p e s m below meth c A ls H C hr hlk hnm hP hD hS hl
  have C : kC G p s m c cX6_readExpr 3 RX6 A := C
  have hx := C.1
  have hb := C.2.1
  have hl : lv_has ls 3 [(0, .ref (a 5)), (1, .int p1)] := hl
  obtain ⟨locs, hlocs⟩ : ∃ q : List Loc, q = [] := ⟨_, rfl⟩
  rw [← hlocs] at hS
  rw [← hlocs]
  rw [fX6_readExpr_5_succ] at h
  unfold fX6_readExpr_5B at h
  refine lv_iload_n hx hb dX6_readExpr_0 rfl (lv_at hl 1 rfl) ?_
  refine lv_iconst (v := 5) hx hb dX6_readExpr_1 (by decide) ?_
  have J35 : ∀ (v1 : Int32) (g : Nat → Nat → Int32) (L : Nat → Nat → Int64) (H : Heap) (locs : List Loc) (ls : Array Slot), fX6_readExpr_5_p35 fu (fX6_readExpr_5 fu 3) v1 g L = some (res, s9) → va_P G.1 vwCl (zw G (XS 2) 105 a g L) H → va_D A (zw G (XS 2) 105 a g L) → va_S A s.heap H locs → lv_has ls 3 [(0, .ref (a 5)), (1, .int v1)] → W p l e { frames := 39, cells := 0, slots := 0, locals := 839 } s m [.ref (a 5), .int p1].toArray below meth c H locs 0 0 (MQ below ((kQv G (S := Unit) (fun _ => True) (fun _ => zw G (XS 2) 105 a s9.1 s9.2)) A) [.ref (a 5), .int p1].toArray s 0 0 A) (F0 m 35 ls []) := by
    intro v1 g L H locs ls h hP hD hS hl
    unfold fX6_readExpr_5_p35 at h
    refine lv_aload_n hx hb dX6_readExpr_35 rfl (lv_at hl 0 rfl) ?_
    refine lv_iload_n hx hb dX6_readExpr_36 rfl (lv_at hl 1 rfl) ?_
    obtain ⟨z_, g2, L3, hf4, h⟩ := cb_some h
    refine x_callVv (rest := []) li_X6_206 C (rX6_readAnd_5_L4 l G H.size a fu g L v1 z_ (g2, L3) hf4) (kR rfl) hP hD hS 5 6 rfl (zat (by decide) xs_5) rfl hl.1 rfl (Nat.le_of_ble_eq_true rfl) dX6_readExpr_37 (fun u_ H locs e_ hP hD hS => ?_)
    have hP : va_P G.1 vwCl (zw G (XS 2) 105 a g2 L3) H := hP
    have hD : va_D A (zw G (XS 2) 105 a g2 L3) := hD
    refine lv_iconst (v := 0) hx hb dX6_readExpr_40 (by decide) ?_
    refine lv_istore_n (lv' := [(2, .int 0), (0, .ref (a 5)), (1, .int v1)]) hx hb dX6_readExpr_41 rfl hl (by decide) rfl (fun ls hl => ?_)
    have lp42 : ∀ (v1 : Int32), ∀ (n : Nat) (v : Int32 × (Nat → Nat → Int32) × (Nat → Nat → Int64)), whileK (fun k v => fX6_readExpr_5_s42 fu (fX6_readExpr_5 fu 3) v1 k v.1 v.2.1 v.2.2) n v = some (res, s9) → ∀ (H : Heap) (locs : List Loc) (ls : Array Slot), va_P G.1 vwCl (zw G (XS 2) 105 a (v.2.1) (v.2.2)) H → va_D A (zw G (XS 2) 105 a (v.2.1) (v.2.2)) → va_S A s.heap H locs → lv_has ls 3 [(0, .ref (a 5)), (1, .int v1), (2, .int (v.1))] → W p l e { frames := 39, cells := 0, slots := 0, locals := 839 } s m [.ref (a 5), .int p1].toArray below meth c H locs 0 0 (MQ below ((kQv G (S := Unit) (fun _ => True) (fun _ => zw G (XS 2) 105 a s9.1 s9.2)) A) [.ref (a 5), .int p1].toArray s 0 0 A) (F0 m 42 ls []) := by
      intro v1
      refine while_ind (fun k42 ih42 v h => ?_)
      obtain ⟨v2, g, L⟩ := v
      intro H locs ls hP hD hS hl
      have h : fX6_readExpr_5_s42 fu (fX6_readExpr_5 fu 3) v1 k42 v2 g L = some (res, s9) := h
      have hP : va_P G.1 vwCl (zw G (XS 2) 105 a g L) H := hP
      have hD : va_D A (zw G (XS 2) 105 a g L) := hD
      have hl : lv_has ls 3 [(0, .ref (a 5)), (1, .int v1), (2, .int v2)] := hl
      show W p l e { frames := 39, cells := 0, slots := 0, locals := 839 } s m [.ref (a 5), .int p1].toArray below meth c H locs 0 0 (MQ below ((kQv G (S := Unit) (fun _ => True) (fun _ => zw G (XS 2) 105 a s9.1 s9.2)) A) [.ref (a 5), .int p1].toArray s 0 0 A) (F0 m 42 ls [])
      unfold fX6_readExpr_5_s42 at h
      refine lv_iload_n hx hb dX6_readExpr_42 rfl (lv_at hl 2 rfl) ?_
      refine lv_sipush (v := 700) hx hb dX6_readExpr_43 (by decide) ?_
      have J85 : ∀ (g : Nat → Nat → Int32) (L : Nat → Nat → Int64) (H : Heap) (locs : List Loc) (ls : Array Slot), fX6_readExpr_5_p85 fu (fX6_readExpr_5 fu 3) g L = some (res, s9) → va_P G.1 vwCl (zw G (XS 2) 105 a g L) H → va_D A (zw G (XS 2) 105 a g L) → va_S A s.heap H locs → lv_has ls 3 [] → W p l e { frames := 39, cells := 0, slots := 0, locals := 839 } s m [.ref (a 5), .int p1].toArray below meth c H locs 0 0 (MQ below ((kQv G (S := Unit) (fun _ => True) (fun _ => zw G (XS 2) 105 a s9.1 s9.2)) A) [.ref (a 5), .int p1].toArray s 0 0 A) (F0 m 85 ls []) := by
        intro g L H locs ls h hP hD hS hl
        unfold fX6_readExpr_5_p85 at h
        exact y_vret C hr hlk hP hD hS h (Nat.le_of_ble_eq_true rfl) (Nat.le_of_ble_eq_true rfl) dX6_readExpr_85
      refine lv_icmp_ge (x := v2) (y := 700) (tgt := 85) hx hb dX6_readExpr_46 (by decide) (fun c5 => ?_) (fun c5 => ?_)
      ·
        have h := ite_t c5 h
        exact J85 g L H locs ls h hP hD hS (lv_sub hl [] rfl)
      ·
        have h := ite_e c5 h
        refine lv_aload_n hx hb dX6_readExpr_49 rfl (lv_at hl 0 rfl) ?_
        refine y_ldcS (i := 9) C (by decide) rfl dX6_readExpr_50 ?_
        obtain ⟨z_, g7, L8, hf9, h⟩ := cb_some h
        refine x_callVi (rest := []) li_X6_92 C (rX6_isWord_5_or l G H.size a fu g L z_ (g7, L8) hf9) (kR rfl) hP hD hS 5 6 rfl (zat (by decide) xs_5) rfl hl.1 rfl (Nat.le_of_ble_eq_true rfl) dX6_readExpr_52 (fun x6 u_ H locs e_ hP hD hS => ?_)
        have e_ : x6 = z_ := e_
        subst e_
        have hP : va_P G.1 vwCl (zw G (XS 2) 105 a g7 L8) H := hP
        have hD : va_D A (zw G (XS 2) 105 a g7 L8) := hD
        refine lv_if_eq (x := x6) (tgt := 85) hx hb dX6_readExpr_55 (by decide) (fun c10 => ?_) (fun c10 => ?_)
        ·
          have h := ite_t c10 h
          exact J85 g7 L8 H locs ls h hP hD hS (lv_sub hl [] rfl)
        ·
          have h := ite_e c10 h
          refine lv_aload_n hx hb dX6_readExpr_58 rfl (lv_at hl 0 rfl) ?_
          obtain ⟨z_, g12, L13, hf14, h⟩ := cb_some h
          refine x_callVv (rest := []) li_X6_53 C (rX6_advance_5 l G H.size a fu g7 L8 z_ (g12, L13) hf14) (kR rfl) hP hD hS 5 6 rfl (zat (by decide) xs_5) rfl hl.1 rfl (Nat.le_of_ble_eq_true rfl) dX6_readExpr_59 (fun u_ H locs e_ hP hD hS => ?_)
          have hP : va_P G.1 vwCl (zw G (XS 2) 105 a g12 L13) H := hP
          have hD : va_D A (zw G (XS 2) 105 a g12 L13) := hD
          refine lv_aload_n hx hb dX6_readExpr_62 rfl (lv_at hl 0 rfl) ?_
          refine lv_iload_n hx hb dX6_readExpr_63 rfl (lv_at hl 1 rfl) ?_
          obtain ⟨z_, g16, L17, hf18, h⟩ := cb_some h
          refine x_callVv (rest := []) li_X6_206 C (rX6_readAnd_5_L4 l G H.size a fu g12 L13 v1 z_ (g16, L17) hf18) (kR rfl) hP hD hS 5 6 rfl (zat (by decide) xs_5) rfl hl.1 rfl (Nat.le_of_ble_eq_true rfl) dX6_readExpr_64 (fun u_ H locs e_ hP hD hS => ?_)
          have hP : va_P G.1 vwCl (zw G (XS 2) 105 a g16 L17) H := hP
          have hD : va_D A (zw G (XS 2) 105 a g16 L17) := hD
          refine lv_aload_n hx hb dX6_readExpr_67 rfl (lv_at hl 0 rfl) ?_
          refine x_getr (Or.inl fl_X6_15) C hP (by decide) xs_5 rfl dX6_readExpr_68 ?_
          refine x_getr (Or.inr fl_X6_125) C hP (by decide) xs_2 rfl dX6_readExpr_71 ?_
          refine lv_bipush (v := -14) hx hb dX6_readExpr_74 (by decide) ?_
          obtain ⟨z_, g20, L21, hf22, h⟩ := cb_some h
          refine x_callNv (rest := []) li_X6_211 C (rX8_add_4 l G H.size 2 a fu g16 L17 (-14) z_ (g20, L21) hf22) (kR rfl) hP hD hS 4 8 rfl (zat (by decide) xs_4) rfl hl.1 rfl (Nat.le_of_ble_eq_true rfl) dX6_readExpr_76 (fun u_ H locs e_ hP hD hS => ?_)
          have hP : va_P G.1 vwCl (zw G (XS 2) 105 a g20 L21) H := hP
          have hD : va_D A (zw G (XS 2) 105 a g20 L21) := hD
          refine lv_iinc (v := (v2 + 1)) (lv' := [(2, .int (v2 + 1)), (0, .ref (a 5)), (1, .int v1)]) hx hb dX6_readExpr_79 hl (k := 2) rfl rfl (by decide) rfl (fun ls hl => ?_)
          refine lv_goto (tgt := 42) hx hb dX6_readExpr_82 (by decide) ?_
          exact ih42 ((v2 + 1), g20, L21) h H locs ls hP hD hS (lv_sub hl [1, 2, 0] rfl)
    exact lp42 v1 fu (0, g2, L3) h H locs ls hP hD hS (lv_sub hl [1, 2, 0] rfl)
  refine lv_icmp_le (x := p1) (y := 5) (tgt := 35) hx hb dX6_readExpr_2 (by decide) (fun c23 => ?_) (fun c23 => ?_)
  ·
    have h := ite_t c23 h
    exact J35 p1 g L H locs ls h hP hD hS (lv_sub hl [0, 1] rfl)
  ·
    have h := ite_e c23 h
    refine lv_aload_n hx hb dX6_readExpr_5 rfl (lv_at hl 0 rfl) ?_
    refine x_getv (v := .int (g 5 4)) (Or.inl fl_X6_50) C hP (by decide) xs_5 rfl dX6_readExpr_6 ?_
    refine lv_iconst (v := 1) hx hb dX6_readExpr_9 (by decide) ?_
    have J30 : ∀ (v1 : Int32) (g : Nat → Nat → Int32) (L : Nat → Nat → Int64) (H : Heap) (locs : List Loc) (ls : Array Slot), fX6_readExpr_5_p30 fu (fX6_readExpr_5 fu 3) v1 g L = some (res, s9) → va_P G.1 vwCl (zw G (XS 2) 105 a g L) H → va_D A (zw G (XS 2) 105 a g L) → va_S A s.heap H locs → lv_has ls 3 [(0, .ref (a 5)), (1, .int v1)] → W p l e { frames := 39, cells := 0, slots := 0, locals := 839 } s m [.ref (a 5), .int p1].toArray below meth c H locs 0 0 (MQ below ((kQv G (S := Unit) (fun _ => True) (fun _ => zw G (XS 2) 105 a s9.1 s9.2)) A) [.ref (a 5), .int p1].toArray s 0 0 A) (F0 m 30 ls []) := by
      intro v1 g L H locs ls h hP hD hS hl
      unfold fX6_readExpr_5_p30 at h
      refine lv_aload_n hx hb dX6_readExpr_30 rfl (lv_at hl 0 rfl) ?_
      refine lv_iconst (v := 2) hx hb dX6_readExpr_31 (by decide) ?_
      obtain ⟨z_, g25, L26, hf27, h⟩ := cb_some h
      refine x_callVv (rest := []) li_X6_78 C (rX6_refuse_5 l G H.size a fu g L 2 z_ (g25, L26) hf27) (kR rfl) hP hD hS 5 6 rfl (zat (by decide) xs_5) rfl hl.1 rfl (Nat.le_of_ble_eq_true rfl) dX6_readExpr_32 (fun u_ H locs e_ hP hD hS => ?_)
      have hP : va_P G.1 vwCl (zw G (XS 2) 105 a g25 L26) H := hP
      have hD : va_D A (zw G (XS 2) 105 a g25 L26) := hD
      exact J35 v1 g25 L26 H locs ls h hP hD hS (lv_sub hl [0, 1] rfl)
    refine lv_icmp_eq (x := (g 5 4)) (y := 1) (tgt := 30) hx hb dX6_readExpr_10 (by decide) (fun c28 => ?_) (fun c28 => ?_)
    ·
      have h := ite_t c28 h
      exact J30 p1 g L H locs ls h hP hD hS (lv_sub hl [0, 1] rfl)
    ·
      have h := ite_e c28 h
      refine lv_aload_n hx hb dX6_readExpr_13 rfl (lv_at hl 0 rfl) ?_
      refine x_getv (v := .int (g 5 4)) (Or.inl fl_X6_50) C hP (by decide) xs_5 rfl dX6_readExpr_14 ?_
      refine lv_iconst (v := 2) hx hb dX6_readExpr_17 (by decide) ?_
      refine lv_icmp_eq (x := (g 5 4)) (y := 2) (tgt := 30) hx hb dX6_readExpr_18 (by decide) (fun c29 => ?_) (fun c29 => ?_)
      ·
        have h := ite_t c29 h
        exact J30 p1 g L H locs ls h hP hD hS (lv_sub hl [0, 1] rfl)
      ·
        have h := ite_e c29 h
        refine lv_aload_n hx hb dX6_readExpr_21 rfl (lv_at hl 0 rfl) ?_
        refine lv_bipush (v := 40) hx hb dX6_readExpr_22 (by decide) ?_
        obtain ⟨z_, g31, L32, hf33, h⟩ := cb_some h
        refine x_callVi (rest := []) li_X6_86 C (rX6_isSignNow_5 l G H.size a fu g L 40 z_ (g31, L32) hf33) (kR rfl) hP hD hS 5 6 rfl (zat (by decide) xs_5) rfl hl.1 rfl (Nat.le_of_ble_eq_true rfl) dX6_readExpr_24 (fun x30 u_ H locs e_ hP hD hS => ?_)
        have e_ : x30 = z_ := e_
        subst e_
        have hP : va_P G.1 vwCl (zw G (XS 2) 105 a g31 L32) H := hP
        have hD : va_D A (zw G (XS 2) 105 a g31 L32) := hD
        refine lv_if_eq (x := x30) (tgt := 35) hx hb dX6_readExpr_27 (by decide) (fun c34 => ?_) (fun c34 => ?_)
        ·
          have h := ite_t c34 h
          exact J35 p1 g31 L32 H locs ls h hP hD hS (lv_sub hl [0, 1] rfl)
        ·
          have h := ite_e c34 h
          exact J30 p1 g31 L32 H locs ls h hP hD hS (lv_sub hl [0, 1] rfl)
set_option maxHeartbeats 4000000 in
set_option maxRecDepth 100000 in
theorem rX6_readPart_5_L5 (l : Launch) (G : kG) (sz : Nat) (a : Nat → Nat) (fu : Nat) (g : Nat → Nat → Int32) (L : Nat → Nat → Int64) (p1 : Int32) (res : Unit) (s9 : zS) (h : fX6_readPart_5 fu (fX6_readExpr_5 fu 4) p1 g L = some (res, s9)) : kM l yX6_readPart cX6_readPart 3 none { frames := 40, cells := 0, slots := 0, locals := 861 } G [.ref (a 5), .int p1] (zw G (XS 2) 105 a g L) sz (kQv G (S := Unit) (fun _ => True) (fun _ => zw G (XS 2) 105 a s9.1 s9.2)) := by
  refine kM.of (by decide) (Nat.le_of_ble_eq_true rfl) ?_
  intro p e s m below meth c A ls H C hr hlk hnm hP hD hS hl
  have C : kC G p s m c cX6_readPart 3 RX6 A := C
  have hx := C.1
  have hb := C.2.1
  have hl : lv_has ls 3 [(0, .ref (a 5)), (1, .int p1)] := hl
  obtain ⟨locs, hlocs⟩ : ∃ q : List Loc, q = [] := ⟨_, rfl⟩
  rw [← hlocs] at hS
  rw [← hlocs]
  unfold fX6_readPart_5 at h
  refine lv_aload_n hx hb dX6_readPart_0 rfl (lv_at hl 0 rfl) ?_
  refine x_getv (v := .int (g 5 4)) (Or.inl fl_X6_50) C hP (by decide) xs_5 rfl dX6_readPart_1 ?_
  refine lv_iconst (v := 1) hx hb dX6_readPart_4 (by decide) ?_
  have J111 : ∀ (g : Nat → Nat → Int32) (L : Nat → Nat → Int64) (H : Heap) (locs : List Loc) (ls : Array Slot), fX6_readPart_5_p111 fu (fX6_readExpr_5 fu 4) g L = some (res, s9) → va_P G.1 vwCl (zw G (XS 2) 105 a g L) H → va_D A (zw G (XS 2) 105 a g L) → va_S A s.heap H locs → lv_has ls 3 [] → W p l e { frames := 40, cells := 0, slots := 0, locals := 861 } s m [.ref (a 5), .int p1].toArray below meth c H locs 0 0 (MQ below ((kQv G (S := Unit) (fun _ => True) (fun _ => zw G (XS 2) 105 a s9.1 s9.2)) A) [.ref (a 5), .int p1].toArray s 0 0 A) (F0 m 111 ls []) := by
    intro g L H locs ls h hP hD hS hl
    unfold fX6_readPart_5_p111 at h
    exact y_vret C hr hlk hP hD hS h (Nat.le_of_ble_eq_true rfl) (Nat.le_of_ble_eq_true rfl) dX6_readPart_111
  refine lv_icmp_ne (x := (g 5 4)) (y := 1) (tgt := 29) hx hb dX6_readPart_5 (by decide) (fun c1 => ?_) (fun c1 => ?_)
  ·
    have h := ite_e c1 h
    refine lv_aload_n hx hb dX6_readPart_29 rfl (lv_at hl 0 rfl) ?_
    refine x_getv (v := .int (g 5 4)) (Or.inl fl_X6_50) C hP (by decide) xs_5 rfl dX6_readPart_30 ?_
    refine lv_iconst (v := 2) hx hb dX6_readPart_33 (by decide) ?_
    refine lv_icmp_ne (x := (g 5 4)) (y := 2) (tgt := 72) hx hb dX6_readPart_34 (by decide) (fun c2 => ?_) (fun c2 => ?_)
    ·
      have h := ite_e c2 h
      refine lv_aload_n hx hb dX6_readPart_72 rfl (lv_at hl 0 rfl) ?_
      refine lv_bipush (v := 40) hx hb dX6_readPart_73 (by decide) ?_
      obtain ⟨z_, g4, L5, hf6, h⟩ := cb_some h
      refine x_callVi (rest := []) li_X6_86 C (rX6_isSignNow_5 l G H.size a fu g L 40 z_ (g4, L5) hf6) (kR rfl) hP hD hS 5 6 rfl (zat (by decide) xs_5) rfl hl.1 rfl (Nat.le_of_ble_eq_true rfl) dX6_readPart_75 (fun x3 u_ H locs e_ hP hD hS => ?_)
      have e_ : x3 = z_ := e_
      subst e_
      have hP : va_P G.1 vwCl (zw G (XS 2) 105 a g4 L5) H := hP
      have hD : va_D A (zw G (XS 2) 105 a g4 L5) := hD
      have J106 : ∀ (g : Nat → Nat → Int32) (L : Nat → Nat → Int64) (H : Heap) (locs : List Loc) (ls : Array Slot), fX6_readPart_5_p106 fu (fX6_readExpr_5 fu 4) g L = some (res, s9) → va_P G.1 vwCl (zw G (XS 2) 105 a g L) H → va_D A (zw G (XS 2) 105 a g L) → va_S A s.heap H locs → lv_has ls 3 [(0, .ref (a 5))] → W p l e { frames := 40, cells := 0, slots := 0, locals := 861 } s m [.ref (a 5), .int p1].toArray below meth c H locs 0 0 (MQ below ((kQv G (S := Unit) (fun _ => True) (fun _ => zw G (XS 2) 105 a s9.1 s9.2)) A) [.ref (a 5), .int p1].toArray s 0 0 A) (F0 m 106 ls []) := by
        intro g L H locs ls h hP hD hS hl
        unfold fX6_readPart_5_p106 at h
        refine lv_aload_n hx hb dX6_readPart_106 rfl (lv_at hl 0 rfl) ?_
        refine lv_iconst (v := 1) hx hb dX6_readPart_107 (by decide) ?_
        obtain ⟨z_, g8, L9, hf10, h⟩ := cb_some h
        refine x_callVv (rest := []) li_X6_78 C (rX6_refuse_5 l G H.size a fu g L 1 z_ (g8, L9) hf10) (kR rfl) hP hD hS 5 6 rfl (zat (by decide) xs_5) rfl hl.1 rfl (Nat.le_of_ble_eq_true rfl) dX6_readPart_108 (fun u_ H locs e_ hP hD hS => ?_)
        have hP : va_P G.1 vwCl (zw G (XS 2) 105 a g8 L9) H := hP
        have hD : va_D A (zw G (XS 2) 105 a g8 L9) := hD
        exact J111 g8 L9 H locs ls h hP hD hS (lv_sub hl [] rfl)
      refine lv_if_eq (x := x3) (tgt := 106) hx hb dX6_readPart_78 (by decide) (fun c11 => ?_) (fun c11 => ?_)
      ·
        have h := ite_t c11 h
        exact J106 g4 L5 H locs ls h hP hD hS (lv_sub hl [0] rfl)
      ·
        have h := ite_e c11 h
        refine lv_iload_n hx hb dX6_readPart_81 rfl (lv_at hl 1 rfl) ?_
        refine lv_iconst (v := 5) hx hb dX6_readPart_82 (by decide) ?_
        refine lv_icmp_gt (x := p1) (y := 5) (tgt := 106) hx hb dX6_readPart_83 (by decide) (fun c12 => ?_) (fun c12 => ?_)
        ·
          have h := ite_t c12 h
          exact J106 g4 L5 H locs ls h hP hD hS (lv_sub hl [0] rfl)
        ·
          have h := ite_e c12 h
          refine lv_aload_n hx hb dX6_readPart_86 rfl (lv_at hl 0 rfl) ?_
          obtain ⟨z_, g14, L15, hf16, h⟩ := cb_some h
          refine x_callVv (rest := []) li_X6_53 C (rX6_advance_5 l G H.size a fu g4 L5 z_ (g14, L15) hf16) (kR rfl) hP hD hS 5 6 rfl (zat (by decide) xs_5) rfl hl.1 rfl (Nat.le_of_ble_eq_true rfl) dX6_readPart_87 (fun u_ H locs e_ hP hD hS => ?_)
          have hP : va_P G.1 vwCl (zw G (XS 2) 105 a g14 L15) H := hP
          have hD : va_D A (zw G (XS 2) 105 a g14 L15) := hD
          refine lv_aload_n hx hb dX6_readPart_90 rfl (lv_at hl 0 rfl) ?_
          refine lv_iload_n hx hb dX6_readPart_91 rfl (lv_at hl 1 rfl) ?_
          refine lv_iconst (v := 1) hx hb dX6_readPart_92 (by decide) ?_
          refine lv_iadd hx hb dX6_readPart_93 ?_
          obtain ⟨z_, g18, L19, hf20, h⟩ := cb_some h
          refine x_callVv (rest := []) li_X6_134 C (rX6_readExpr_5_L4 l G H.size a fu g14 L15 (p1 + 1) z_ (g18, L19) hf20) (kR rfl) hP hD hS 5 6 rfl (zat (by decide) xs_5) rfl hl.1 rfl (Nat.le_of_ble_eq_true rfl) dX6_readPart_94 (fun u_ H locs e_ hP hD hS => ?_)
          have hP : va_P G.1 vwCl (zw G (XS 2) 105 a g18 L19) H := hP
          have hD : va_D A (zw G (XS 2) 105 a g18 L19) := hD
          refine lv_aload_n hx hb dX6_readPart_97 rfl (lv_at hl 0 rfl) ?_
          refine lv_bipush (v := 41) hx hb dX6_readPart_98 (by decide) ?_
          obtain ⟨z_, g22, L23, hf24, h⟩ := cb_some h
          refine x_callVv (rest := []) li_X6_114 C (rX6_readSign_5 l G H.size a fu g18 L19 41 z_ (g22, L23) hf24) (kR rfl) hP hD hS 5 6 rfl (zat (by decide) xs_5) rfl hl.1 rfl (Nat.le_of_ble_eq_true rfl) dX6_readPart_100 (fun u_ H locs e_ hP hD hS => ?_)
          have hP : va_P G.1 vwCl (zw G (XS 2) 105 a g22 L23) H := hP
          have hD : va_D A (zw G (XS 2) 105 a g22 L23) := hD
          refine lv_goto (tgt := 111) hx hb dX6_readPart_103 (by decide) ?_
          exact J111 g22 L23 H locs ls h hP hD hS (lv_sub hl [] rfl)
    ·
      have h := ite_t c2 h
      refine lv_aload_n hx hb dX6_readPart_37 rfl (lv_at hl 0 rfl) ?_
      obtain ⟨z_, g26, L27, hf28, h⟩ := cb_some h
      refine x_callVi (rest := []) li_X6_233 C (rX6_valueNow_5 l G H.size a fu g L z_ (g26, L27) hf28) (kR rfl) hP hD hS 5 6 rfl (zat (by decide) xs_5) rfl hl.1 rfl (Nat.le_of_ble_eq_true rfl) dX6_readPart_38 (fun x25 u_ H locs e_ hP hD hS => ?_)
      have e_ : x25 = z_ := e_
      subst e_
      have hP : va_P G.1 vwCl (zw G (XS 2) 105 a g26 L27) H := hP
      have hD : va_D A (zw G (XS 2) 105 a g26 L27) := hD
      refine lv_istore_n (lv' := [(2, .int x25), (0, .ref (a 5)), (1, .int p1)]) hx hb dX6_readPart_41 rfl hl (by decide) rfl (fun ls hl => ?_)
      refine lv_iload_n hx hb dX6_readPart_42 rfl (lv_at hl 0 rfl) ?_
      refine lv_iconst (v := -1) hx hb dX6_readPart_43 (by decide) ?_
      have J52 : ∀ (v2 : Int32) (g : Nat → Nat → Int32) (L : Nat → Nat → Int64) (H : Heap) (locs : List Loc) (ls : Array Slot), fX6_readPart_5_p52 fu (fX6_readExpr_5 fu 4) v2 g L = some (res, s9) → va_P G.1 vwCl (zw G (XS 2) 105 a g L) H → va_D A (zw G (XS 2) 105 a g L) → va_S A s.heap H locs → lv_has ls 3 [(0, .ref (a 5)), (2, .int v2)] → W p l e { frames := 40, cells := 0, slots := 0, locals := 861 } s m [.ref (a 5), .int p1].toArray below meth c H locs 0 0 (MQ below ((kQv G (S := Unit) (fun _ => True) (fun _ => zw G (XS 2) 105 a s9.1 s9.2)) A) [.ref (a 5), .int p1].toArray s 0 0 A) (F0 m 52 ls []) := by
        intro v2 g L H locs ls h hP hD hS hl
        unfold fX6_readPart_5_p52 at h
        refine lv_aload_n hx hb dX6_readPart_52 rfl (lv_at hl 0 rfl) ?_
        refine x_getr (Or.inl fl_X6_15) C hP (by decide) xs_5 rfl dX6_readPart_53 ?_
        refine x_getr (Or.inr fl_X6_125) C hP (by decide) xs_2 rfl dX6_readPart_56 ?_
        refine lv_iconst (v := -1) hx hb dX6_readPart_59 (by decide) ?_
        refine lv_iload_n hx hb dX6_readPart_60 rfl (lv_at hl 1 rfl) ?_
        refine lv_isub hx hb dX6_readPart_61 ?_
        obtain ⟨z_, g30, L31, hf32, h⟩ := cb_some h
        refine x_callNv (rest := []) li_X6_211 C (rX8_add_4 l G H.size 2 a fu g L ((-1) - v2) z_ (g30, L31) hf32) (kR rfl) hP hD hS 4 8 rfl (zat (by decide) xs_4) rfl hl.1 rfl (Nat.le_of_ble_eq_true rfl) dX6_readPart_62 (fun u_ H locs e_ hP hD hS => ?_)
        have hP : va_P G.1 vwCl (zw G (XS 2) 105 a g30 L31) H := hP
        have hD : va_D A (zw G (XS 2) 105 a g30 L31) := hD
        refine lv_aload_n hx hb dX6_readPart_65 rfl (lv_at hl 0 rfl) ?_
        obtain ⟨z_, g34, L35, hf36, h⟩ := cb_some h
        refine x_callVv (rest := []) li_X6_53 C (rX6_advance_5 l G H.size a fu g30 L31 z_ (g34, L35) hf36) (kR rfl) hP hD hS 5 6 rfl (zat (by decide) xs_5) rfl hl.1 rfl (Nat.le_of_ble_eq_true rfl) dX6_readPart_66 (fun u_ H locs e_ hP hD hS => ?_)
        have hP : va_P G.1 vwCl (zw G (XS 2) 105 a g34 L35) H := hP
        have hD : va_D A (zw G (XS 2) 105 a g34 L35) := hD
        refine lv_goto (tgt := 111) hx hb dX6_readPart_69 (by decide) ?_
        exact J111 g34 L35 H locs ls h hP hD hS (lv_sub hl [] rfl)
      refine lv_icmp_ne (x := x25) (y := (-1)) (tgt := 52) hx hb dX6_readPart_44 (by decide) (fun c37 => ?_) (fun c37 => ?_)
      ·
        have h := ite_e c37 h
        exact J52 x25 g26 L27 H locs ls h hP hD hS (lv_sub hl [1, 0] rfl)
      ·
        have h := ite_t c37 h
        refine lv_aload_n hx hb dX6_readPart_47 rfl (lv_at hl 1 rfl) ?_
        refine lv_iconst (v := 3) hx hb dX6_readPart_48 (by decide) ?_
        obtain ⟨z_, g39, L40, hf41, h⟩ := cb_some h
        refine x_callVv (rest := []) li_X6_78 C (rX6_refuse_5 l G H.size a fu g26 L27 3 z_ (g39, L40) hf41) (kR rfl) hP hD hS 5 6 rfl (zat (by decide) xs_5) rfl hl.1 rfl (Nat.le_of_ble_eq_true rfl) dX6_readPart_49 (fun u_ H locs e_ hP hD hS => ?_)
        have hP : va_P G.1 vwCl (zw G (XS 2) 105 a g39 L40) H := hP
        have hD : va_D A (zw G (XS 2) 105 a g39 L40) := hD
        exact J52 x25 g39 L40 H locs ls h hP hD hS (lv_sub hl [1, 0] rfl)
  ·
    have h := ite_t c1 h
    refine lv_aload_n hx hb dX6_readPart_8 rfl (lv_at hl 0 rfl) ?_
    refine x_getr (Or.inl fl_X6_15) C hP (by decide) xs_5 rfl dX6_readPart_9 ?_
    refine x_getr (Or.inr fl_X6_125) C hP (by decide) xs_2 rfl dX6_readPart_12 ?_
    refine lv_aload_n hx hb dX6_readPart_15 rfl (lv_at hl 0 rfl) ?_
    refine lv_iconst (v := 0) hx hb dX6_readPart_16 (by decide) ?_
    refine lv_sipush (v := 9999) hx hb dX6_readPart_17 (by decide) ?_
    obtain ⟨z_, g43, L44, hf45, h⟩ := cb_some h
    refine x_callVi (rest := [.ref (a 4)]) li_X6_118 C (rX6_readNumber_5 l G H.size a fu g L 0 9999 z_ (g43, L44) hf45) (kR rfl) hP hD hS 5 6 rfl (zat (by decide) xs_5) rfl hl.1 rfl (Nat.le_of_ble_eq_true rfl) dX6_readPart_20 (fun x42 u_ H locs e_ hP hD hS => ?_)
    have e_ : x42 = z_ := e_
    subst e_
    have hP : va_P G.1 vwCl (zw G (XS 2) 105 a g43 L44) H := hP
    have hD : va_D A (zw G (XS 2) 105 a g43 L44) := hD
    obtain ⟨z_, g47, L48, hf49, h⟩ := cb_some h
    refine x_callNv (rest := []) li_X6_211 C (rX8_add_4 l G H.size 2 a fu g43 L44 x42 z_ (g47, L48) hf49) (kR rfl) hP hD hS 4 8 rfl (zat (by decide) xs_4) rfl hl.1 rfl (Nat.le_of_ble_eq_true rfl) dX6_readPart_23 (fun u_ H locs e_ hP hD hS => ?_)
    have hP : va_P G.1 vwCl (zw G (XS 2) 105 a g47 L48) H := hP
    have hD : va_D A (zw G (XS 2) 105 a g47 L48) := hD
    refine lv_goto (tgt := 111) hx hb dX6_readPart_26 (by decide) ?_
    exact J111 g47 L48 H locs ls h hP hD hS (lv_sub hl [] rfl)
set_option maxHeartbeats 4000000 in
set_option maxRecDepth 100000 in
theorem rX6_readProduct_5_L5 (l : Launch) (G : kG) (sz : Nat) (a : Nat → Nat) (fu : Nat) (g : Nat → Nat → Int32) (L : Nat → Nat → Int64) (p1 : Int32) (res : Unit) (s9 : zS) (h : fX6_readProduct_5 fu (fX6_readExpr_5 fu 4) p1 g L = some (res, s9)) : kM l yX6_readProduct cX6_readProduct 4 none { frames := 41, cells := 0, slots := 0, locals := 883 } G [.ref (a 5), .int p1] (zw G (XS 2) 105 a g L) sz (kQv G (S := Unit) (fun _ => True) (fun _ => zw G (XS 2) 105 a s9.1 s9.2)) := by
  refine kM.of (by decide) (Nat.le_of_ble_eq_true rfl) ?_
  intro p e s m below meth c A ls H C hr hlk hnm hP hD hS hl
  have C : kC G p s m c cX6_readProduct 4 RX6 A := C
  have hx := C.1
  have hb := C.2.1
  have hl : lv_has ls 4 [(0, .ref (a 5)), (1, .int p1)] := hl
  obtain ⟨locs, hlocs⟩ : ∃ q : List Loc, q = [] := ⟨_, rfl⟩
  rw [← hlocs] at hS
  rw [← hlocs]
  unfold fX6_readProduct_5 at h
  refine lv_aload_n hx hb dX6_readProduct_0 rfl (lv_at hl 0 rfl) ?_
  refine lv_iload_n hx hb dX6_readProduct_1 rfl (lv_at hl 1 rfl) ?_
  obtain ⟨z_, g2, L3, hf4, h⟩ := cb_some h
  refine x_callVv (rest := []) li_X6_230 C (rX6_readPart_5_L5 l G H.size a fu g L p1 z_ (g2, L3) hf4) (kR rfl) hP hD hS 5 6 rfl (zat (by decide) xs_5) rfl hl.1 rfl (Nat.le_of_ble_eq_true rfl) dX6_readProduct_2 (fun u_ H locs e_ hP hD hS => ?_)
  have hP : va_P G.1 vwCl (zw G (XS 2) 105 a g2 L3) H := hP
  have hD : va_D A (zw G (XS 2) 105 a g2 L3) := hD
  refine lv_iconst (v := 0) hx hb dX6_readProduct_5 (by decide) ?_
  refine lv_istore_n (lv' := [(2, .int 0), (0, .ref (a 5)), (1, .int p1)]) hx hb dX6_readProduct_6 rfl hl (by decide) rfl (fun ls hl => ?_)
  have lp7 : ∀ (v1 : Int32), ∀ (n : Nat) (v : Int32 × (Nat → Nat → Int32) × (Nat → Nat → Int64)), whileK (fun k v => fX6_readProduct_5_s7 fu (fX6_readExpr_5 fu 4) v1 k v.1 v.2.1 v.2.2) n v = some (res, s9) → ∀ (H : Heap) (locs : List Loc) (ls : Array Slot), va_P G.1 vwCl (zw G (XS 2) 105 a (v.2.1) (v.2.2)) H → va_D A (zw G (XS 2) 105 a (v.2.1) (v.2.2)) → va_S A s.heap H locs → lv_has ls 4 [(0, .ref (a 5)), (1, .int v1), (2, .int (v.1))] → W p l e { frames := 41, cells := 0, slots := 0, locals := 883 } s m [.ref (a 5), .int p1].toArray below meth c H locs 0 0 (MQ below ((kQv G (S := Unit) (fun _ => True) (fun _ => zw G (XS 2) 105 a s9.1 s9.2)) A) [.ref (a 5), .int p1].toArray s 0 0 A) (F0 m 7 ls []) := by
    intro v1
    refine while_ind (fun k7 ih7 v h => ?_)
    obtain ⟨v2, g, L⟩ := v
    intro H locs ls hP hD hS hl
    have h : fX6_readProduct_5_s7 fu (fX6_readExpr_5 fu 4) v1 k7 v2 g L = some (res, s9) := h
    have hP : va_P G.1 vwCl (zw G (XS 2) 105 a g L) H := hP
    have hD : va_D A (zw G (XS 2) 105 a g L) := hD
    have hl : lv_has ls 4 [(0, .ref (a 5)), (1, .int v1), (2, .int v2)] := hl
    show W p l e { frames := 41, cells := 0, slots := 0, locals := 883 } s m [.ref (a 5), .int p1].toArray below meth c H locs 0 0 (MQ below ((kQv G (S := Unit) (fun _ => True) (fun _ => zw G (XS 2) 105 a s9.1 s9.2)) A) [.ref (a 5), .int p1].toArray s 0 0 A) (F0 m 7 ls [])
    unfold fX6_readProduct_5_s7 at h
    refine lv_iload_n hx hb dX6_readProduct_7 rfl (lv_at hl 2 rfl) ?_
    refine lv_sipush (v := 700) hx hb dX6_readProduct_8 (by decide) ?_
    have J75 : ∀ (g : Nat → Nat → Int32) (L : Nat → Nat → Int64) (H : Heap) (locs : List Loc) (ls : Array Slot), fX6_readProduct_5_p75 fu (fX6_readExpr_5 fu 4) g L = some (res, s9) → va_P G.1 vwCl (zw G (XS 2) 105 a g L) H → va_D A (zw G (XS 2) 105 a g L) → va_S A s.heap H locs → lv_has ls 4 [] → W p l e { frames := 41, cells := 0, slots := 0, locals := 883 } s m [.ref (a 5), .int p1].toArray below meth c H locs 0 0 (MQ below ((kQv G (S := Unit) (fun _ => True) (fun _ => zw G (XS 2) 105 a s9.1 s9.2)) A) [.ref (a 5), .int p1].toArray s 0 0 A) (F0 m 75 ls []) := by
      intro g L H locs ls h hP hD hS hl
      unfold fX6_readProduct_5_p75 at h
      exact y_vret C hr hlk hP hD hS h (Nat.le_of_ble_eq_true rfl) (Nat.le_of_ble_eq_true rfl) dX6_readProduct_75
    refine lv_icmp_ge (x := v2) (y := 700) (tgt := 75) hx hb dX6_readProduct_11 (by decide) (fun c5 => ?_) (fun c5 => ?_)
    ·
      have h := ite_t c5 h
      exact J75 g L H locs ls h hP hD hS (lv_sub hl [] rfl)
    ·
      have h := ite_e c5 h
      refine lv_aload_n hx hb dX6_readProduct_14 rfl (lv_at hl 0 rfl) ?_
      refine lv_bipush (v := 42) hx hb dX6_readProduct_15 (by decide) ?_
      obtain ⟨z_, g7, L8, hf9, h⟩ := cb_some h
      refine x_callVi (rest := []) li_X6_86 C (rX6_isSignNow_5 l G H.size a fu g L 42 z_ (g7, L8) hf9) (kR rfl) hP hD hS 5 6 rfl (zat (by decide) xs_5) rfl hl.1 rfl (Nat.le_of_ble_eq_true rfl) dX6_readProduct_17 (fun x6 u_ H locs e_ hP hD hS => ?_)
      have e_ : x6 = z_ := e_
      subst e_
      have hP : va_P G.1 vwCl (zw G (XS 2) 105 a g7 L8) H := hP
      have hD : va_D A (zw G (XS 2) 105 a g7 L8) := hD
      have J32 : ∀ (v2 : Int32) (g : Nat → Nat → Int32) (L : Nat → Nat → Int64) (H : Heap) (locs : List Loc) (ls : Array Slot), fX6_readProduct_5_p32 fu (fX6_readExpr_5 fu 4) k7 v1 v2 g L = some (res, s9) → va_P G.1 vwCl (zw G (XS 2) 105 a g L) H → va_D A (zw G (XS 2) 105 a g L) → va_S A s.heap H locs → lv_has ls 4 [(0, .ref (a 5)), (1, .int v1), (2, .int v2)] → W p l e { frames := 41, cells := 0, slots := 0, locals := 883 } s m [.ref (a 5), .int p1].toArray below meth c H locs 0 0 (MQ below ((kQv G (S := Unit) (fun _ => True) (fun _ => zw G (XS 2) 105 a s9.1 s9.2)) A) [.ref (a 5), .int p1].toArray s 0 0 A) (F0 m 32 ls []) := by
        intro v2 g L H locs ls h hP hD hS hl
        unfold fX6_readProduct_5_p32 at h
        refine lv_aload_n hx hb dX6_readProduct_32 rfl (lv_at hl 0 rfl) ?_
        refine lv_bipush (v := 42) hx hb dX6_readProduct_33 (by decide) ?_
        obtain ⟨z_, g11, L12, hf13, h⟩ := cb_some h
        refine x_callVi (rest := []) li_X6_86 C (rX6_isSignNow_5 l G H.size a fu g L 42 z_ (g11, L12) hf13) (kR rfl) hP hD hS 5 6 rfl (zat (by decide) xs_5) rfl hl.1 rfl (Nat.le_of_ble_eq_true rfl) dX6_readProduct_35 (fun x10 u_ H locs e_ hP hD hS => ?_)
        have e_ : x10 = z_ := e_
        subst e_
        have hP : va_P G.1 vwCl (zw G (XS 2) 105 a g11 L12) H := hP
        have hD : va_D A (zw G (XS 2) 105 a g11 L12) := hD
        have J48 : ∀ (v2 : Int32) (t0 : Int32) (g : Nat → Nat → Int32) (L : Nat → Nat → Int64) (H : Heap) (locs : List Loc) (ls : Array Slot), fX6_readProduct_5_p48 fu (fX6_readExpr_5 fu 4) k7 v1 v2 t0 g L = some (res, s9) → va_P G.1 vwCl (zw G (XS 2) 105 a g L) H → va_D A (zw G (XS 2) 105 a g L) → va_S A s.heap H locs → lv_has ls 4 [(0, .ref (a 5)), (1, .int v1), (2, .int v2)] → W p l e { frames := 41, cells := 0, slots := 0, locals := 883 } s m [.ref (a 5), .int p1].toArray below meth c H locs 0 0 (MQ below ((kQv G (S := Unit) (fun _ => True) (fun _ => zw G (XS 2) 105 a s9.1 s9.2)) A) [.ref (a 5), .int p1].toArray s 0 0 A) (F0 m 48 ls [.int t0]) := by
          intro v2 t0 g L H locs ls h hP hD hS hl
          unfold fX6_readProduct_5_p48 at h
          refine lv_istore_n (lv' := [(3, .int t0), (0, .ref (a 5)), (1, .int v1), (2, .int v2)]) hx hb dX6_readProduct_48 rfl hl (by decide) rfl (fun ls hl => ?_)
          refine lv_aload_n hx hb dX6_readProduct_49 rfl (lv_at hl 1 rfl) ?_
          obtain ⟨z_, g15, L16, hf17, h⟩ := cb_some h
          refine x_callVv (rest := []) li_X6_53 C (rX6_advance_5 l G H.size a fu g L z_ (g15, L16) hf17) (kR rfl) hP hD hS 5 6 rfl (zat (by decide) xs_5) rfl hl.1 rfl (Nat.le_of_ble_eq_true rfl) dX6_readProduct_50 (fun u_ H locs e_ hP hD hS => ?_)
          have hP : va_P G.1 vwCl (zw G (XS 2) 105 a g15 L16) H := hP
          have hD : va_D A (zw G (XS 2) 105 a g15 L16) := hD
          refine lv_aload_n hx hb dX6_readProduct_53 rfl (lv_at hl 1 rfl) ?_
          refine lv_iload_n hx hb dX6_readProduct_54 rfl (lv_at hl 2 rfl) ?_
          obtain ⟨z_, g19, L20, hf21, h⟩ := cb_some h
          refine x_callVv (rest := []) li_X6_230 C (rX6_readPart_5_L5 l G H.size a fu g15 L16 v1 z_ (g19, L20) hf21) (kR rfl) hP hD hS 5 6 rfl (zat (by decide) xs_5) rfl hl.1 rfl (Nat.le_of_ble_eq_true rfl) dX6_readProduct_55 (fun u_ H locs e_ hP hD hS => ?_)
          have hP : va_P G.1 vwCl (zw G (XS 2) 105 a g19 L20) H := hP
          have hD : va_D A (zw G (XS 2) 105 a g19 L20) := hD
          refine lv_aload_n hx hb dX6_readProduct_58 rfl (lv_at hl 1 rfl) ?_
          refine x_getr (Or.inl fl_X6_15) C hP (by decide) xs_5 rfl dX6_readProduct_59 ?_
          refine x_getr (Or.inr fl_X6_125) C hP (by decide) xs_2 rfl dX6_readProduct_62 ?_
          refine lv_iload_n hx hb dX6_readProduct_65 rfl (lv_at hl 0 rfl) ?_
          obtain ⟨z_, g23, L24, hf25, h⟩ := cb_some h
          refine x_callNv (rest := []) li_X6_211 C (rX8_add_4 l G H.size 2 a fu g19 L20 t0 z_ (g23, L24) hf25) (kR rfl) hP hD hS 4 8 rfl (zat (by decide) xs_4) rfl hl.1 rfl (Nat.le_of_ble_eq_true rfl) dX6_readProduct_66 (fun u_ H locs e_ hP hD hS => ?_)
          have hP : va_P G.1 vwCl (zw G (XS 2) 105 a g23 L24) H := hP
          have hD : va_D A (zw G (XS 2) 105 a g23 L24) := hD
          refine lv_iinc (v := (v2 + 1)) (lv' := [(2, .int (v2 + 1)), (3, .int t0), (0, .ref (a 5)), (1, .int v1)]) hx hb dX6_readProduct_69 hl (k := 3) rfl rfl (by decide) rfl (fun ls hl => ?_)
          refine lv_goto (tgt := 7) hx hb dX6_readProduct_72 (by decide) ?_
          exact ih7 ((v2 + 1), g23, L24) h H locs ls hP hD hS (lv_sub hl [2, 3, 0] rfl)
        refine lv_if_eq (x := x10) (tgt := 46) hx hb dX6_readProduct_38 (by decide) (fun c26 => ?_) (fun c26 => ?_)
        ·
          have h := ite_t c26 h
          refine lv_bipush (v := -10) hx hb dX6_readProduct_46 (by decide) ?_
          exact J48 v2 (-10) g11 L12 H locs ls h hP hD hS (lv_sub hl [0, 1, 2] rfl)
        ·
          have h := ite_e c26 h
          refine lv_bipush (v := -9) hx hb dX6_readProduct_41 (by decide) ?_
          refine lv_goto (tgt := 48) hx hb dX6_readProduct_43 (by decide) ?_
          exact J48 v2 (-9) g11 L12 H locs ls h hP hD hS (lv_sub hl [0, 1, 2] rfl)
      refine lv_if_ne (x := x6) (tgt := 32) hx hb dX6_readProduct_20 (by decide) (fun c27 => ?_) (fun c27 => ?_)
      ·
        have h := ite_e c27 h
        exact J32 v2 g7 L8 H locs ls h hP hD hS (lv_sub hl [0, 1, 2] rfl)
      ·
        have h := ite_t c27 h
        refine lv_aload_n hx hb dX6_readProduct_23 rfl (lv_at hl 0 rfl) ?_
        refine lv_bipush (v := 47) hx hb dX6_readProduct_24 (by decide) ?_
        obtain ⟨z_, g29, L30, hf31, h⟩ := cb_some h
        refine x_callVi (rest := []) li_X6_86 C (rX6_isSignNow_5 l G H.size a fu g7 L8 47 z_ (g29, L30) hf31) (kR rfl) hP hD hS 5 6 rfl (zat (by decide) xs_5) rfl hl.1 rfl (Nat.le_of_ble_eq_true rfl) dX6_readProduct_26 (fun x28 u_ H locs e_ hP hD hS => ?_)
        have e_ : x28 = z_ := e_
        subst e_
        have hP : va_P G.1 vwCl (zw G (XS 2) 105 a g29 L30) H := hP
        have hD : va_D A (zw G (XS 2) 105 a g29 L30) := hD
        refine lv_if_eq (x := x28) (tgt := 75) hx hb dX6_readProduct_29 (by decide) (fun c32 => ?_) (fun c32 => ?_)
        ·
          have h := ite_t c32 h
          exact J75 g29 L30 H locs ls h hP hD hS (lv_sub hl [] rfl)
        ·
          have h := ite_e c32 h
          exact J32 v2 g29 L30 H locs ls h hP hD hS (lv_sub hl [0, 1, 2] rfl)
  exact lp7 p1 fu (0, g2, L3) h H locs ls hP hD hS (lv_sub hl [1, 2, 0] rfl)
set_option maxHeartbeats 4000000 in
set_option maxRecDepth 100000 in
theorem rX6_readSum_5_L5 (l : Launch) (G : kG) (sz : Nat) (a : Nat → Nat) (fu : Nat) (g : Nat → Nat → Int32) (L : Nat → Nat → Int64) (p1 : Int32) (res : Unit) (s9 : zS) (h : fX6_readSum_5 fu (fX6_readExpr_5 fu 4) p1 g L = some (res, s9)) : kM l yX6_readSum cX6_readSum 4 none { frames := 42, cells := 0, slots := 0, locals := 906 } G [.ref (a 5), .int p1] (zw G (XS 2) 105 a g L) sz (kQv G (S := Unit) (fun _ => True) (fun _ => zw G (XS 2) 105 a s9.1 s9.2)) := by
  refine kM.of (by decide) (Nat.le_of_ble_eq_true rfl) ?_
  intro p e s m below meth c A ls H C hr hlk hnm hP hD hS hl
  have C : kC G p s m c cX6_readSum 4 RX6 A := C
  have hx := C.1
  have hb := C.2.1
  have hl : lv_has ls 4 [(0, .ref (a 5)), (1, .int p1)] := hl
  obtain ⟨locs, hlocs⟩ : ∃ q : List Loc, q = [] := ⟨_, rfl⟩
  rw [← hlocs] at hS
  rw [← hlocs]
  unfold fX6_readSum_5 at h
  refine lv_aload_n hx hb dX6_readSum_0 rfl (lv_at hl 0 rfl) ?_
  refine lv_iload_n hx hb dX6_readSum_1 rfl (lv_at hl 1 rfl) ?_
  obtain ⟨z_, g2, L3, hf4, h⟩ := cb_some h
  refine x_callVv (rest := []) li_X6_227 C (rX6_readProduct_5_L5 l G H.size a fu g L p1 z_ (g2, L3) hf4) (kR rfl) hP hD hS 5 6 rfl (zat (by decide) xs_5) rfl hl.1 rfl (Nat.le_of_ble_eq_true rfl) dX6_readSum_2 (fun u_ H locs e_ hP hD hS => ?_)
  have hP : va_P G.1 vwCl (zw G (XS 2) 105 a g2 L3) H := hP
  have hD : va_D A (zw G (XS 2) 105 a g2 L3) := hD
  refine lv_iconst (v := 0) hx hb dX6_readSum_5 (by decide) ?_
  refine lv_istore_n (lv' := [(2, .int 0), (0, .ref (a 5)), (1, .int p1)]) hx hb dX6_readSum_6 rfl hl (by decide) rfl (fun ls hl => ?_)
  have lp7 : ∀ (v1 : Int32), ∀ (n : Nat) (v : Int32 × (Nat → Nat → Int32) × (Nat → Nat → Int64)), whileK (fun k v => fX6_readSum_5_s7 fu (fX6_readExpr_5 fu 4) v1 k v.1 v.2.1 v.2.2) n v = some (res, s9) → ∀ (H : Heap) (locs : List Loc) (ls : Array Slot), va_P G.1 vwCl (zw G (XS 2) 105 a (v.2.1) (v.2.2)) H → va_D A (zw G (XS 2) 105 a (v.2.1) (v.2.2)) → va_S A s.heap H locs → lv_has ls 4 [(0, .ref (a 5)), (1, .int v1), (2, .int (v.1))] → W p l e { frames := 42, cells := 0, slots := 0, locals := 906 } s m [.ref (a 5), .int p1].toArray below meth c H locs 0 0 (MQ below ((kQv G (S := Unit) (fun _ => True) (fun _ => zw G (XS 2) 105 a s9.1 s9.2)) A) [.ref (a 5), .int p1].toArray s 0 0 A) (F0 m 7 ls []) := by
    intro v1
    refine while_ind (fun k7 ih7 v h => ?_)
    obtain ⟨v2, g, L⟩ := v
    intro H locs ls hP hD hS hl
    have h : fX6_readSum_5_s7 fu (fX6_readExpr_5 fu 4) v1 k7 v2 g L = some (res, s9) := h
    have hP : va_P G.1 vwCl (zw G (XS 2) 105 a g L) H := hP
    have hD : va_D A (zw G (XS 2) 105 a g L) := hD
    have hl : lv_has ls 4 [(0, .ref (a 5)), (1, .int v1), (2, .int v2)] := hl
    show W p l e { frames := 42, cells := 0, slots := 0, locals := 906 } s m [.ref (a 5), .int p1].toArray below meth c H locs 0 0 (MQ below ((kQv G (S := Unit) (fun _ => True) (fun _ => zw G (XS 2) 105 a s9.1 s9.2)) A) [.ref (a 5), .int p1].toArray s 0 0 A) (F0 m 7 ls [])
    unfold fX6_readSum_5_s7 at h
    refine lv_iload_n hx hb dX6_readSum_7 rfl (lv_at hl 2 rfl) ?_
    refine lv_sipush (v := 700) hx hb dX6_readSum_8 (by decide) ?_
    have J75 : ∀ (g : Nat → Nat → Int32) (L : Nat → Nat → Int64) (H : Heap) (locs : List Loc) (ls : Array Slot), fX6_readSum_5_p75 fu (fX6_readExpr_5 fu 4) g L = some (res, s9) → va_P G.1 vwCl (zw G (XS 2) 105 a g L) H → va_D A (zw G (XS 2) 105 a g L) → va_S A s.heap H locs → lv_has ls 4 [] → W p l e { frames := 42, cells := 0, slots := 0, locals := 906 } s m [.ref (a 5), .int p1].toArray below meth c H locs 0 0 (MQ below ((kQv G (S := Unit) (fun _ => True) (fun _ => zw G (XS 2) 105 a s9.1 s9.2)) A) [.ref (a 5), .int p1].toArray s 0 0 A) (F0 m 75 ls []) := by
      intro g L H locs ls h hP hD hS hl
      unfold fX6_readSum_5_p75 at h
      exact y_vret C hr hlk hP hD hS h (Nat.le_of_ble_eq_true rfl) (Nat.le_of_ble_eq_true rfl) dX6_readSum_75
    refine lv_icmp_ge (x := v2) (y := 700) (tgt := 75) hx hb dX6_readSum_11 (by decide) (fun c5 => ?_) (fun c5 => ?_)
    ·
      have h := ite_t c5 h
      exact J75 g L H locs ls h hP hD hS (lv_sub hl [] rfl)
    ·
      have h := ite_e c5 h
      refine lv_aload_n hx hb dX6_readSum_14 rfl (lv_at hl 0 rfl) ?_
      refine lv_bipush (v := 43) hx hb dX6_readSum_15 (by decide) ?_
      obtain ⟨z_, g7, L8, hf9, h⟩ := cb_some h
      refine x_callVi (rest := []) li_X6_86 C (rX6_isSignNow_5 l G H.size a fu g L 43 z_ (g7, L8) hf9) (kR rfl) hP hD hS 5 6 rfl (zat (by decide) xs_5) rfl hl.1 rfl (Nat.le_of_ble_eq_true rfl) dX6_readSum_17 (fun x6 u_ H locs e_ hP hD hS => ?_)
      have e_ : x6 = z_ := e_
      subst e_
      have hP : va_P G.1 vwCl (zw G (XS 2) 105 a g7 L8) H := hP
      have hD : va_D A (zw G (XS 2) 105 a g7 L8) := hD
      have J32 : ∀ (v2 : Int32) (g : Nat → Nat → Int32) (L : Nat → Nat → Int64) (H : Heap) (locs : List Loc) (ls : Array Slot), fX6_readSum_5_p32 fu (fX6_readExpr_5 fu 4) k7 v1 v2 g L = some (res, s9) → va_P G.1 vwCl (zw G (XS 2) 105 a g L) H → va_D A (zw G (XS 2) 105 a g L) → va_S A s.heap H locs → lv_has ls 4 [(0, .ref (a 5)), (1, .int v1), (2, .int v2)] → W p l e { frames := 42, cells := 0, slots := 0, locals := 906 } s m [.ref (a 5), .int p1].toArray below meth c H locs 0 0 (MQ below ((kQv G (S := Unit) (fun _ => True) (fun _ => zw G (XS 2) 105 a s9.1 s9.2)) A) [.ref (a 5), .int p1].toArray s 0 0 A) (F0 m 32 ls []) := by
        intro v2 g L H locs ls h hP hD hS hl
        unfold fX6_readSum_5_p32 at h
        refine lv_aload_n hx hb dX6_readSum_32 rfl (lv_at hl 0 rfl) ?_
        refine lv_bipush (v := 43) hx hb dX6_readSum_33 (by decide) ?_
        obtain ⟨z_, g11, L12, hf13, h⟩ := cb_some h
        refine x_callVi (rest := []) li_X6_86 C (rX6_isSignNow_5 l G H.size a fu g L 43 z_ (g11, L12) hf13) (kR rfl) hP hD hS 5 6 rfl (zat (by decide) xs_5) rfl hl.1 rfl (Nat.le_of_ble_eq_true rfl) dX6_readSum_35 (fun x10 u_ H locs e_ hP hD hS => ?_)
        have e_ : x10 = z_ := e_
        subst e_
        have hP : va_P G.1 vwCl (zw G (XS 2) 105 a g11 L12) H := hP
        have hD : va_D A (zw G (XS 2) 105 a g11 L12) := hD
        have J48 : ∀ (v2 : Int32) (t0 : Int32) (g : Nat → Nat → Int32) (L : Nat → Nat → Int64) (H : Heap) (locs : List Loc) (ls : Array Slot), fX6_readSum_5_p48 fu (fX6_readExpr_5 fu 4) k7 v1 v2 t0 g L = some (res, s9) → va_P G.1 vwCl (zw G (XS 2) 105 a g L) H → va_D A (zw G (XS 2) 105 a g L) → va_S A s.heap H locs → lv_has ls 4 [(0, .ref (a 5)), (1, .int v1), (2, .int v2)] → W p l e { frames := 42, cells := 0, slots := 0, locals := 906 } s m [.ref (a 5), .int p1].toArray below meth c H locs 0 0 (MQ below ((kQv G (S := Unit) (fun _ => True) (fun _ => zw G (XS 2) 105 a s9.1 s9.2)) A) [.ref (a 5), .int p1].toArray s 0 0 A) (F0 m 48 ls [.int t0]) := by
          intro v2 t0 g L H locs ls h hP hD hS hl
          unfold fX6_readSum_5_p48 at h
          refine lv_istore_n (lv' := [(3, .int t0), (0, .ref (a 5)), (1, .int v1), (2, .int v2)]) hx hb dX6_readSum_48 rfl hl (by decide) rfl (fun ls hl => ?_)
          refine lv_aload_n hx hb dX6_readSum_49 rfl (lv_at hl 1 rfl) ?_
          obtain ⟨z_, g15, L16, hf17, h⟩ := cb_some h
          refine x_callVv (rest := []) li_X6_53 C (rX6_advance_5 l G H.size a fu g L z_ (g15, L16) hf17) (kR rfl) hP hD hS 5 6 rfl (zat (by decide) xs_5) rfl hl.1 rfl (Nat.le_of_ble_eq_true rfl) dX6_readSum_50 (fun u_ H locs e_ hP hD hS => ?_)
          have hP : va_P G.1 vwCl (zw G (XS 2) 105 a g15 L16) H := hP
          have hD : va_D A (zw G (XS 2) 105 a g15 L16) := hD
          refine lv_aload_n hx hb dX6_readSum_53 rfl (lv_at hl 1 rfl) ?_
          refine lv_iload_n hx hb dX6_readSum_54 rfl (lv_at hl 2 rfl) ?_
          obtain ⟨z_, g19, L20, hf21, h⟩ := cb_some h
          refine x_callVv (rest := []) li_X6_227 C (rX6_readProduct_5_L5 l G H.size a fu g15 L16 v1 z_ (g19, L20) hf21) (kR rfl) hP hD hS 5 6 rfl (zat (by decide) xs_5) rfl hl.1 rfl (Nat.le_of_ble_eq_true rfl) dX6_readSum_55 (fun u_ H locs e_ hP hD hS => ?_)
          have hP : va_P G.1 vwCl (zw G (XS 2) 105 a g19 L20) H := hP
          have hD : va_D A (zw G (XS 2) 105 a g19 L20) := hD
          refine lv_aload_n hx hb dX6_readSum_58 rfl (lv_at hl 1 rfl) ?_
          refine x_getr (Or.inl fl_X6_15) C hP (by decide) xs_5 rfl dX6_readSum_59 ?_
          refine x_getr (Or.inr fl_X6_125) C hP (by decide) xs_2 rfl dX6_readSum_62 ?_
          refine lv_iload_n hx hb dX6_readSum_65 rfl (lv_at hl 0 rfl) ?_
          obtain ⟨z_, g23, L24, hf25, h⟩ := cb_some h
          refine x_callNv (rest := []) li_X6_211 C (rX8_add_4 l G H.size 2 a fu g19 L20 t0 z_ (g23, L24) hf25) (kR rfl) hP hD hS 4 8 rfl (zat (by decide) xs_4) rfl hl.1 rfl (Nat.le_of_ble_eq_true rfl) dX6_readSum_66 (fun u_ H locs e_ hP hD hS => ?_)
          have hP : va_P G.1 vwCl (zw G (XS 2) 105 a g23 L24) H := hP
          have hD : va_D A (zw G (XS 2) 105 a g23 L24) := hD
          refine lv_iinc (v := (v2 + 1)) (lv' := [(2, .int (v2 + 1)), (3, .int t0), (0, .ref (a 5)), (1, .int v1)]) hx hb dX6_readSum_69 hl (k := 3) rfl rfl (by decide) rfl (fun ls hl => ?_)
          refine lv_goto (tgt := 7) hx hb dX6_readSum_72 (by decide) ?_
          exact ih7 ((v2 + 1), g23, L24) h H locs ls hP hD hS (lv_sub hl [2, 3, 0] rfl)
        refine lv_if_eq (x := x10) (tgt := 46) hx hb dX6_readSum_38 (by decide) (fun c26 => ?_) (fun c26 => ?_)
        ·
          have h := ite_t c26 h
          refine lv_bipush (v := -8) hx hb dX6_readSum_46 (by decide) ?_
          exact J48 v2 (-8) g11 L12 H locs ls h hP hD hS (lv_sub hl [0, 1, 2] rfl)
        ·
          have h := ite_e c26 h
          refine lv_bipush (v := -7) hx hb dX6_readSum_41 (by decide) ?_
          refine lv_goto (tgt := 48) hx hb dX6_readSum_43 (by decide) ?_
          exact J48 v2 (-7) g11 L12 H locs ls h hP hD hS (lv_sub hl [0, 1, 2] rfl)
      refine lv_if_ne (x := x6) (tgt := 32) hx hb dX6_readSum_20 (by decide) (fun c27 => ?_) (fun c27 => ?_)
      ·
        have h := ite_e c27 h
        exact J32 v2 g7 L8 H locs ls h hP hD hS (lv_sub hl [0, 1, 2] rfl)
      ·
        have h := ite_t c27 h
        refine lv_aload_n hx hb dX6_readSum_23 rfl (lv_at hl 0 rfl) ?_
        refine lv_bipush (v := 45) hx hb dX6_readSum_24 (by decide) ?_
        obtain ⟨z_, g29, L30, hf31, h⟩ := cb_some h
        refine x_callVi (rest := []) li_X6_86 C (rX6_isSignNow_5 l G H.size a fu g7 L8 45 z_ (g29, L30) hf31) (kR rfl) hP hD hS 5 6 rfl (zat (by decide) xs_5) rfl hl.1 rfl (Nat.le_of_ble_eq_true rfl) dX6_readSum_26 (fun x28 u_ H locs e_ hP hD hS => ?_)
        have e_ : x28 = z_ := e_
        subst e_
        have hP : va_P G.1 vwCl (zw G (XS 2) 105 a g29 L30) H := hP
        have hD : va_D A (zw G (XS 2) 105 a g29 L30) := hD
        refine lv_if_eq (x := x28) (tgt := 75) hx hb dX6_readSum_29 (by decide) (fun c32 => ?_) (fun c32 => ?_)
        ·
          have h := ite_t c32 h
          exact J75 g29 L30 H locs ls h hP hD hS (lv_sub hl [] rfl)
        ·
          have h := ite_e c32 h
          exact J32 v2 g29 L30 H locs ls h hP hD hS (lv_sub hl [0, 1, 2] rfl)
  exact lp7 p1 fu (0, g2, L3) h H locs ls hP hD hS (lv_sub hl [1, 2, 0] rfl)
set_option maxHeartbeats 4000000 in
set_option maxRecDepth 100000 in
theorem rX6_readTest_5_L5 (l : Launch) (G : kG) (sz : Nat) (a : Nat → Nat) (fu : Nat) (g : Nat → Nat → Int32) (L : Nat → Nat → Int64) (p1 : Int32) (res : Unit) (s9 : zS) (h : fX6_readTest_5 fu (fX6_readExpr_5 fu 4) p1 g L = some (res, s9)) : kM l yX6_readTest cX6_readTest 2 none { frames := 43, cells := 0, slots := 0, locals := 929 } G [.ref (a 5), .int p1] (zw G (XS 2) 105 a g L) sz (kQv G (S := Unit) (fun _ => True) (fun _ => zw G (XS 2) 105 a s9.1 s9.2)) := by
  refine kM.of (by decide) (Nat.le_of_ble_eq_true rfl) ?_
  intro p e s m below meth c A ls H C hr hlk hnm hP hD hS hl
  have C : kC G p s m c cX6_readTest 2 RX6 A := C
  have hx := C.1
  have hb := C.2.1
  have hl : lv_has ls 2 [(0, .ref (a 5)), (1, .int p1)] := hl
  obtain ⟨locs, hlocs⟩ : ∃ q : List Loc, q = [] := ⟨_, rfl⟩
  rw [← hlocs] at hS
  rw [← hlocs]
  unfold fX6_readTest_5 at h
  refine lv_aload_n hx hb dX6_readTest_0 rfl (lv_at hl 0 rfl) ?_
  refine lv_iload_n hx hb dX6_readTest_1 rfl (lv_at hl 1 rfl) ?_
  obtain ⟨z_, g2, L3, hf4, h⟩ := cb_some h
  refine x_callVv (rest := []) li_X6_224 C (rX6_readSum_5_L5 l G H.size a fu g L p1 z_ (g2, L3) hf4) (kR rfl) hP hD hS 5 6 rfl (zat (by decide) xs_5) rfl hl.1 rfl (Nat.le_of_ble_eq_true rfl) dX6_readTest_2 (fun u_ H locs e_ hP hD hS => ?_)
  have hP : va_P G.1 vwCl (zw G (XS 2) 105 a g2 L3) H := hP
  have hD : va_D A (zw G (XS 2) 105 a g2 L3) := hD
  refine lv_aload_n hx hb dX6_readTest_5 rfl (lv_at hl 0 rfl) ?_
  refine lv_bipush (v := 60) hx hb dX6_readTest_6 (by decide) ?_
  obtain ⟨z_, g6, L7, hf8, h⟩ := cb_some h
  refine x_callVi (rest := []) li_X6_86 C (rX6_isSignNow_5 l G H.size a fu g2 L3 60 z_ (g6, L7) hf8) (kR rfl) hP hD hS 5 6 rfl (zat (by decide) xs_5) rfl hl.1 rfl (Nat.le_of_ble_eq_true rfl) dX6_readTest_8 (fun x5 u_ H locs e_ hP hD hS => ?_)
  have e_ : x5 = z_ := e_
  subst e_
  have hP : va_P G.1 vwCl (zw G (XS 2) 105 a g6 L7) H := hP
  have hD : va_D A (zw G (XS 2) 105 a g6 L7) := hD
  have J68 : ∀ (g : Nat → Nat → Int32) (L : Nat → Nat → Int64) (H : Heap) (locs : List Loc) (ls : Array Slot), fX6_readTest_5_p68 fu (fX6_readExpr_5 fu 4) g L = some (res, s9) → va_P G.1 vwCl (zw G (XS 2) 105 a g L) H → va_D A (zw G (XS 2) 105 a g L) → va_S A s.heap H locs → lv_has ls 2 [] → W p l e { frames := 43, cells := 0, slots := 0, locals := 929 } s m [.ref (a 5), .int p1].toArray below meth c H locs 0 0 (MQ below ((kQv G (S := Unit) (fun _ => True) (fun _ => zw G (XS 2) 105 a s9.1 s9.2)) A) [.ref (a 5), .int p1].toArray s 0 0 A) (F0 m 68 ls []) := by
    intro g L H locs ls h hP hD hS hl
    unfold fX6_readTest_5_p68 at h
    exact y_vret C hr hlk hP hD hS h (Nat.le_of_ble_eq_true rfl) (Nat.le_of_ble_eq_true rfl) dX6_readTest_68
  refine lv_if_eq (x := x5) (tgt := 38) hx hb dX6_readTest_11 (by decide) (fun c9 => ?_) (fun c9 => ?_)
  ·
    have h := ite_t c9 h
    refine lv_aload_n hx hb dX6_readTest_38 rfl (lv_at hl 0 rfl) ?_
    refine lv_bipush (v := 61) hx hb dX6_readTest_39 (by decide) ?_
    obtain ⟨z_, g11, L12, hf13, h⟩ := cb_some h
    refine x_callVi (rest := []) li_X6_86 C (rX6_isSignNow_5 l G H.size a fu g6 L7 61 z_ (g11, L12) hf13) (kR rfl) hP hD hS 5 6 rfl (zat (by decide) xs_5) rfl hl.1 rfl (Nat.le_of_ble_eq_true rfl) dX6_readTest_41 (fun x10 u_ H locs e_ hP hD hS => ?_)
    have e_ : x10 = z_ := e_
    subst e_
    have hP : va_P G.1 vwCl (zw G (XS 2) 105 a g11 L12) H := hP
    have hD : va_D A (zw G (XS 2) 105 a g11 L12) := hD
    refine lv_if_eq (x := x10) (tgt := 68) hx hb dX6_readTest_44 (by decide) (fun c14 => ?_) (fun c14 => ?_)
    ·
      have h := ite_t c14 h
      exact J68 g11 L12 H locs ls h hP hD hS (lv_sub hl [] rfl)
    ·
      have h := ite_e c14 h
      refine lv_aload_n hx hb dX6_readTest_47 rfl (lv_at hl 0 rfl) ?_
      obtain ⟨z_, g16, L17, hf18, h⟩ := cb_some h
      refine x_callVv (rest := []) li_X6_53 C (rX6_advance_5 l G H.size a fu g11 L12 z_ (g16, L17) hf18) (kR rfl) hP hD hS 5 6 rfl (zat (by decide) xs_5) rfl hl.1 rfl (Nat.le_of_ble_eq_true rfl) dX6_readTest_48 (fun u_ H locs e_ hP hD hS => ?_)
      have hP : va_P G.1 vwCl (zw G (XS 2) 105 a g16 L17) H := hP
      have hD : va_D A (zw G (XS 2) 105 a g16 L17) := hD
      refine lv_aload_n hx hb dX6_readTest_51 rfl (lv_at hl 0 rfl) ?_
      refine lv_iload_n hx hb dX6_readTest_52 rfl (lv_at hl 1 rfl) ?_
      obtain ⟨z_, g20, L21, hf22, h⟩ := cb_some h
      refine x_callVv (rest := []) li_X6_224 C (rX6_readSum_5_L5 l G H.size a fu g16 L17 p1 z_ (g20, L21) hf22) (kR rfl) hP hD hS 5 6 rfl (zat (by decide) xs_5) rfl hl.1 rfl (Nat.le_of_ble_eq_true rfl) dX6_readTest_53 (fun u_ H locs e_ hP hD hS => ?_)
      have hP : va_P G.1 vwCl (zw G (XS 2) 105 a g20 L21) H := hP
      have hD : va_D A (zw G (XS 2) 105 a g20 L21) := hD
      refine lv_aload_n hx hb dX6_readTest_56 rfl (lv_at hl 0 rfl) ?_
      refine x_getr (Or.inl fl_X6_15) C hP (by decide) xs_5 rfl dX6_readTest_57 ?_
      refine x_getr (Or.inr fl_X6_125) C hP (by decide) xs_2 rfl dX6_readTest_60 ?_
      refine lv_bipush (v := -12) hx hb dX6_readTest_63 (by decide) ?_
      obtain ⟨z_, g24, L25, hf26, h⟩ := cb_some h
      refine x_callNv (rest := []) li_X6_211 C (rX8_add_4 l G H.size 2 a fu g20 L21 (-12) z_ (g24, L25) hf26) (kR rfl) hP hD hS 4 8 rfl (zat (by decide) xs_4) rfl hl.1 rfl (Nat.le_of_ble_eq_true rfl) dX6_readTest_65 (fun u_ H locs e_ hP hD hS => ?_)
      have hP : va_P G.1 vwCl (zw G (XS 2) 105 a g24 L25) H := hP
      have hD : va_D A (zw G (XS 2) 105 a g24 L25) := hD
      exact J68 g24 L25 H locs ls h hP hD hS (lv_sub hl [] rfl)
  ·
    have h := ite_e c9 h
    refine lv_aload_n hx hb dX6_readTest_14 rfl (lv_at hl 0 rfl) ?_
    obtain ⟨z_, g28, L29, hf30, h⟩ := cb_some h
    refine x_callVv (rest := []) li_X6_53 C (rX6_advance_5 l G H.size a fu g6 L7 z_ (g28, L29) hf30) (kR rfl) hP hD hS 5 6 rfl (zat (by decide) xs_5) rfl hl.1 rfl (Nat.le_of_ble_eq_true rfl) dX6_readTest_15 (fun u_ H locs e_ hP hD hS => ?_)
    have hP : va_P G.1 vwCl (zw G (XS 2) 105 a g28 L29) H := hP
    have hD : va_D A (zw G (XS 2) 105 a g28 L29) := hD
    refine lv_aload_n hx hb dX6_readTest_18 rfl (lv_at hl 0 rfl) ?_
    refine lv_iload_n hx hb dX6_readTest_19 rfl (lv_at hl 1 rfl) ?_
    obtain ⟨z_, g32, L33, hf34, h⟩ := cb_some h
    refine x_callVv (rest := []) li_X6_224 C (rX6_readSum_5_L5 l G H.size a fu g28 L29 p1 z_ (g32, L33) hf34) (kR rfl) hP hD hS 5 6 rfl (zat (by decide) xs_5) rfl hl.1 rfl (Nat.le_of_ble_eq_true rfl) dX6_readTest_20 (fun u_ H locs e_ hP hD hS => ?_)
    have hP : va_P G.1 vwCl (zw G (XS 2) 105 a g32 L33) H := hP
    have hD : va_D A (zw G (XS 2) 105 a g32 L33) := hD
    refine lv_aload_n hx hb dX6_readTest_23 rfl (lv_at hl 0 rfl) ?_
    refine x_getr (Or.inl fl_X6_15) C hP (by decide) xs_5 rfl dX6_readTest_24 ?_
    refine x_getr (Or.inr fl_X6_125) C hP (by decide) xs_2 rfl dX6_readTest_27 ?_
    refine lv_bipush (v := -11) hx hb dX6_readTest_30 (by decide) ?_
    obtain ⟨z_, g36, L37, hf38, h⟩ := cb_some h
    refine x_callNv (rest := []) li_X6_211 C (rX8_add_4 l G H.size 2 a fu g32 L33 (-11) z_ (g36, L37) hf38) (kR rfl) hP hD hS 4 8 rfl (zat (by decide) xs_4) rfl hl.1 rfl (Nat.le_of_ble_eq_true rfl) dX6_readTest_32 (fun u_ H locs e_ hP hD hS => ?_)
    have hP : va_P G.1 vwCl (zw G (XS 2) 105 a g36 L37) H := hP
    have hD : va_D A (zw G (XS 2) 105 a g36 L37) := hD
    refine lv_goto (tgt := 68) hx hb dX6_readTest_35 (by decide) ?_
    exact J68 g36 L37 H locs ls h hP hD hS (lv_sub hl [] rfl)
set_option maxHeartbeats 4000000 in
set_option maxRecDepth 100000 in
theorem rX6_readNot_5_L5 (l : Launch) (G : kG) (sz : Nat) (a : Nat → Nat) (fu : Nat) (g : Nat → Nat → Int32) (L : Nat → Nat → Int64) (p1 : Int32) (res : Unit) (s9 : zS) (h : fX6_readNot_5 fu (fX6_readExpr_5 fu 4) p1 g L = some (res, s9)) : kM l yX6_readNot cX6_readNot 4 none { frames := 44, cells := 0, slots := 0, locals := 950 } G [.ref (a 5), .int p1] (zw G (XS 2) 105 a g L) sz (kQv G (S := Unit) (fun _ => True) (fun _ => zw G (XS 2) 105 a s9.1 s9.2)) := by
  refine kM.of (by decide) (Nat.le_of_ble_eq_true rfl) ?_
  intro p e s m below meth c A ls H C hr hlk hnm hP hD hS hl
  have C : kC G p s m c cX6_readNot 4 RX6 A := C
  have hx := C.1
  have hb := C.2.1
  have hl : lv_has ls 4 [(0, .ref (a 5)), (1, .int p1)] := hl
  obtain ⟨locs, hlocs⟩ : ∃ q : List Loc, q = [] := ⟨_, rfl⟩
  rw [← hlocs] at hS
  rw [← hlocs]
  unfold fX6_readNot_5 at h
  refine lv_iconst (v := 0) hx hb dX6_readNot_0 (by decide) ?_
  refine lv_istore_n (lv' := [(2, .int 0), (0, .ref (a 5)), (1, .int p1)]) hx hb dX6_readNot_1 rfl hl (by decide) rfl (fun ls hl => ?_)
  have lp2 : ∀ (v1 : Int32), ∀ (n : Nat) (v : Int32 × (Nat → Nat → Int32) × (Nat → Nat → Int64)), whileK (fun k v => fX6_readNot_5_s2 fu (fX6_readExpr_5 fu 4) v1 k v.1 v.2.1 v.2.2) n v = some (res, s9) → ∀ (H : Heap) (locs : List Loc) (ls : Array Slot), va_P G.1 vwCl (zw G (XS 2) 105 a (v.2.1) (v.2.2)) H → va_D A (zw G (XS 2) 105 a (v.2.1) (v.2.2)) → va_S A s.heap H locs → lv_has ls 4 [(0, .ref (a 5)), (1, .int v1), (2, .int (v.1))] → W p l e { frames := 44, cells := 0, slots := 0, locals := 950 } s m [.ref (a 5), .int p1].toArray below meth c H locs 0 0 (MQ below ((kQv G (S := Unit) (fun _ => True) (fun _ => zw G (XS 2) 105 a s9.1 s9.2)) A) [.ref (a 5), .int p1].toArray s 0 0 A) (F0 m 2 ls []) := by
    intro v1
    refine while_ind (fun k2 ih2 v h => ?_)
    obtain ⟨v2, g, L⟩ := v
    intro H locs ls hP hD hS hl
    have h : fX6_readNot_5_s2 fu (fX6_readExpr_5 fu 4) v1 k2 v2 g L = some (res, s9) := h
    have hP : va_P G.1 vwCl (zw G (XS 2) 105 a g L) H := hP
    have hD : va_D A (zw G (XS 2) 105 a g L) := hD
    have hl : lv_has ls 4 [(0, .ref (a 5)), (1, .int v1), (2, .int v2)] := hl
    show W p l e { frames := 44, cells := 0, slots := 0, locals := 950 } s m [.ref (a 5), .int p1].toArray below meth c H locs 0 0 (MQ below ((kQv G (S := Unit) (fun _ => True) (fun _ => zw G (XS 2) 105 a s9.1 s9.2)) A) [.ref (a 5), .int p1].toArray s 0 0 A) (F0 m 2 ls [])
    unfold fX6_readNot_5_s2 at h
    refine lv_iload_n hx hb dX6_readNot_2 rfl (lv_at hl 2 rfl) ?_
    refine lv_bipush (v := 6) hx hb dX6_readNot_3 (by decide) ?_
    have J27 : ∀ (v1 : Int32) (v2 : Int32) (g : Nat → Nat → Int32) (L : Nat → Nat → Int64) (H : Heap) (locs : List Loc) (ls : Array Slot), fX6_readNot_5_p27 fu (fX6_readExpr_5 fu 4) v1 v2 g L = some (res, s9) → va_P G.1 vwCl (zw G (XS 2) 105 a g L) H → va_D A (zw G (XS 2) 105 a g L) → va_S A s.heap H locs → lv_has ls 4 [(0, .ref (a 5)), (1, .int v1), (2, .int v2)] → W p l e { frames := 44, cells := 0, slots := 0, locals := 950 } s m [.ref (a 5), .int p1].toArray below meth c H locs 0 0 (MQ below ((kQv G (S := Unit) (fun _ => True) (fun _ => zw G (XS 2) 105 a s9.1 s9.2)) A) [.ref (a 5), .int p1].toArray s 0 0 A) (F0 m 27 ls []) := by
      intro v1 v2 g L H locs ls h hP hD hS hl
      unfold fX6_readNot_5_p27 at h
      refine lv_aload_n hx hb dX6_readNot_27 rfl (lv_at hl 0 rfl) ?_
      refine y_ldcS (i := 11) C (by decide) rfl dX6_readNot_28 ?_
      obtain ⟨z_, g2, L3, hf4, h⟩ := cb_some h
      refine x_callVi (rest := []) li_X6_92 C (rX6_isWord_5_not l G H.size a fu g L z_ (g2, L3) hf4) (kR rfl) hP hD hS 5 6 rfl (zat (by decide) xs_5) rfl hl.1 rfl (Nat.le_of_ble_eq_true rfl) dX6_readNot_30 (fun x1 u_ H locs e_ hP hD hS => ?_)
      have e_ : x1 = z_ := e_
      subst e_
      have hP : va_P G.1 vwCl (zw G (XS 2) 105 a g2 L3) H := hP
      have hD : va_D A (zw G (XS 2) 105 a g2 L3) := hD
      have J47 : ∀ (v1 : Int32) (v2 : Int32) (g : Nat → Nat → Int32) (L : Nat → Nat → Int64) (H : Heap) (locs : List Loc) (ls : Array Slot), fX6_readNot_5_p47 fu (fX6_readExpr_5 fu 4) v1 v2 g L = some (res, s9) → va_P G.1 vwCl (zw G (XS 2) 105 a g L) H → va_D A (zw G (XS 2) 105 a g L) → va_S A s.heap H locs → lv_has ls 4 [(0, .ref (a 5)), (1, .int v1), (2, .int v2)] → W p l e { frames := 44, cells := 0, slots := 0, locals := 950 } s m [.ref (a 5), .int p1].toArray below meth c H locs 0 0 (MQ below ((kQv G (S := Unit) (fun _ => True) (fun _ => zw G (XS 2) 105 a s9.1 s9.2)) A) [.ref (a 5), .int p1].toArray s 0 0 A) (F0 m 47 ls []) := by
        intro v1 v2 g L H locs ls h hP hD hS hl
        unfold fX6_readNot_5_p47 at h
        refine lv_aload_n hx hb dX6_readNot_47 rfl (lv_at hl 0 rfl) ?_
        refine lv_iload_n hx hb dX6_readNot_48 rfl (lv_at hl 1 rfl) ?_
        obtain ⟨z_, g6, L7, hf8, h⟩ := cb_some h
        refine x_callVv (rest := []) li_X6_221 C (rX6_readTest_5_L5 l G H.size a fu g L v1 z_ (g6, L7) hf8) (kR rfl) hP hD hS 5 6 rfl (zat (by decide) xs_5) rfl hl.1 rfl (Nat.le_of_ble_eq_true rfl) dX6_readNot_49 (fun u_ H locs e_ hP hD hS => ?_)
        have hP : va_P G.1 vwCl (zw G (XS 2) 105 a g6 L7) H := hP
        have hD : va_D A (zw G (XS 2) 105 a g6 L7) := hD
        refine lv_iconst (v := 0) hx hb dX6_readNot_52 (by decide) ?_
        refine lv_istore_n (lv' := [(3, .int 0), (0, .ref (a 5)), (1, .int v1), (2, .int v2)]) hx hb dX6_readNot_53 rfl hl (by decide) rfl (fun ls hl => ?_)
        have lp54 : ∀ (v2 : Int32), ∀ (n : Nat) (v : Int32 × (Nat → Nat → Int32) × (Nat → Nat → Int64)), whileK (fun k v => fX6_readNot_5_s54 fu (fX6_readExpr_5 fu 4) v2 k v.1 v.2.1 v.2.2) n v = some (res, s9) → ∀ (H : Heap) (locs : List Loc) (ls : Array Slot), va_P G.1 vwCl (zw G (XS 2) 105 a (v.2.1) (v.2.2)) H → va_D A (zw G (XS 2) 105 a (v.2.1) (v.2.2)) → va_S A s.heap H locs → lv_has ls 4 [(0, .ref (a 5)), (2, .int v2), (3, .int (v.1))] → W p l e { frames := 44, cells := 0, slots := 0, locals := 950 } s m [.ref (a 5), .int p1].toArray below meth c H locs 0 0 (MQ below ((kQv G (S := Unit) (fun _ => True) (fun _ => zw G (XS 2) 105 a s9.1 s9.2)) A) [.ref (a 5), .int p1].toArray s 0 0 A) (F0 m 54 ls []) := by
          intro v2
          refine while_ind (fun k54 ih54 v h => ?_)
          obtain ⟨v3, g, L⟩ := v
          intro H locs ls hP hD hS hl
          have h : fX6_readNot_5_s54 fu (fX6_readExpr_5 fu 4) v2 k54 v3 g L = some (res, s9) := h
          have hP : va_P G.1 vwCl (zw G (XS 2) 105 a g L) H := hP
          have hD : va_D A (zw G (XS 2) 105 a g L) := hD
          have hl : lv_has ls 4 [(0, .ref (a 5)), (2, .int v2), (3, .int v3)] := hl
          show W p l e { frames := 44, cells := 0, slots := 0, locals := 950 } s m [.ref (a 5), .int p1].toArray below meth c H locs 0 0 (MQ below ((kQv G (S := Unit) (fun _ => True) (fun _ => zw G (XS 2) 105 a s9.1 s9.2)) A) [.ref (a 5), .int p1].toArray s 0 0 A) (F0 m 54 ls [])
          unfold fX6_readNot_5_s54 at h
          refine lv_iload_n hx hb dX6_readNot_54 rfl (lv_at hl 2 rfl) ?_
          refine lv_iload_n hx hb dX6_readNot_55 rfl (lv_at hl 1 rfl) ?_
          refine lv_icmp_ge (x := v3) (y := v2) (tgt := 77) hx hb dX6_readNot_56 (by decide) (fun c9 => ?_) (fun c9 => ?_)
          ·
            have h := ite_t c9 h
            exact y_vret C hr hlk hP hD hS h (Nat.le_of_ble_eq_true rfl) (Nat.le_of_ble_eq_true rfl) dX6_readNot_77
          ·
            have h := ite_e c9 h
            refine lv_aload_n hx hb dX6_readNot_59 rfl (lv_at hl 0 rfl) ?_
            refine x_getr (Or.inl fl_X6_15) C hP (by decide) xs_5 rfl dX6_readNot_60 ?_
            refine x_getr (Or.inr fl_X6_125) C hP (by decide) xs_2 rfl dX6_readNot_63 ?_
            refine lv_bipush (v := -15) hx hb dX6_readNot_66 (by decide) ?_
            obtain ⟨z_, g11, L12, hf13, h⟩ := cb_some h
            refine x_callNv (rest := []) li_X6_211 C (rX8_add_4 l G H.size 2 a fu g L (-15) z_ (g11, L12) hf13) (kR rfl) hP hD hS 4 8 rfl (zat (by decide) xs_4) rfl hl.1 rfl (Nat.le_of_ble_eq_true rfl) dX6_readNot_68 (fun u_ H locs e_ hP hD hS => ?_)
            have hP : va_P G.1 vwCl (zw G (XS 2) 105 a g11 L12) H := hP
            have hD : va_D A (zw G (XS 2) 105 a g11 L12) := hD
            refine lv_iinc (v := (v3 + 1)) (lv' := [(3, .int (v3 + 1)), (0, .ref (a 5)), (2, .int v2)]) hx hb dX6_readNot_71 hl (k := 2) rfl rfl (by decide) rfl (fun ls hl => ?_)
            refine lv_goto (tgt := 54) hx hb dX6_readNot_74 (by decide) ?_
            exact ih54 ((v3 + 1), g11, L12) h H locs ls hP hD hS (lv_sub hl [1, 2, 0] rfl)
        exact lp54 v2 fu (0, g6, L7) h H locs ls hP hD hS (lv_sub hl [1, 3, 0] rfl)
      refine lv_if_eq (x := x1) (tgt := 47) hx hb dX6_readNot_33 (by decide) (fun c14 => ?_) (fun c14 => ?_)
      ·
        have h := ite_t c14 h
        exact J47 v1 v2 g2 L3 H locs ls h hP hD hS (lv_sub hl [0, 1, 2] rfl)
      ·
        have h := ite_e c14 h
        refine lv_iload_n hx hb dX6_readNot_36 rfl (lv_at hl 2 rfl) ?_
        refine lv_bipush (v := 6) hx hb dX6_readNot_37 (by decide) ?_
        refine lv_icmp_lt (x := v2) (y := 6) (tgt := 47) hx hb dX6_readNot_39 (by decide) (fun c15 => ?_) (fun c15 => ?_)
        ·
          have h := ite_t c15 h
          exact J47 v1 v2 g2 L3 H locs ls h hP hD hS (lv_sub hl [0, 1, 2] rfl)
        ·
          have h := ite_e c15 h
          refine lv_aload_n hx hb dX6_readNot_42 rfl (lv_at hl 0 rfl) ?_
          refine lv_iconst (v := 2) hx hb dX6_readNot_43 (by decide) ?_
          obtain ⟨z_, g17, L18, hf19, h⟩ := cb_some h
          refine x_callVv (rest := []) li_X6_78 C (rX6_refuse_5 l G H.size a fu g2 L3 2 z_ (g17, L18) hf19) (kR rfl) hP hD hS 5 6 rfl (zat (by decide) xs_5) rfl hl.1 rfl (Nat.le_of_ble_eq_true rfl) dX6_readNot_44 (fun u_ H locs e_ hP hD hS => ?_)
          have hP : va_P G.1 vwCl (zw G (XS 2) 105 a g17 L18) H := hP
          have hD : va_D A (zw G (XS 2) 105 a g17 L18) := hD
          exact J47 v1 v2 g17 L18 H locs ls h hP hD hS (lv_sub hl [0, 1, 2] rfl)
    refine lv_icmp_ge (x := v2) (y := 6) (tgt := 27) hx hb dX6_readNot_5 (by decide) (fun c20 => ?_) (fun c20 => ?_)
    ·
      have h := ite_t c20 h
      exact J27 v1 v2 g L H locs ls h hP hD hS (lv_sub hl [0, 1, 2] rfl)
    ·
      have h := ite_e c20 h
      refine lv_aload_n hx hb dX6_readNot_8 rfl (lv_at hl 0 rfl) ?_
      refine y_ldcS (i := 11) C (by decide) rfl dX6_readNot_9 ?_
      obtain ⟨z_, g22, L23, hf24, h⟩ := cb_some h
      refine x_callVi (rest := []) li_X6_92 C (rX6_isWord_5_not l G H.size a fu g L z_ (g22, L23) hf24) (kR rfl) hP hD hS 5 6 rfl (zat (by decide) xs_5) rfl hl.1 rfl (Nat.le_of_ble_eq_true rfl) dX6_readNot_11 (fun x21 u_ H locs e_ hP hD hS => ?_)
      have e_ : x21 = z_ := e_
      subst e_
      have hP : va_P G.1 vwCl (zw G (XS 2) 105 a g22 L23) H := hP
      have hD : va_D A (zw G (XS 2) 105 a g22 L23) := hD
      refine lv_if_eq (x := x21) (tgt := 27) hx hb dX6_readNot_14 (by decide) (fun c25 => ?_) (fun c25 => ?_)
      ·
        have h := ite_t c25 h
        exact J27 v1 v2 g22 L23 H locs ls h hP hD hS (lv_sub hl [0, 1, 2] rfl)
      ·
        have h := ite_e c25 h
        refine lv_iinc (v := (v2 + 1)) (lv' := [(2, .int (v2 + 1)), (0, .ref (a 5)), (1, .int v1)]) hx hb dX6_readNot_17 hl (k := 2) rfl rfl (by decide) rfl (fun ls hl => ?_)
        refine lv_aload_n hx hb dX6_readNot_20 rfl (lv_at hl 1 rfl) ?_
        obtain ⟨z_, g27, L28, hf29, h⟩ := cb_some h
        refine x_callVv (rest := []) li_X6_53 C (rX6_advance_5 l G H.size a fu g22 L23 z_ (g27, L28) hf29) (kR rfl) hP hD hS 5 6 rfl (zat (by decide) xs_5) rfl hl.1 rfl (Nat.le_of_ble_eq_true rfl) dX6_readNot_21 (fun u_ H locs e_ hP hD hS => ?_)
        have hP : va_P G.1 vwCl (zw G (XS 2) 105 a g27 L28) H := hP
        have hD : va_D A (zw G (XS 2) 105 a g27 L28) := hD
        refine lv_goto (tgt := 2) hx hb dX6_readNot_24 (by decide) ?_
        exact ih2 ((v2 + 1), g27, L28) h H locs ls hP hD hS (lv_sub hl [1, 2, 0] rfl)
  exact lp2 p1 fu (0, g, L) h H locs ls hP hD hS (lv_sub hl [1, 2, 0] rfl)
set_option maxHeartbeats 4000000 in
set_option maxRecDepth 100000 in
theorem rX6_readAnd_5_L5 (l : Launch) (G : kG) (sz : Nat) (a : Nat → Nat) (fu : Nat) (g : Nat → Nat → Int32) (L : Nat → Nat → Int64) (p1 : Int32) (res : Unit) (s9 : zS) (h : fX6_readAnd_5 fu (fX6_readExpr_5 fu 4) p1 g L = some (res, s9)) : kM l yX6_readAnd cX6_readAnd 3 none { frames := 45, cells := 0, slots := 0, locals := 973 } G [.ref (a 5), .int p1] (zw G (XS 2) 105 a g L) sz (kQv G (S := Unit) (fun _ => True) (fun _ => zw G (XS 2) 105 a s9.1 s9.2)) := by
  refine kM.of (by decide) (Nat.le_of_ble_eq_true rfl) ?_
  intro p e s m below meth c A ls H C hr hlk hnm hP hD hS hl
  have C : kC G p s m c cX6_readAnd 3 RX6 A := C
  have hx := C.1
  have hb := C.2.1
  have hl : lv_has ls 3 [(0, .ref (a 5)), (1, .int p1)] := hl
  obtain ⟨locs, hlocs⟩ : ∃ q : List Loc, q = [] := ⟨_, rfl⟩
  rw [← hlocs] at hS
  rw [← hlocs]
  unfold fX6_readAnd_5 at h
  refine lv_aload_n hx hb dX6_readAnd_0 rfl (lv_at hl 0 rfl) ?_
  refine lv_iload_n hx hb dX6_readAnd_1 rfl (lv_at hl 1 rfl) ?_
  obtain ⟨z_, g2, L3, hf4, h⟩ := cb_some h
  refine x_callVv (rest := []) li_X6_214 C (rX6_readNot_5_L5 l G H.size a fu g L p1 z_ (g2, L3) hf4) (kR rfl) hP hD hS 5 6 rfl (zat (by decide) xs_5) rfl hl.1 rfl (Nat.le_of_ble_eq_true rfl) dX6_readAnd_2 (fun u_ H locs e_ hP hD hS => ?_)
  have hP : va_P G.1 vwCl (zw G (XS 2) 105 a g2 L3) H := hP
  have hD : va_D A (zw G (XS 2) 105 a g2 L3) := hD
  refine lv_iconst (v := 0) hx hb dX6_readAnd_5 (by decide) ?_
  refine lv_istore_n (lv' := [(2, .int 0), (0, .ref (a 5)), (1, .int p1)]) hx hb dX6_readAnd_6 rfl hl (by decide) rfl (fun ls hl => ?_)
  have lp7 : ∀ (v1 : Int32), ∀ (n : Nat) (v : Int32 × (Nat → Nat → Int32) × (Nat → Nat → Int64)), whileK (fun k v => fX6_readAnd_5_s7 fu (fX6_readExpr_5 fu 4) v1 k v.1 v.2.1 v.2.2) n v = some (res, s9) → ∀ (H : Heap) (locs : List Loc) (ls : Array Slot), va_P G.1 vwCl (zw G (XS 2) 105 a (v.2.1) (v.2.2)) H → va_D A (zw G (XS 2) 105 a (v.2.1) (v.2.2)) → va_S A s.heap H locs → lv_has ls 3 [(0, .ref (a 5)), (1, .int v1), (2, .int (v.1))] → W p l e { frames := 45, cells := 0, slots := 0, locals := 973 } s m [.ref (a 5), .int p1].toArray below meth c H locs 0 0 (MQ below ((kQv G (S := Unit) (fun _ => True) (fun _ => zw G (XS 2) 105 a s9.1 s9.2)) A) [.ref (a 5), .int p1].toArray s 0 0 A) (F0 m 7 ls []) := by
    intro v1
    refine while_ind (fun k7 ih7 v h => ?_)
    obtain ⟨v2, g, L⟩ := v
    intro H locs ls hP hD hS hl
    have h : fX6_readAnd_5_s7 fu (fX6_readExpr_5 fu 4) v1 k7 v2 g L = some (res, s9) := h
    have hP : va_P G.1 vwCl (zw G (XS 2) 105 a g L) H := hP
    have hD : va_D A (zw G (XS 2) 105 a g L) := hD
    have hl : lv_has ls 3 [(0, .ref (a 5)), (1, .int v1), (2, .int v2)] := hl
    show W p l e { frames := 45, cells := 0, slots := 0, locals := 973 } s m [.ref (a 5), .int p1].toArray below meth c H locs 0 0 (MQ below ((kQv G (S := Unit) (fun _ => True) (fun _ => zw G (XS 2) 105 a s9.1 s9.2)) A) [.ref (a 5), .int p1].toArray s 0 0 A) (F0 m 7 ls [])
    unfold fX6_readAnd_5_s7 at h
    refine lv_iload_n hx hb dX6_readAnd_7 rfl (lv_at hl 2 rfl) ?_
    refine lv_sipush (v := 700) hx hb dX6_readAnd_8 (by decide) ?_
    have J50 : ∀ (g : Nat → Nat → Int32) (L : Nat → Nat → Int64) (H : Heap) (locs : List Loc) (ls : Array Slot), fX6_readAnd_5_p50 fu (fX6_readExpr_5 fu 4) g L = some (res, s9) → va_P G.1 vwCl (zw G (XS 2) 105 a g L) H → va_D A (zw G (XS 2) 105 a g L) → va_S A s.heap H locs → lv_has ls 3 [] → W p l e { frames := 45, cells := 0, slots := 0, locals := 973 } s m [.ref (a 5), .int p1].toArray below meth c H locs 0 0 (MQ below ((kQv G (S := Unit) (fun _ => True) (fun _ => zw G (XS 2) 105 a s9.1 s9.2)) A) [.ref (a 5), .int p1].toArray s 0 0 A) (F0 m 50 ls []) := by
      intro g L H locs ls h hP hD hS hl
      unfold fX6_readAnd_5_p50 at h
      exact y_vret C hr hlk hP hD hS h (Nat.le_of_ble_eq_true rfl) (Nat.le_of_ble_eq_true rfl) dX6_readAnd_50
    refine lv_icmp_ge (x := v2) (y := 700) (tgt := 50) hx hb dX6_readAnd_11 (by decide) (fun c5 => ?_) (fun c5 => ?_)
    ·
      have h := ite_t c5 h
      exact J50 g L H locs ls h hP hD hS (lv_sub hl [] rfl)
    ·
      have h := ite_e c5 h
      refine lv_aload_n hx hb dX6_readAnd_14 rfl (lv_at hl 0 rfl) ?_
      refine y_ldcS (i := 10) C (by decide) rfl dX6_readAnd_15 ?_
      obtain ⟨z_, g7, L8, hf9, h⟩ := cb_some h
      refine x_callVi (rest := []) li_X6_92 C (rX6_isWord_5_and l G H.size a fu g L z_ (g7, L8) hf9) (kR rfl) hP hD hS 5 6 rfl (zat (by decide) xs_5) rfl hl.1 rfl (Nat.le_of_ble_eq_true rfl) dX6_readAnd_17 (fun x6 u_ H locs e_ hP hD hS => ?_)
      have e_ : x6 = z_ := e_
      subst e_
      have hP : va_P G.1 vwCl (zw G (XS 2) 105 a g7 L8) H := hP
      have hD : va_D A (zw G (XS 2) 105 a g7 L8) := hD
      refine lv_if_eq (x := x6) (tgt := 50) hx hb dX6_readAnd_20 (by decide) (fun c10 => ?_) (fun c10 => ?_)
      ·
        have h := ite_t c10 h
        exact J50 g7 L8 H locs ls h hP hD hS (lv_sub hl [] rfl)
      ·
        have h := ite_e c10 h
        refine lv_aload_n hx hb dX6_readAnd_23 rfl (lv_at hl 0 rfl) ?_
        obtain ⟨z_, g12, L13, hf14, h⟩ := cb_some h
        refine x_callVv (rest := []) li_X6_53 C (rX6_advance_5 l G H.size a fu g7 L8 z_ (g12, L13) hf14) (kR rfl) hP hD hS 5 6 rfl (zat (by decide) xs_5) rfl hl.1 rfl (Nat.le_of_ble_eq_true rfl) dX6_readAnd_24 (fun u_ H locs e_ hP hD hS => ?_)
        have hP : va_P G.1 vwCl (zw G (XS 2) 105 a g12 L13) H := hP
        have hD : va_D A (zw G (XS 2) 105 a g12 L13) := hD
        refine lv_aload_n hx hb dX6_readAnd_27 rfl (lv_at hl 0 rfl) ?_
        refine lv_iload_n hx hb dX6_readAnd_28 rfl (lv_at hl 1 rfl) ?_
        obtain ⟨z_, g16, L17, hf18, h⟩ := cb_some h
        refine x_callVv (rest := []) li_X6_214 C (rX6_readNot_5_L5 l G H.size a fu g12 L13 v1 z_ (g16, L17) hf18) (kR rfl) hP hD hS 5 6 rfl (zat (by decide) xs_5) rfl hl.1 rfl (Nat.le_of_ble_eq_true rfl) dX6_readAnd_29 (fun u_ H locs e_ hP hD hS => ?_)
        have hP : va_P G.1 vwCl (zw G (XS 2) 105 a g16 L17) H := hP
        have hD : va_D A (zw G (XS 2) 105 a g16 L17) := hD
        refine lv_aload_n hx hb dX6_readAnd_32 rfl (lv_at hl 0 rfl) ?_
        refine x_getr (Or.inl fl_X6_15) C hP (by decide) xs_5 rfl dX6_readAnd_33 ?_
        refine x_getr (Or.inr fl_X6_125) C hP (by decide) xs_2 rfl dX6_readAnd_36 ?_
        refine lv_bipush (v := -13) hx hb dX6_readAnd_39 (by decide) ?_
        obtain ⟨z_, g20, L21, hf22, h⟩ := cb_some h
        refine x_callNv (rest := []) li_X6_211 C (rX8_add_4 l G H.size 2 a fu g16 L17 (-13) z_ (g20, L21) hf22) (kR rfl) hP hD hS 4 8 rfl (zat (by decide) xs_4) rfl hl.1 rfl (Nat.le_of_ble_eq_true rfl) dX6_readAnd_41 (fun u_ H locs e_ hP hD hS => ?_)
        have hP : va_P G.1 vwCl (zw G (XS 2) 105 a g20 L21) H := hP
        have hD : va_D A (zw G (XS 2) 105 a g20 L21) := hD
        refine lv_iinc (v := (v2 + 1)) (lv' := [(2, .int (v2 + 1)), (0, .ref (a 5)), (1, .int v1)]) hx hb dX6_readAnd_44 hl (k := 2) rfl rfl (by decide) rfl (fun ls hl => ?_)
        refine lv_goto (tgt := 7) hx hb dX6_readAnd_47 (by decide) ?_
        exact ih7 ((v2 + 1), g20, L21) h H locs ls hP hD hS (lv_sub hl [1, 2, 0] rfl)
  exact lp7 p1 fu (0, g2, L3) h H locs ls hP hD hS (lv_sub hl [1, 2, 0] rfl)
set_option maxHeartbeats 4000000 in
set_option maxRecDepth 100000 in
theorem rX6_readExpr_5_L5 (l : Launch) (G : kG) (sz : Nat) (a : Nat → Nat) (fu : Nat) (g : Nat → Nat → Int32) (L : Nat → Nat → Int64) (p1 : Int32) (res : Unit) (s9 : zS) (h : fX6_readExpr_5 fu 5 p1 g L = some (res, s9)) : kM l yX6_readExpr cX6_readExpr 3 none { frames := 46, cells := 0, slots := 0, locals := 995 } G [.ref (a 5), .int p1] (zw G (XS 2) 105 a g L) sz (kQv G (S := Unit) (fun _ => True) (fun _ => zw G (XS 2) 105 a s9.1 s9.2)) := by
  refine kM.of (by decide) (Nat.le_of_ble_eq_true rfl) ?_
  intro p e s m below meth c A ls H C hr hlk hnm hP hD hS hl
  have C : kC G p s m c cX6_readExpr 3 RX6 A := C
  have hx := C.1
  have hb := C.2.1
  have hl : lv_has ls 3 [(0, .ref (a 5)), (1, .int p1)] := hl
  obtain ⟨locs, hlocs⟩ : ∃ q : List Loc, q = [] := ⟨_, rfl⟩
  rw [← hlocs] at hS
  rw [← hlocs]
  rw [fX6_readExpr_5_succ] at h
  unfold fX6_readExpr_5B at h
  refine lv_iload_n hx hb dX6_readExpr_0 rfl (lv_at hl 1 rfl) ?_
  refine lv_iconst (v := 5) hx hb dX6_readExpr_1 (by decide) ?_
  have J35 : ∀ (v1 : Int32) (g : Nat → Nat → Int32) (L : Nat → Nat → Int64) (H : Heap) (locs : List Loc) (ls : Array Slot), fX6_readExpr_5_p35 fu (fX6_readExpr_5 fu 4) v1 g L = some (res, s9) → va_P G.1 vwCl (zw G (XS 2) 105 a g L) H → va_D A (zw G (XS 2) 105 a g L) → va_S A s.heap H locs → lv_has ls 3 [(0, .ref (a 5)), (1, .int v1)] → W p l e { frames := 46, cells := 0, slots := 0, locals := 995 } s m [.ref (a 5), .int p1].toArray below meth c H locs 0 0 (MQ below ((kQv G (S := Unit) (fun _ => True) (fun _ => zw G (XS 2) 105 a s9.1 s9.2)) A) [.ref (a 5), .int p1].toArray s 0 0 A) (F0 m 35 ls []) := by
    intro v1 g L H locs ls h hP hD hS hl
    unfold fX6_readExpr_5_p35 at h
    refine lv_aload_n hx hb dX6_readExpr_35 rfl (lv_at hl 0 rfl) ?_
    refine lv_iload_n hx hb dX6_readExpr_36 rfl (lv_at hl 1 rfl) ?_
    obtain ⟨z_, g2, L3, hf4, h⟩ := cb_some h
    refine x_callVv (rest := []) li_X6_206 C (rX6_readAnd_5_L5 l G H.size a fu g L v1 z_ (g2, L3) hf4) (kR rfl) hP hD hS 5 6 rfl (zat (by decide) xs_5) rfl hl.1 rfl (Nat.le_of_ble_eq_true rfl) dX6_readExpr_37 (fun u_ H locs e_ hP hD hS => ?_)
    have hP : va_P G.1 vwCl (zw G (XS 2) 105 a g2 L3) H := hP
    have hD : va_D A (zw G (XS 2) 105 a g2 L3) := hD
    refine lv_iconst (v := 0) hx hb dX6_readExpr_40 (by decide) ?_
    refine lv_istore_n (lv' := [(2, .int 0), (0, .ref (a 5)), (1, .int v1)]) hx hb dX6_readExpr_41 rfl hl (by decide) rfl (fun ls hl => ?_)
    have lp42 : ∀ (v1 : Int32), ∀ (n : Nat) (v : Int32 × (Nat → Nat → Int32) × (Nat → Nat → Int64)), whileK (fun k v => fX6_readExpr_5_s42 fu (fX6_readExpr_5 fu 4) v1 k v.1 v.2.1 v.2.2) n v = some (res, s9) → ∀ (H : Heap) (locs : List Loc) (ls : Array Slot), va_P G.1 vwCl (zw G (XS 2) 105 a (v.2.1) (v.2.2)) H → va_D A (zw G (XS 2) 105 a (v.2.1) (v.2.2)) → va_S A s.heap H locs → lv_has ls 3 [(0, .ref (a 5)), (1, .int v1), (2, .int (v.1))] → W p l e { frames := 46, cells := 0, slots := 0, locals := 995 } s m [.ref (a 5), .int p1].toArray below meth c H locs 0 0 (MQ below ((kQv G (S := Unit) (fun _ => True) (fun _ => zw G (XS 2) 105 a s9.1 s9.2)) A) [.ref (a 5), .int p1].toArray s 0 0 A) (F0 m 42 ls []) := by
      intro v1
      refine while_ind (fun k42 ih42 v h => ?_)
      obtain ⟨v2, g, L⟩ := v
      intro H locs ls hP hD hS hl
      have h : fX6_readExpr_5_s42 fu (fX6_readExpr_5 fu 4) v1 k42 v2 g L = some (res, s9) := h
      have hP : va_P G.1 vwCl (zw G (XS 2) 105 a g L) H := hP
      have hD : va_D A (zw G (XS 2) 105 a g L) := hD
      have hl : lv_has ls 3 [(0, .ref (a 5)), (1, .int v1), (2, .int v2)] := hl
      show W p l e { frames := 46, cells := 0, slots := 0, locals := 995 } s m [.ref (a 5), .int p1].toArray below meth c H locs 0 0 (MQ below ((kQv G (S := Unit) (fun _ => True) (fun _ => zw G (XS 2) 105 a s9.1 s9.2)) A) [.ref (a 5), .int p1].toArray s 0 0 A) (F0 m 42 ls [])
      unfold fX6_readExpr_5_s42 at h
      refine lv_iload_n hx hb dX6_readExpr_42 rfl (lv_at hl 2 rfl) ?_
      refine lv_sipush (v := 700) hx hb dX6_readExpr_43 (by decide) ?_
      have J85 : ∀ (g : Nat → Nat → Int32) (L : Nat → Nat → Int64) (H : Heap) (locs : List Loc) (ls : Array Slot), fX6_readExpr_5_p85 fu (fX6_readExpr_5 fu 4) g L = some (res, s9) → va_P G.1 vwCl (zw G (XS 2) 105 a g L) H → va_D A (zw G (XS 2) 105 a g L) → va_S A s.heap H locs → lv_has ls 3 [] → W p l e { frames := 46, cells := 0, slots := 0, locals := 995 } s m [.ref (a 5), .int p1].toArray below meth c H locs 0 0 (MQ below ((kQv G (S := Unit) (fun _ => True) (fun _ => zw G (XS 2) 105 a s9.1 s9.2)) A) [.ref (a 5), .int p1].toArray s 0 0 A) (F0 m 85 ls []) := by
        intro g L H locs ls h hP hD hS hl
        unfold fX6_readExpr_5_p85 at h
        exact y_vret C hr hlk hP hD hS h (Nat.le_of_ble_eq_true rfl) (Nat.le_of_ble_eq_true rfl) dX6_readExpr_85
      refine lv_icmp_ge (x := v2) (y := 700) (tgt := 85) hx hb dX6_readExpr_46 (by decide) (fun c5 => ?_) (fun c5 => ?_)
      ·
        have h := ite_t c5 h
        exact J85 g L H locs ls h hP hD hS (lv_sub hl [] rfl)
      ·
        have h := ite_e c5 h
        refine lv_aload_n hx hb dX6_readExpr_49 rfl (lv_at hl 0 rfl) ?_
        refine y_ldcS (i := 9) C (by decide) rfl dX6_readExpr_50 ?_
        obtain ⟨z_, g7, L8, hf9, h⟩ := cb_some h
        refine x_callVi (rest := []) li_X6_92 C (rX6_isWord_5_or l G H.size a fu g L z_ (g7, L8) hf9) (kR rfl) hP hD hS 5 6 rfl (zat (by decide) xs_5) rfl hl.1 rfl (Nat.le_of_ble_eq_true rfl) dX6_readExpr_52 (fun x6 u_ H locs e_ hP hD hS => ?_)
        have e_ : x6 = z_ := e_
        subst e_
        have hP : va_P G.1 vwCl (zw G (XS 2) 105 a g7 L8) H := hP
        have hD : va_D A (zw G (XS 2) 105 a g7 L8) := hD
        refine lv_if_eq (x := x6) (tgt := 85) hx hb dX6_readExpr_55 (by decide) (fun c10 => ?_) (fun c10 => ?_)
        ·
          have h := ite_t c10 h
          exact J85 g7 L8 H locs ls h hP hD hS (lv_sub hl [] rfl)
        ·
          have h := ite_e c10 h
          refine lv_aload_n hx hb dX6_readExpr_58 rfl (lv_at hl 0 rfl) ?_
          obtain ⟨z_, g12, L13, hf14, h⟩ := cb_some h
          refine x_callVv (rest := []) li_X6_53 C (rX6_advance_5 l G H.size a fu g7 L8 z_ (g12, L13) hf14) (kR rfl) hP hD hS 5 6 rfl (zat (by decide) xs_5) rfl hl.1 rfl (Nat.le_of_ble_eq_true rfl) dX6_readExpr_59 (fun u_ H locs e_ hP hD hS => ?_)
          have hP : va_P G.1 vwCl (zw G (XS 2) 105 a g12 L13) H := hP
          have hD : va_D A (zw G (XS 2) 105 a g12 L13) := hD
          refine lv_aload_n hx hb dX6_readExpr_62 rfl (lv_at hl 0 rfl) ?_
          refine lv_iload_n hx hb dX6_readExpr_63 rfl (lv_at hl 1 rfl) ?_
          obtain ⟨z_, g16, L17, hf18, h⟩ := cb_some h
          refine x_callVv (rest := []) li_X6_206 C (rX6_readAnd_5_L5 l G H.size a fu g12 L13 v1 z_ (g16, L17) hf18) (kR rfl) hP hD hS 5 6 rfl (zat (by decide) xs_5) rfl hl.1 rfl (Nat.le_of_ble_eq_true rfl) dX6_readExpr_64 (fun u_ H locs e_ hP hD hS => ?_)
          have hP : va_P G.1 vwCl (zw G (XS 2) 105 a g16 L17) H := hP
          have hD : va_D A (zw G (XS 2) 105 a g16 L17) := hD
          refine lv_aload_n hx hb dX6_readExpr_67 rfl (lv_at hl 0 rfl) ?_
          refine x_getr (Or.inl fl_X6_15) C hP (by decide) xs_5 rfl dX6_readExpr_68 ?_
          refine x_getr (Or.inr fl_X6_125) C hP (by decide) xs_2 rfl dX6_readExpr_71 ?_
          refine lv_bipush (v := -14) hx hb dX6_readExpr_74 (by decide) ?_
          obtain ⟨z_, g20, L21, hf22, h⟩ := cb_some h
          refine x_callNv (rest := []) li_X6_211 C (rX8_add_4 l G H.size 2 a fu g16 L17 (-14) z_ (g20, L21) hf22) (kR rfl) hP hD hS 4 8 rfl (zat (by decide) xs_4) rfl hl.1 rfl (Nat.le_of_ble_eq_true rfl) dX6_readExpr_76 (fun u_ H locs e_ hP hD hS => ?_)
          have hP : va_P G.1 vwCl (zw G (XS 2) 105 a g20 L21) H := hP
          have hD : va_D A (zw G (XS 2) 105 a g20 L21) := hD
          refine lv_iinc (v := (v2 + 1)) (lv' := [(2, .int (v2 + 1)), (0, .ref (a 5)), (1, .int v1)]) hx hb dX6_readExpr_79 hl (k := 2) rfl rfl (by decide) rfl (fun ls hl => ?_)
          refine lv_goto (tgt := 42) hx hb dX6_readExpr_82 (by decide) ?_
          exact ih42 ((v2 + 1), g20, L21) h H locs ls hP hD hS (lv_sub hl [1, 2, 0] rfl)
    exact lp42 v1 fu (0, g2, L3) h H locs ls hP hD hS (lv_sub hl [1, 2, 0] rfl)
  refine lv_icmp_le (x := p1) (y := 5) (tgt := 35) hx hb dX6_readExpr_2 (by decide) (fun c23 => ?_) (fun c23 => ?_)
  ·
    have h := ite_t c23 h
    exact J35 p1 g L H locs ls h hP hD hS (lv_sub hl [0, 1] rfl)
  ·
    have h := ite_e c23 h
    refine lv_aload_n hx hb dX6_readExpr_5 rfl (lv_at hl 0 rfl) ?_
    refine x_getv (v := .int (g 5 4)) (Or.inl fl_X6_50) C hP (by decide) xs_5 rfl dX6_readExpr_6 ?_
    refine lv_iconst (v := 1) hx hb dX6_readExpr_9 (by decide) ?_
    have J30 : ∀ (v1 : Int32) (g : Nat → Nat → Int32) (L : Nat → Nat → Int64) (H : Heap) (locs : List Loc) (ls : Array Slot), fX6_readExpr_5_p30 fu (fX6_readExpr_5 fu 4) v1 g L = some (res, s9) → va_P G.1 vwCl (zw G (XS 2) 105 a g L) H → va_D A (zw G (XS 2) 105 a g L) → va_S A s.heap H locs → lv_has ls 3 [(0, .ref (a 5)), (1, .int v1)] → W p l e { frames := 46, cells := 0, slots := 0, locals := 995 } s m [.ref (a 5), .int p1].toArray below meth c H locs 0 0 (MQ below ((kQv G (S := Unit) (fun _ => True) (fun _ => zw G (XS 2) 105 a s9.1 s9.2)) A) [.ref (a 5), .int p1].toArray s 0 0 A) (F0 m 30 ls []) := by
      intro v1 g L H locs ls h hP hD hS hl
      unfold fX6_readExpr_5_p30 at h
      refine lv_aload_n hx hb dX6_readExpr_30 rfl (lv_at hl 0 rfl) ?_
      refine lv_iconst (v := 2) hx hb dX6_readExpr_31 (by decide) ?_
      obtain ⟨z_, g25, L26, hf27, h⟩ := cb_some h
      refine x_callVv (rest := []) li_X6_78 C (rX6_refuse_5 l G H.size a fu g L 2 z_ (g25, L26) hf27) (kR rfl) hP hD hS 5 6 rfl (zat (by decide) xs_5) rfl hl.1 rfl (Nat.le_of_ble_eq_true rfl) dX6_readExpr_32 (fun u_ H locs e_ hP hD hS => ?_)
      have hP : va_P G.1 vwCl (zw G (XS 2) 105 a g25 L26) H := hP
      have hD : va_D A (zw G (XS 2) 105 a g25 L26) := hD
      exact J35 v1 g25 L26 H locs ls h hP hD hS (lv_sub hl [0, 1] rfl)
    refine lv_icmp_eq (x := (g 5 4)) (y := 1) (tgt := 30) hx hb dX6_readExpr_10 (by decide) (fun c28 => ?_) (fun c28 => ?_)
    ·
      have h := ite_t c28 h
      exact J30 p1 g L H locs ls h hP hD hS (lv_sub hl [0, 1] rfl)
    ·
      have h := ite_e c28 h
      refine lv_aload_n hx hb dX6_readExpr_13 rfl (lv_at hl 0 rfl) ?_
      refine x_getv (v := .int (g 5 4)) (Or.inl fl_X6_50) C hP (by decide) xs_5 rfl dX6_readExpr_14 ?_
      refine lv_iconst (v := 2) hx hb dX6_readExpr_17 (by decide) ?_
      refine lv_icmp_eq (x := (g 5 4)) (y := 2) (tgt := 30) hx hb dX6_readExpr_18 (by decide) (fun c29 => ?_) (fun c29 => ?_)
      ·
        have h := ite_t c29 h
        exact J30 p1 g L H locs ls h hP hD hS (lv_sub hl [0, 1] rfl)
      ·
        have h := ite_e c29 h
        refine lv_aload_n hx hb dX6_readExpr_21 rfl (lv_at hl 0 rfl) ?_
        refine lv_bipush (v := 40) hx hb dX6_readExpr_22 (by decide) ?_
        obtain ⟨z_, g31, L32, hf33, h⟩ := cb_some h
        refine x_callVi (rest := []) li_X6_86 C (rX6_isSignNow_5 l G H.size a fu g L 40 z_ (g31, L32) hf33) (kR rfl) hP hD hS 5 6 rfl (zat (by decide) xs_5) rfl hl.1 rfl (Nat.le_of_ble_eq_true rfl) dX6_readExpr_24 (fun x30 u_ H locs e_ hP hD hS => ?_)
        have e_ : x30 = z_ := e_
        subst e_
        have hP : va_P G.1 vwCl (zw G (XS 2) 105 a g31 L32) H := hP
        have hD : va_D A (zw G (XS 2) 105 a g31 L32) := hD
        refine lv_if_eq (x := x30) (tgt := 35) hx hb dX6_readExpr_27 (by decide) (fun c34 => ?_) (fun c34 => ?_)
        ·
          have h := ite_t c34 h
          exact J35 p1 g31 L32 H locs ls h hP hD hS (lv_sub hl [0, 1] rfl)
        ·
          have h := ite_e c34 h
          exact J30 p1 g31 L32 H locs ls h hP hD hS (lv_sub hl [0, 1] rfl)
set_option maxHeartbeats 4000000 in
set_option maxRecDepth 100000 in
theorem rX6_readPart_5_L6 (l : Launch) (G : kG) (sz : Nat) (a : Nat → Nat) (fu : Nat) (g : Nat → Nat → Int32) (L : Nat → Nat → Int64) (p1 : Int32) (res : Unit) (s9 : zS) (h : fX6_readPart_5 fu (fX6_readExpr_5 fu 5) p1 g L = some (res, s9)) : kM l yX6_readPart cX6_readPart 3 none { frames := 47, cells := 0, slots := 0, locals := 1017 } G [.ref (a 5), .int p1] (zw G (XS 2) 105 a g L) sz (kQv G (S := Unit) (fun _ => True) (fun _ => zw G (XS 2) 105 a s9.1 s9.2)) := by
  refine kM.of (by decide) (Nat.le_of_ble_eq_true rfl) ?_
  intro p e s m below meth c A ls H C hr hlk hnm hP hD hS hl
  have C : kC G p s m c cX6_readPart 3 RX6 A := C
  have hx := C.1
  have hb := C.2.1
  have hl : lv_has ls 3 [(0, .ref (a 5)), (1, .int p1)] := hl
  obtain ⟨locs, hlocs⟩ : ∃ q : List Loc, q = [] := ⟨_, rfl⟩
  rw [← hlocs] at hS
  rw [← hlocs]
  unfold fX6_readPart_5 at h
  refine lv_aload_n hx hb dX6_readPart_0 rfl (lv_at hl 0 rfl) ?_
  refine x_getv (v := .int (g 5 4)) (Or.inl fl_X6_50) C hP (by decide) xs_5 rfl dX6_readPart_1 ?_
  refine lv_iconst (v := 1) hx hb dX6_readPart_4 (by decide) ?_
  have J111 : ∀ (g : Nat → Nat → Int32) (L : Nat → Nat → Int64) (H : Heap) (locs : List Loc) (ls : Array Slot), fX6_readPart_5_p111 fu (fX6_readExpr_5 fu 5) g L = some (res, s9) → va_P G.1 vwCl (zw G (XS 2) 105 a g L) H → va_D A (zw G (XS 2) 105 a g L) → va_S A s.heap H locs → lv_has ls 3 [] → W p l e { frames := 47, cells := 0, slots := 0, locals := 1017 } s m [.ref (a 5), .int p1].toArray below meth c H locs 0 0 (MQ below ((kQv G (S := Unit) (fun _ => True) (fun _ => zw G (XS 2) 105 a s9.1 s9.2)) A) [.ref (a 5), .int p1].toArray s 0 0 A) (F0 m 111 ls []) := by
    intro g L H locs ls h hP hD hS hl
    unfold fX6_readPart_5_p111 at h
    exact y_vret C hr hlk hP hD hS h (Nat.le_of_ble_eq_true rfl) (Nat.le_of_ble_eq_true rfl) dX6_readPart_111
  refine lv_icmp_ne (x := (g 5 4)) (y := 1) (tgt := 29) hx hb dX6_readPart_5 (by decide) (fun c1 => ?_) (fun c1 => ?_)
  ·
    have h := ite_e c1 h
    refine lv_aload_n hx hb dX6_readPart_29 rfl (lv_at hl 0 rfl) ?_
    refine x_getv (v := .int (g 5 4)) (Or.inl fl_X6_50) C hP (by decide) xs_5 rfl dX6_readPart_30 ?_
    refine lv_iconst (v := 2) hx hb dX6_readPart_33 (by decide) ?_
    refine lv_icmp_ne (x := (g 5 4)) (y := 2) (tgt := 72) hx hb dX6_readPart_34 (by decide) (fun c2 => ?_) (fun c2 => ?_)
    ·
      have h := ite_e c2 h
      refine lv_aload_n hx hb dX6_readPart_72 rfl (lv_at hl 0 rfl) ?_
      refine lv_bipush (v := 40) hx hb dX6_readPart_73 (by decide) ?_
      obtain ⟨z_, g4, L5, hf6, h⟩ := cb_some h
      refine x_callVi (rest := []) li_X6_86 C (rX6_isSignNow_5 l G H.size a fu g L 40 z_ (g4, L5) hf6) (kR rfl) hP hD hS 5 6 rfl (zat (by decide) xs_5) rfl hl.1 rfl (Nat.le_of_ble_eq_true rfl) dX6_readPart_75 (fun x3 u_ H locs e_ hP hD hS => ?_)
      have e_ : x3 = z_ := e_
      subst e_
      have hP : va_P G.1 vwCl (zw G (XS 2) 105 a g4 L5) H := hP
      have hD : va_D A (zw G (XS 2) 105 a g4 L5) := hD
      have J106 : ∀ (g : Nat → Nat → Int32) (L : Nat → Nat → Int64) (H : Heap) (locs : List Loc) (ls : Array Slot), fX6_readPart_5_p106 fu (fX6_readExpr_5 fu 5) g L = some (res, s9) → va_P G.1 vwCl (zw G (XS 2) 105 a g L) H → va_D A (zw G (XS 2) 105 a g L) → va_S A s.heap H locs → lv_has ls 3 [(0, .ref (a 5))] → W p l e { frames := 47, cells := 0, slots := 0, locals := 1017 } s m [.ref (a 5), .int p1].toArray below meth c H locs 0 0 (MQ below ((kQv G (S := Unit) (fun _ => True) (fun _ => zw G (XS 2) 105 a s9.1 s9.2)) A) [.ref (a 5), .int p1].toArray s 0 0 A) (F0 m 106 ls []) := by
        intro g L H locs ls h hP hD hS hl
        unfold fX6_readPart_5_p106 at h
        refine lv_aload_n hx hb dX6_readPart_106 rfl (lv_at hl 0 rfl) ?_
        refine lv_iconst (v := 1) hx hb dX6_readPart_107 (by decide) ?_
        obtain ⟨z_, g8, L9, hf10, h⟩ := cb_some h
        refine x_callVv (rest := []) li_X6_78 C (rX6_refuse_5 l G H.size a fu g L 1 z_ (g8, L9) hf10) (kR rfl) hP hD hS 5 6 rfl (zat (by decide) xs_5) rfl hl.1 rfl (Nat.le_of_ble_eq_true rfl) dX6_readPart_108 (fun u_ H locs e_ hP hD hS => ?_)
        have hP : va_P G.1 vwCl (zw G (XS 2) 105 a g8 L9) H := hP
        have hD : va_D A (zw G (XS 2) 105 a g8 L9) := hD
        exact J111 g8 L9 H locs ls h hP hD hS (lv_sub hl [] rfl)
      refine lv_if_eq (x := x3) (tgt := 106) hx hb dX6_readPart_78 (by decide) (fun c11 => ?_) (fun c11 => ?_)
      ·
        have h := ite_t c11 h
        exact J106 g4 L5 H locs ls h hP hD hS (lv_sub hl [0] rfl)
      ·
        have h := ite_e c11 h
        refine lv_iload_n hx hb dX6_readPart_81 rfl (lv_at hl 1 rfl) ?_
        refine lv_iconst (v := 5) hx hb dX6_readPart_82 (by decide) ?_
        refine lv_icmp_gt (x := p1) (y := 5) (tgt := 106) hx hb dX6_readPart_83 (by decide) (fun c12 => ?_) (fun c12 => ?_)
        ·
          have h := ite_t c12 h
          exact J106 g4 L5 H locs ls h hP hD hS (lv_sub hl [0] rfl)
        ·
          have h := ite_e c12 h
          refine lv_aload_n hx hb dX6_readPart_86 rfl (lv_at hl 0 rfl) ?_
          obtain ⟨z_, g14, L15, hf16, h⟩ := cb_some h
          refine x_callVv (rest := []) li_X6_53 C (rX6_advance_5 l G H.size a fu g4 L5 z_ (g14, L15) hf16) (kR rfl) hP hD hS 5 6 rfl (zat (by decide) xs_5) rfl hl.1 rfl (Nat.le_of_ble_eq_true rfl) dX6_readPart_87 (fun u_ H locs e_ hP hD hS => ?_)
          have hP : va_P G.1 vwCl (zw G (XS 2) 105 a g14 L15) H := hP
          have hD : va_D A (zw G (XS 2) 105 a g14 L15) := hD
          refine lv_aload_n hx hb dX6_readPart_90 rfl (lv_at hl 0 rfl) ?_
          refine lv_iload_n hx hb dX6_readPart_91 rfl (lv_at hl 1 rfl) ?_
          refine lv_iconst (v := 1) hx hb dX6_readPart_92 (by decide) ?_
          refine lv_iadd hx hb dX6_readPart_93 ?_
          obtain ⟨z_, g18, L19, hf20, h⟩ := cb_some h
          refine x_callVv (rest := []) li_X6_134 C (rX6_readExpr_5_L5 l G H.size a fu g14 L15 (p1 + 1) z_ (g18, L19) hf20) (kR rfl) hP hD hS 5 6 rfl (zat (by decide) xs_5) rfl hl.1 rfl (Nat.le_of_ble_eq_true rfl) dX6_readPart_94 (fun u_ H locs e_ hP hD hS => ?_)
          have hP : va_P G.1 vwCl (zw G (XS 2) 105 a g18 L19) H := hP
          have hD : va_D A (zw G (XS 2) 105 a g18 L19) := hD
          refine lv_aload_n hx hb dX6_readPart_97 rfl (lv_at hl 0 rfl) ?_
          refine lv_bipush (v := 41) hx hb dX6_readPart_98 (by decide) ?_
          obtain ⟨z_, g22, L23, hf24, h⟩ := cb_some h
          refine x_callVv (rest := []) li_X6_114 C (rX6_readSign_5 l G H.size a fu g18 L19 41 z_ (g22, L23) hf24) (kR rfl) hP hD hS 5 6 rfl (zat (by decide) xs_5) rfl hl.1 rfl (Nat.le_of_ble_eq_true rfl) dX6_readPart_100 (fun u_ H locs e_ hP hD hS => ?_)
          have hP : va_P G.1 vwCl (zw G (XS 2) 105 a g22 L23) H := hP
          have hD : va_D A (zw G (XS 2) 105 a g22 L23) := hD
          refine lv_goto (tgt := 111) hx hb dX6_readPart_103 (by decide) ?_
          exact J111 g22 L23 H locs ls h hP hD hS (lv_sub hl [] rfl)
    ·
      have h := ite_t c2 h
      refine lv_aload_n hx hb dX6_readPart_37 rfl (lv_at hl 0 rfl) ?_
      obtain ⟨z_, g26, L27, hf28, h⟩ := cb_some h
      refine x_callVi (rest := []) li_X6_233 C (rX6_valueNow_5 l G H.size a fu g L z_ (g26, L27) hf28) (kR rfl) hP hD hS 5 6 rfl (zat (by decide) xs_5) rfl hl.1 rfl (Nat.le_of_ble_eq_true rfl) dX6_readPart_38 (fun x25 u_ H locs e_ hP hD hS => ?_)
      have e_ : x25 = z_ := e_
      subst e_
      have hP : va_P G.1 vwCl (zw G (XS 2) 105 a g26 L27) H := hP
      have hD : va_D A (zw G (XS 2) 105 a g26 L27) := hD
      refine lv_istore_n (lv' := [(2, .int x25), (0, .ref (a 5)), (1, .int p1)]) hx hb dX6_readPart_41 rfl hl (by decide) rfl (fun ls hl => ?_)
      refine lv_iload_n hx hb dX6_readPart_42 rfl (lv_at hl 0 rfl) ?_
      refine lv_iconst (v := -1) hx hb dX6_readPart_43 (by decide) ?_
      have J52 : ∀ (v2 : Int32) (g : Nat → Nat → Int32) (L : Nat → Nat → Int64) (H : Heap) (locs : List Loc) (ls : Array Slot), fX6_readPart_5_p52 fu (fX6_readExpr_5 fu 5) v2 g L = some (res, s9) → va_P G.1 vwCl (zw G (XS 2) 105 a g L) H → va_D A (zw G (XS 2) 105 a g L) → va_S A s.heap H locs → lv_has ls 3 [(0, .ref (a 5)), (2, .int v2)] → W p l e { frames := 47, cells := 0, slots := 0, locals := 1017 } s m [.ref (a 5), .int p1].toArray below meth c H locs 0 0 (MQ below ((kQv G (S := Unit) (fun _ => True) (fun _ => zw G (XS 2) 105 a s9.1 s9.2)) A) [.ref (a 5), .int p1].toArray s 0 0 A) (F0 m 52 ls []) := by
        intro v2 g L H locs ls h hP hD hS hl
        unfold fX6_readPart_5_p52 at h
        refine lv_aload_n hx hb dX6_readPart_52 rfl (lv_at hl 0 rfl) ?_
        refine x_getr (Or.inl fl_X6_15) C hP (by decide) xs_5 rfl dX6_readPart_53 ?_
        refine x_getr (Or.inr fl_X6_125) C hP (by decide) xs_2 rfl dX6_readPart_56 ?_
        refine lv_iconst (v := -1) hx hb dX6_readPart_59 (by decide) ?_
        refine lv_iload_n hx hb dX6_readPart_60 rfl (lv_at hl 1 rfl) ?_
        refine lv_isub hx hb dX6_readPart_61 ?_
        obtain ⟨z_, g30, L31, hf32, h⟩ := cb_some h
        refine x_callNv (rest := []) li_X6_211 C (rX8_add_4 l G H.size 2 a fu g L ((-1) - v2) z_ (g30, L31) hf32) (kR rfl) hP hD hS 4 8 rfl (zat (by decide) xs_4) rfl hl.1 rfl (Nat.le_of_ble_eq_true rfl) dX6_readPart_62 (fun u_ H locs e_ hP hD hS => ?_)
        have hP : va_P G.1 vwCl (zw G (XS 2) 105 a g30 L31) H := hP
        have hD : va_D A (zw G (XS 2) 105 a g30 L31) := hD
        refine lv_aload_n hx hb dX6_readPart_65 rfl (lv_at hl 0 rfl) ?_
        obtain ⟨z_, g34, L35, hf36, h⟩ := cb_some h
        refine x_callVv (rest := []) li_X6_53 C (rX6_advance_5 l G H.size a fu g30 L31 z_ (g34, L35) hf36) (kR rfl) hP hD hS 5 6 rfl (zat (by decide) xs_5) rfl hl.1 rfl (Nat.le_of_ble_eq_true rfl) dX6_readPart_66 (fun u_ H locs e_ hP hD hS => ?_)
        have hP : va_P G.1 vwCl (zw G (XS 2) 105 a g34 L35) H := hP
        have hD : va_D A (zw G (XS 2) 105 a g34 L35) := hD
        refine lv_goto (tgt := 111) hx hb dX6_readPart_69 (by decide) ?_
        exact J111 g34 L35 H locs ls h hP hD hS (lv_sub hl [] rfl)
      refine lv_icmp_ne (x := x25) (y := (-1)) (tgt := 52) hx hb dX6_readPart_44 (by decide) (fun c37 => ?_) (fun c37 => ?_)
      ·
        have h := ite_e c37 h
        exact J52 x25 g26 L27 H locs ls h hP hD hS (lv_sub hl [1, 0] rfl)
      ·
        have h := ite_t c37 h
        refine lv_aload_n hx hb dX6_readPart_47 rfl (lv_at hl 1 rfl) ?_
        refine lv_iconst (v := 3) hx hb dX6_readPart_48 (by decide) ?_
        obtain ⟨z_, g39, L40, hf41, h⟩ := cb_some h
        refine x_callVv (rest := []) li_X6_78 C (rX6_refuse_5 l G H.size a fu g26 L27 3 z_ (g39, L40) hf41) (kR rfl) hP hD hS 5 6 rfl (zat (by decide) xs_5) rfl hl.1 rfl (Nat.le_of_ble_eq_true rfl) dX6_readPart_49 (fun u_ H locs e_ hP hD hS => ?_)
        have hP : va_P G.1 vwCl (zw G (XS 2) 105 a g39 L40) H := hP
        have hD : va_D A (zw G (XS 2) 105 a g39 L40) := hD
        exact J52 x25 g39 L40 H locs ls h hP hD hS (lv_sub hl [1, 0] rfl)
  ·
    have h := ite_t c1 h
    refine lv_aload_n hx hb dX6_readPart_8 rfl (lv_at hl 0 rfl) ?_
    refine x_getr (Or.inl fl_X6_15) C hP (by decide) xs_5 rfl dX6_readPart_9 ?_
    refine x_getr (Or.inr fl_X6_125) C hP (by decide) xs_2 rfl dX6_readPart_12 ?_
    refine lv_aload_n hx hb dX6_readPart_15 rfl (lv_at hl 0 rfl) ?_
    refine lv_iconst (v := 0) hx hb dX6_readPart_16 (by decide) ?_
    refine lv_sipush (v := 9999) hx hb dX6_readPart_17 (by decide) ?_
    obtain ⟨z_, g43, L44, hf45, h⟩ := cb_some h
    refine x_callVi (rest := [.ref (a 4)]) li_X6_118 C (rX6_readNumber_5 l G H.size a fu g L 0 9999 z_ (g43, L44) hf45) (kR rfl) hP hD hS 5 6 rfl (zat (by decide) xs_5) rfl hl.1 rfl (Nat.le_of_ble_eq_true rfl) dX6_readPart_20 (fun x42 u_ H locs e_ hP hD hS => ?_)
    have e_ : x42 = z_ := e_
    subst e_
    have hP : va_P G.1 vwCl (zw G (XS 2) 105 a g43 L44) H := hP
    have hD : va_D A (zw G (XS 2) 105 a g43 L44) := hD
    obtain ⟨z_, g47, L48, hf49, h⟩ := cb_some h
    refine x_callNv (rest := []) li_X6_211 C (rX8_add_4 l G H.size 2 a fu g43 L44 x42 z_ (g47, L48) hf49) (kR rfl) hP hD hS 4 8 rfl (zat (by decide) xs_4) rfl hl.1 rfl (Nat.le_of_ble_eq_true rfl) dX6_readPart_23 (fun u_ H locs e_ hP hD hS => ?_)
    have hP : va_P G.1 vwCl (zw G (XS 2) 105 a g47 L48) H := hP
    have hD : va_D A (zw G (XS 2) 105 a g47 L48) := hD
    refine lv_goto (tgt := 111) hx hb dX6_readPart_26 (by decide) ?_
    exact J111 g47 L48 H locs ls h hP hD hS (lv_sub hl [] rfl)
set_option maxHeartbeats 4000000 in
set_option maxRecDepth 100000 in
theorem rX6_readProduct_5_L6 (l : Launch) (G : kG) (sz : Nat) (a : Nat → Nat) (fu : Nat) (g : Nat → Nat → Int32) (L : Nat → Nat → Int64) (p1 : Int32) (res : Unit) (s9 : zS) (h : fX6_readProduct_5 fu (fX6_readExpr_5 fu 5) p1 g L = some (res, s9)) : kM l yX6_readProduct cX6_readProduct 4 none { frames := 48, cells := 0, slots := 0, locals := 1039 } G [.ref (a 5), .int p1] (zw G (XS 2) 105 a g L) sz (kQv G (S := Unit) (fun _ => True) (fun _ => zw G (XS 2) 105 a s9.1 s9.2)) := by
  refine kM.of (by decide) (Nat.le_of_ble_eq_true rfl) ?_
  intro p e s m below meth c A ls H C hr hlk hnm hP hD hS hl
  have C : kC G p s m c cX6_readProduct 4 RX6 A := C
  have hx := C.1
  have hb := C.2.1
  have hl : lv_has ls 4 [(0, .ref (a 5)), (1, .int p1)] := hl
  obtain ⟨locs, hlocs⟩ : ∃ q : List Loc, q = [] := ⟨_, rfl⟩
  rw [← hlocs] at hS
  rw [← hlocs]
  unfold fX6_readProduct_5 at h
  refine lv_aload_n hx hb dX6_readProduct_0 rfl (lv_at hl 0 rfl) ?_
  refine lv_iload_n hx hb dX6_readProduct_1 rfl (lv_at hl 1 rfl) ?_
  obtain ⟨z_, g2, L3, hf4, h⟩ := cb_some h
  refine x_callVv (rest := []) li_X6_230 C (rX6_readPart_5_L6 l G H.size a fu g L p1 z_ (g2, L3) hf4) (kR rfl) hP hD hS 5 6 rfl (zat (by decide) xs_5) rfl hl.1 rfl (Nat.le_of_ble_eq_true rfl) dX6_readProduct_2 (fun u_ H locs e_ hP hD hS => ?_)
  have hP : va_P G.1 vwCl (zw G (XS 2) 105 a g2 L3) H := hP
  have hD : va_D A (zw G (XS 2) 105 a g2 L3) := hD
  refine lv_iconst (v := 0) hx hb dX6_readProduct_5 (by decide) ?_
  refine lv_istore_n (lv' := [(2, .int 0), (0, .ref (a 5)), (1, .int p1)]) hx hb dX6_readProduct_6 rfl hl (by decide) rfl (fun ls hl => ?_)
  have lp7 : ∀ (v1 : Int32), ∀ (n : Nat) (v : Int32 × (Nat → Nat → Int32) × (Nat → Nat → Int64)), whileK (fun k v => fX6_readProduct_5_s7 fu (fX6_readExpr_5 fu 5) v1 k v.1 v.2.1 v.2.2) n v = some (res, s9) → ∀ (H : Heap) (locs : List Loc) (ls : Array Slot), va_P G.1 vwCl (zw G (XS 2) 105 a (v.2.1) (v.2.2)) H → va_D A (zw G (XS 2) 105 a (v.2.1) (v.2.2)) → va_S A s.heap H locs → lv_has ls 4 [(0, .ref (a 5)), (1, .int v1), (2, .int (v.1))] → W p l e { frames := 48, cells := 0, slots := 0, locals := 1039 } s m [.ref (a 5), .int p1].toArray below meth c H locs 0 0 (MQ below ((kQv G (S := Unit) (fun _ => True) (fun _ => zw G (XS 2) 105 a s9.1 s9.2)) A) [.ref (a 5), .int p1].toArray s 0 0 A) (F0 m 7 ls []) := by
    intro v1
    refine while_ind (fun k7 ih7 v h => ?_)
    obtain ⟨v2, g, L⟩ := v
    intro H locs ls hP hD hS hl
    have h : fX6_readProduct_5_s7 fu (fX6_readExpr_5 fu 5) v1 k7 v2 g L = some (res, s9) := h
    have hP : va_P G.1 vwCl (zw G (XS 2) 105 a g L) H := hP
    have hD : va_D A (zw G (XS 2) 105 a g L) := hD
    have hl : lv_has ls 4 [(0, .ref (a 5)), (1, .int v1), (2, .int v2)] := hl
    show W p l e { frames := 48, cells := 0, slots := 0, locals := 1039 } s m [.ref (a 5), .int p1].toArray below meth c H locs 0 0 (MQ below ((kQv G (S := Unit) (fun _ => True) (fun _ => zw G (XS 2) 105 a s9.1 s9.2)) A) [.ref (a 5), .int p1].toArray s 0 0 A) (F0 m 7 ls [])
    unfold fX6_readProduct_5_s7 at h
    refine lv_iload_n hx hb dX6_readProduct_7 rfl (lv_at hl 2 rfl) ?_
    refine lv_sipush (v := 700) hx hb dX6_readProduct_8 (by decide) ?_
    have J75 : ∀ (g : Nat → Nat → Int32) (L : Nat → Nat → Int64) (H : Heap) (locs : List Loc) (ls : Array Slot), fX6_readProduct_5_p75 fu (fX6_readExpr_5 fu 5) g L = some (res, s9) → va_P G.1 vwCl (zw G (XS 2) 105 a g L) H → va_D A (zw G (XS 2) 105 a g L) → va_S A s.heap H locs → lv_has ls 4 [] → W p l e { frames := 48, cells := 0, slots := 0, locals := 1039 } s m [.ref (a 5), .int p1].toArray below meth c H locs 0 0 (MQ below ((kQv G (S := Unit) (fun _ => True) (fun _ => zw G (XS 2) 105 a s9.1 s9.2)) A) [.ref (a 5), .int p1].toArray s 0 0 A) (F0 m 75 ls []) := by
      intro g L H locs ls h hP hD hS hl
      unfold fX6_readProduct_5_p75 at h
      exact y_vret C hr hlk hP hD hS h (Nat.le_of_ble_eq_true rfl) (Nat.le_of_ble_eq_true rfl) dX6_readProduct_75
    refine lv_icmp_ge (x := v2) (y := 700) (tgt := 75) hx hb dX6_readProduct_11 (by decide) (fun c5 => ?_) (fun c5 => ?_)
    ·
      have h := ite_t c5 h
      exact J75 g L H locs ls h hP hD hS (lv_sub hl [] rfl)
    ·
      have h := ite_e c5 h
      refine lv_aload_n hx hb dX6_readProduct_14 rfl (lv_at hl 0 rfl) ?_
      refine lv_bipush (v := 42) hx hb dX6_readProduct_15 (by decide) ?_
      obtain ⟨z_, g7, L8, hf9, h⟩ := cb_some h
      refine x_callVi (rest := []) li_X6_86 C (rX6_isSignNow_5 l G H.size a fu g L 42 z_ (g7, L8) hf9) (kR rfl) hP hD hS 5 6 rfl (zat (by decide) xs_5) rfl hl.1 rfl (Nat.le_of_ble_eq_true rfl) dX6_readProduct_17 (fun x6 u_ H locs e_ hP hD hS => ?_)
      have e_ : x6 = z_ := e_
      subst e_
      have hP : va_P G.1 vwCl (zw G (XS 2) 105 a g7 L8) H := hP
      have hD : va_D A (zw G (XS 2) 105 a g7 L8) := hD
      have J32 : ∀ (v2 : Int32) (g : Nat → Nat → Int32) (L : Nat → Nat → Int64) (H : Heap) (locs : List Loc) (ls : Array Slot), fX6_readProduct_5_p32 fu (fX6_readExpr_5 fu 5) k7 v1 v2 g L = some (res, s9) → va_P G.1 vwCl (zw G (XS 2) 105 a g L) H → va_D A (zw G (XS 2) 105 a g L) → va_S A s.heap H locs → lv_has ls 4 [(0, .ref (a 5)), (1, .int v1), (2, .int v2)] → W p l e { frames := 48, cells := 0, slots := 0, locals := 1039 } s m [.ref (a 5), .int p1].toArray below meth c H locs 0 0 (MQ below ((kQv G (S := Unit) (fun _ => True) (fun _ => zw G (XS 2) 105 a s9.1 s9.2)) A) [.ref (a 5), .int p1].toArray s 0 0 A) (F0 m 32 ls []) := by
        intro v2 g L H locs ls h hP hD hS hl
        unfold fX6_readProduct_5_p32 at h
        refine lv_aload_n hx hb dX6_readProduct_32 rfl (lv_at hl 0 rfl) ?_
        refine lv_bipush (v := 42) hx hb dX6_readProduct_33 (by decide) ?_
        obtain ⟨z_, g11, L12, hf13, h⟩ := cb_some h
        refine x_callVi (rest := []) li_X6_86 C (rX6_isSignNow_5 l G H.size a fu g L 42 z_ (g11, L12) hf13) (kR rfl) hP hD hS 5 6 rfl (zat (by decide) xs_5) rfl hl.1 rfl (Nat.le_of_ble_eq_true rfl) dX6_readProduct_35 (fun x10 u_ H locs e_ hP hD hS => ?_)
        have e_ : x10 = z_ := e_
        subst e_
        have hP : va_P G.1 vwCl (zw G (XS 2) 105 a g11 L12) H := hP
        have hD : va_D A (zw G (XS 2) 105 a g11 L12) := hD
        have J48 : ∀ (v2 : Int32) (t0 : Int32) (g : Nat → Nat → Int32) (L : Nat → Nat → Int64) (H : Heap) (locs : List Loc) (ls : Array Slot), fX6_readProduct_5_p48 fu (fX6_readExpr_5 fu 5) k7 v1 v2 t0 g L = some (res, s9) → va_P G.1 vwCl (zw G (XS 2) 105 a g L) H → va_D A (zw G (XS 2) 105 a g L) → va_S A s.heap H locs → lv_has ls 4 [(0, .ref (a 5)), (1, .int v1), (2, .int v2)] → W p l e { frames := 48, cells := 0, slots := 0, locals := 1039 } s m [.ref (a 5), .int p1].toArray below meth c H locs 0 0 (MQ below ((kQv G (S := Unit) (fun _ => True) (fun _ => zw G (XS 2) 105 a s9.1 s9.2)) A) [.ref (a 5), .int p1].toArray s 0 0 A) (F0 m 48 ls [.int t0]) := by
          intro v2 t0 g L H locs ls h hP hD hS hl
          unfold fX6_readProduct_5_p48 at h
          refine lv_istore_n (lv' := [(3, .int t0), (0, .ref (a 5)), (1, .int v1), (2, .int v2)]) hx hb dX6_readProduct_48 rfl hl (by decide) rfl (fun ls hl => ?_)
          refine lv_aload_n hx hb dX6_readProduct_49 rfl (lv_at hl 1 rfl) ?_
          obtain ⟨z_, g15, L16, hf17, h⟩ := cb_some h
          refine x_callVv (rest := []) li_X6_53 C (rX6_advance_5 l G H.size a fu g L z_ (g15, L16) hf17) (kR rfl) hP hD hS 5 6 rfl (zat (by decide) xs_5) rfl hl.1 rfl (Nat.le_of_ble_eq_true rfl) dX6_readProduct_50 (fun u_ H locs e_ hP hD hS => ?_)
          have hP : va_P G.1 vwCl (zw G (XS 2) 105 a g15 L16) H := hP
          have hD : va_D A (zw G (XS 2) 105 a g15 L16) := hD
          refine lv_aload_n hx hb dX6_readProduct_53 rfl (lv_at hl 1 rfl) ?_
          refine lv_iload_n hx hb dX6_readProduct_54 rfl (lv_at hl 2 rfl) ?_
          obtain ⟨z_, g19, L20, hf21, h⟩ := cb_some h
          refine x_callVv (rest := []) li_X6_230 C (rX6_readPart_5_L6 l G H.size a fu g15 L16 v1 z_ (g19, L20) hf21) (kR rfl) hP hD hS 5 6 rfl (zat (by decide) xs_5) rfl hl.1 rfl (Nat.le_of_ble_eq_true rfl) dX6_readProduct_55 (fun u_ H locs e_ hP hD hS => ?_)
          have hP : va_P G.1 vwCl (zw G (XS 2) 105 a g19 L20) H := hP
          have hD : va_D A (zw G (XS 2) 105 a g19 L20) := hD
          refine lv_aload_n hx hb dX6_readProduct_58 rfl (lv_at hl 1 rfl) ?_
          refine x_getr (Or.inl fl_X6_15) C hP (by decide) xs_5 rfl dX6_readProduct_59 ?_
          refine x_getr (Or.inr fl_X6_125) C hP (by decide) xs_2 rfl dX6_readProduct_62 ?_
          refine lv_iload_n hx hb dX6_readProduct_65 rfl (lv_at hl 0 rfl) ?_
          obtain ⟨z_, g23, L24, hf25, h⟩ := cb_some h
          refine x_callNv (rest := []) li_X6_211 C (rX8_add_4 l G H.size 2 a fu g19 L20 t0 z_ (g23, L24) hf25) (kR rfl) hP hD hS 4 8 rfl (zat (by decide) xs_4) rfl hl.1 rfl (Nat.le_of_ble_eq_true rfl) dX6_readProduct_66 (fun u_ H locs e_ hP hD hS => ?_)
          have hP : va_P G.1 vwCl (zw G (XS 2) 105 a g23 L24) H := hP
          have hD : va_D A (zw G (XS 2) 105 a g23 L24) := hD
          refine lv_iinc (v := (v2 + 1)) (lv' := [(2, .int (v2 + 1)), (3, .int t0), (0, .ref (a 5)), (1, .int v1)]) hx hb dX6_readProduct_69 hl (k := 3) rfl rfl (by decide) rfl (fun ls hl => ?_)
          refine lv_goto (tgt := 7) hx hb dX6_readProduct_72 (by decide) ?_
          exact ih7 ((v2 + 1), g23, L24) h H locs ls hP hD hS (lv_sub hl [2, 3, 0] rfl)
        refine lv_if_eq (x := x10) (tgt := 46) hx hb dX6_readProduct_38 (by decide) (fun c26 => ?_) (fun c26 => ?_)
        ·
          have h := ite_t c26 h
          refine lv_bipush (v := -10) hx hb dX6_readProduct_46 (by decide) ?_
          exact J48 v2 (-10) g11 L12 H locs ls h hP hD hS (lv_sub hl [0, 1, 2] rfl)
        ·
          have h := ite_e c26 h
          refine lv_bipush (v := -9) hx hb dX6_readProduct_41 (by decide) ?_
          refine lv_goto (tgt := 48) hx hb dX6_readProduct_43 (by decide) ?_
          exact J48 v2 (-9) g11 L12 H locs ls h hP hD hS (lv_sub hl [0, 1, 2] rfl)
      refine lv_if_ne (x := x6) (tgt := 32) hx hb dX6_readProduct_20 (by decide) (fun c27 => ?_) (fun c27 => ?_)
      ·
        have h := ite_e c27 h
        exact J32 v2 g7 L8 H locs ls h hP hD hS (lv_sub hl [0, 1, 2] rfl)
      ·
        have h := ite_t c27 h
        refine lv_aload_n hx hb dX6_readProduct_23 rfl (lv_at hl 0 rfl) ?_
        refine lv_bipush (v := 47) hx hb dX6_readProduct_24 (by decide) ?_
        obtain ⟨z_, g29, L30, hf31, h⟩ := cb_some h
        refine x_callVi (rest := []) li_X6_86 C (rX6_isSignNow_5 l G H.size a fu g7 L8 47 z_ (g29, L30) hf31) (kR rfl) hP hD hS 5 6 rfl (zat (by decide) xs_5) rfl hl.1 rfl (Nat.le_of_ble_eq_true rfl) dX6_readProduct_26 (fun x28 u_ H locs e_ hP hD hS => ?_)
        have e_ : x28 = z_ := e_
        subst e_
        have hP : va_P G.1 vwCl (zw G (XS 2) 105 a g29 L30) H := hP
        have hD : va_D A (zw G (XS 2) 105 a g29 L30) := hD
        refine lv_if_eq (x := x28) (tgt := 75) hx hb dX6_readProduct_29 (by decide) (fun c32 => ?_) (fun c32 => ?_)
        ·
          have h := ite_t c32 h
          exact J75 g29 L30 H locs ls h hP hD hS (lv_sub hl [] rfl)
        ·
          have h := ite_e c32 h
          exact J32 v2 g29 L30 H locs ls h hP hD hS (lv_sub hl [0, 1, 2] rfl)
  exact lp7 p1 fu (0, g2, L3) h H locs ls hP hD hS (lv_sub hl [1, 2, 0] rfl)
set_option maxHeartbeats 4000000 in
set_option maxRecDepth 100000 in
theorem rX6_readSum_5_L6 (l : Launch) (G : kG) (sz : Nat) (a : Nat → Nat) (fu : Nat) (g : Nat → Nat → Int32) (L : Nat → Nat → Int64) (p1 : Int32) (res : Unit) (s9 : zS) (h : fX6_readSum_5 fu (fX6_readExpr_5 fu 5) p1 g L = some (res, s9)) : kM l yX6_readSum cX6_readSum 4 none { frames := 49, cells := 0, slots := 0, locals := 1062 } G [.ref (a 5), .int p1] (zw G (XS 2) 105 a g L) sz (kQv G (S := Unit) (fun _ => True) (fun _ => zw G (XS 2) 105 a s9.1 s9.2)) := by
  refine kM.of (by decide) (Nat.le_of_ble_eq_true rfl) ?_
  intro p e s m below meth c A ls H C hr hlk hnm hP hD hS hl
  have C : kC G p s m c cX6_readSum 4 RX6 A := C
  have hx := C.1
  have hb := C.2.1
  have hl : lv_has ls 4 [(0, .ref (a 5)), (1, .int p1)] := hl
  obtain ⟨locs, hlocs⟩ : ∃ q : List Loc, q = [] := ⟨_, rfl⟩
  rw [← hlocs] at hS
  rw [← hlocs]
  unfold fX6_readSum_5 at h
  refine lv_aload_n hx hb dX6_readSum_0 rfl (lv_at hl 0 rfl) ?_
  refine lv_iload_n hx hb dX6_readSum_1 rfl (lv_at hl 1 rfl) ?_
  obtain ⟨z_, g2, L3, hf4, h⟩ := cb_some h
  refine x_callVv (rest := []) li_X6_227 C (rX6_readProduct_5_L6 l G H.size a fu g L p1 z_ (g2, L3) hf4) (kR rfl) hP hD hS 5 6 rfl (zat (by decide) xs_5) rfl hl.1 rfl (Nat.le_of_ble_eq_true rfl) dX6_readSum_2 (fun u_ H locs e_ hP hD hS => ?_)
  have hP : va_P G.1 vwCl (zw G (XS 2) 105 a g2 L3) H := hP
  have hD : va_D A (zw G (XS 2) 105 a g2 L3) := hD
  refine lv_iconst (v := 0) hx hb dX6_readSum_5 (by decide) ?_
  refine lv_istore_n (lv' := [(2, .int 0), (0, .ref (a 5)), (1, .int p1)]) hx hb dX6_readSum_6 rfl hl (by decide) rfl (fun ls hl => ?_)
  have lp7 : ∀ (v1 : Int32), ∀ (n : Nat) (v : Int32 × (Nat → Nat → Int32) × (Nat → Nat → Int64)), whileK (fun k v => fX6_readSum_5_s7 fu (fX6_readExpr_5 fu 5) v1 k v.1 v.2.1 v.2.2) n v = some (res, s9) → ∀ (H : Heap) (locs : List Loc) (ls : Array Slot), va_P G.1 vwCl (zw G (XS 2) 105 a (v.2.1) (v.2.2)) H → va_D A (zw G (XS 2) 105 a (v.2.1) (v.2.2)) → va_S A s.heap H locs → lv_has ls 4 [(0, .ref (a 5)), (1, .int v1), (2, .int (v.1))] → W p l e { frames := 49, cells := 0, slots := 0, locals := 1062 } s m [.ref (a 5), .int p1].toArray below meth c H locs 0 0 (MQ below ((kQv G (S := Unit) (fun _ => True) (fun _ => zw G (XS 2) 105 a s9.1 s9.2)) A) [.ref (a 5), .int p1].toArray s 0 0 A) (F0 m 7 ls []) := by
    intro v1
    refine while_ind (fun k7 ih7 v h => ?_)
    obtain ⟨v2, g, L⟩ := v
    intro H locs ls hP hD hS hl
    have h : fX6_readSum_5_s7 fu (fX6_readExpr_5 fu 5) v1 k7 v2 g L = some (res, s9) := h
    have hP : va_P G.1 vwCl (zw G (XS 2) 105 a g L) H := hP
    have hD : va_D A (zw G (XS 2) 105 a g L) := hD
    have hl : lv_has ls 4 [(0, .ref (a 5)), (1, .int v1), (2, .int v2)] := hl
    show W p l e { frames := 49, cells := 0, slots := 0, locals := 1062 } s m [.ref (a 5), .int p1].toArray below meth c H locs 0 0 (MQ below ((kQv G (S := Unit) (fun _ => True) (fun _ => zw G (XS 2) 105 a s9.1 s9.2)) A) [.ref (a 5), .int p1].toArray s 0 0 A) (F0 m 7 ls [])
    unfold fX6_readSum_5_s7 at h
    refine lv_iload_n hx hb dX6_readSum_7 rfl (lv_at hl 2 rfl) ?_
    refine lv_sipush (v := 700) hx hb dX6_readSum_8 (by decide) ?_
    have J75 : ∀ (g : Nat → Nat → Int32) (L : Nat → Nat → Int64) (H : Heap) (locs : List Loc) (ls : Array Slot), fX6_readSum_5_p75 fu (fX6_readExpr_5 fu 5) g L = some (res, s9) → va_P G.1 vwCl (zw G (XS 2) 105 a g L) H → va_D A (zw G (XS 2) 105 a g L) → va_S A s.heap H locs → lv_has ls 4 [] → W p l e { frames := 49, cells := 0, slots := 0, locals := 1062 } s m [.ref (a 5), .int p1].toArray below meth c H locs 0 0 (MQ below ((kQv G (S := Unit) (fun _ => True) (fun _ => zw G (XS 2) 105 a s9.1 s9.2)) A) [.ref (a 5), .int p1].toArray s 0 0 A) (F0 m 75 ls []) := by
      intro g L H locs ls h hP hD hS hl
      unfold fX6_readSum_5_p75 at h
      exact y_vret C hr hlk hP hD hS h (Nat.le_of_ble_eq_true rfl) (Nat.le_of_ble_eq_true rfl) dX6_readSum_75
    refine lv_icmp_ge (x := v2) (y := 700) (tgt := 75) hx hb dX6_readSum_11 (by decide) (fun c5 => ?_) (fun c5 => ?_)
    ·
      have h := ite_t c5 h
      exact J75 g L H locs ls h hP hD hS (lv_sub hl [] rfl)
    ·
      have h := ite_e c5 h
      refine lv_aload_n hx hb dX6_readSum_14 rfl (lv_at hl 0 rfl) ?_
      refine lv_bipush (v := 43) hx hb dX6_readSum_15 (by decide) ?_
      obtain ⟨z_, g7, L8, hf9, h⟩ := cb_some h
      refine x_callVi (rest := []) li_X6_86 C (rX6_isSignNow_5 l G H.size a fu g L 43 z_ (g7, L8) hf9) (kR rfl) hP hD hS 5 6 rfl (zat (by decide) xs_5) rfl hl.1 rfl (Nat.le_of_ble_eq_true rfl) dX6_readSum_17 (fun x6 u_ H locs e_ hP hD hS => ?_)
      have e_ : x6 = z_ := e_
      subst e_
      have hP : va_P G.1 vwCl (zw G (XS 2) 105 a g7 L8) H := hP
      have hD : va_D A (zw G (XS 2) 105 a g7 L8) := hD
      have J32 : ∀ (v2 : Int32) (g : Nat → Nat → Int32) (L : Nat → Nat → Int64) (H : Heap) (locs : List Loc) (ls : Array Slot), fX6_readSum_5_p32 fu (fX6_readExpr_5 fu 5) k7 v1 v2 g L = some (res, s9) → va_P G.1 vwCl (zw G (XS 2) 105 a g L) H → va_D A (zw G (XS 2) 105 a g L) → va_S A s.heap H locs → lv_has ls 4 [(0, .ref (a 5)), (1, .int v1), (2, .int v2)] → W p l e { frames := 49, cells := 0, slots := 0, locals := 1062 } s m [.ref (a 5), .int p1].toArray below meth c H locs 0 0 (MQ below ((kQv G (S := Unit) (fun _ => True) (fun _ => zw G (XS 2) 105 a s9.1 s9.2)) A) [.ref (a 5), .int p1].toArray s 0 0 A) (F0 m 32 ls []) := by
        intro v2 g L H locs ls h hP hD hS hl
        unfold fX6_readSum_5_p32 at h
        refine lv_aload_n hx hb dX6_readSum_32 rfl (lv_at hl 0 rfl) ?_
        refine lv_bipush (v := 43) hx hb dX6_readSum_33 (by decide) ?_
        obtain ⟨z_, g11, L12, hf13, h⟩ := cb_some h
        refine x_callVi (rest := []) li_X6_86 C (rX6_isSignNow_5 l G H.size a fu g L 43 z_ (g11, L12) hf13) (kR rfl) hP hD hS 5 6 rfl (zat (by decide) xs_5) rfl hl.1 rfl (Nat.le_of_ble_eq_true rfl) dX6_readSum_35 (fun x10 u_ H locs e_ hP hD hS => ?_)
        have e_ : x10 = z_ := e_
        subst e_
        have hP : va_P G.1 vwCl (zw G (XS 2) 105 a g11 L12) H := hP
        have hD : va_D A (zw G (XS 2) 105 a g11 L12) := hD
        have J48 : ∀ (v2 : Int32) (t0 : Int32) (g : Nat → Nat → Int32) (L : Nat → Nat → Int64) (H : Heap) (locs : List Loc) (ls : Array Slot), fX6_readSum_5_p48 fu (fX6_readExpr_5 fu 5) k7 v1 v2 t0 g L = some (res, s9) → va_P G.1 vwCl (zw G (XS 2) 105 a g L) H → va_D A (zw G (XS 2) 105 a g L) → va_S A s.heap H locs → lv_has ls 4 [(0, .ref (a 5)), (1, .int v1), (2, .int v2)] → W p l e { frames := 49, cells := 0, slots := 0, locals := 1062 } s m [.ref (a 5), .int p1].toArray below meth c H locs 0 0 (MQ below ((kQv G (S := Unit) (fun _ => True) (fun _ => zw G (XS 2) 105 a s9.1 s9.2)) A) [.ref (a 5), .int p1].toArray s 0 0 A) (F0 m 48 ls [.int t0]) := by
          intro v2 t0 g L H locs ls h hP hD hS hl
          unfold fX6_readSum_5_p48 at h
          refine lv_istore_n (lv' := [(3, .int t0), (0, .ref (a 5)), (1, .int v1), (2, .int v2)]) hx hb dX6_readSum_48 rfl hl (by decide) rfl (fun ls hl => ?_)
          refine lv_aload_n hx hb dX6_readSum_49 rfl (lv_at hl 1 rfl) ?_
          obtain ⟨z_, g15, L16, hf17, h⟩ := cb_some h
          refine x_callVv (rest := []) li_X6_53 C (rX6_advance_5 l G H.size a fu g L z_ (g15, L16) hf17) (kR rfl) hP hD hS 5 6 rfl (zat (by decide) xs_5) rfl hl.1 rfl (Nat.le_of_ble_eq_true rfl) dX6_readSum_50 (fun u_ H locs e_ hP hD hS => ?_)
          have hP : va_P G.1 vwCl (zw G (XS 2) 105 a g15 L16) H := hP
          have hD : va_D A (zw G (XS 2) 105 a g15 L16) := hD
          refine lv_aload_n hx hb dX6_readSum_53 rfl (lv_at hl 1 rfl) ?_
          refine lv_iload_n hx hb dX6_readSum_54 rfl (lv_at hl 2 rfl) ?_
          obtain ⟨z_, g19, L20, hf21, h⟩ := cb_some h
          refine x_callVv (rest := []) li_X6_227 C (rX6_readProduct_5_L6 l G H.size a fu g15 L16 v1 z_ (g19, L20) hf21) (kR rfl) hP hD hS 5 6 rfl (zat (by decide) xs_5) rfl hl.1 rfl (Nat.le_of_ble_eq_true rfl) dX6_readSum_55 (fun u_ H locs e_ hP hD hS => ?_)
          have hP : va_P G.1 vwCl (zw G (XS 2) 105 a g19 L20) H := hP
          have hD : va_D A (zw G (XS 2) 105 a g19 L20) := hD
          refine lv_aload_n hx hb dX6_readSum_58 rfl (lv_at hl 1 rfl) ?_
          refine x_getr (Or.inl fl_X6_15) C hP (by decide) xs_5 rfl dX6_readSum_59 ?_
          refine x_getr (Or.inr fl_X6_125) C hP (by decide) xs_2 rfl dX6_readSum_62 ?_
          refine lv_iload_n hx hb dX6_readSum_65 rfl (lv_at hl 0 rfl) ?_
          obtain ⟨z_, g23, L24, hf25, h⟩ := cb_some h
          refine x_callNv (rest := []) li_X6_211 C (rX8_add_4 l G H.size 2 a fu g19 L20 t0 z_ (g23, L24) hf25) (kR rfl) hP hD hS 4 8 rfl (zat (by decide) xs_4) rfl hl.1 rfl (Nat.le_of_ble_eq_true rfl) dX6_readSum_66 (fun u_ H locs e_ hP hD hS => ?_)
          have hP : va_P G.1 vwCl (zw G (XS 2) 105 a g23 L24) H := hP
          have hD : va_D A (zw G (XS 2) 105 a g23 L24) := hD
          refine lv_iinc (v := (v2 + 1)) (lv' := [(2, .int (v2 + 1)), (3, .int t0), (0, .ref (a 5)), (1, .int v1)]) hx hb dX6_readSum_69 hl (k := 3) rfl rfl (by decide) rfl (fun ls hl => ?_)
          refine lv_goto (tgt := 7) hx hb dX6_readSum_72 (by decide) ?_
          exact ih7 ((v2 + 1), g23, L24) h H locs ls hP hD hS (lv_sub hl [2, 3, 0] rfl)
        refine lv_if_eq (x := x10) (tgt := 46) hx hb dX6_readSum_38 (by decide) (fun c26 => ?_) (fun c26 => ?_)
        ·
          have h := ite_t c26 h
          refine lv_bipush (v := -8) hx hb dX6_readSum_46 (by decide) ?_
          exact J48 v2 (-8) g11 L12 H locs ls h hP hD hS (lv_sub hl [0, 1, 2] rfl)
        ·
          have h := ite_e c26 h
          refine lv_bipush (v := -7) hx hb dX6_readSum_41 (by decide) ?_
          refine lv_goto (tgt := 48) hx hb dX6_readSum_43 (by decide) ?_
          exact J48 v2 (-7) g11 L12 H locs ls h hP hD hS (lv_sub hl [0, 1, 2] rfl)
      refine lv_if_ne (x := x6) (tgt := 32) hx hb dX6_readSum_20 (by decide) (fun c27 => ?_) (fun c27 => ?_)
      ·
        have h := ite_e c27 h
        exact J32 v2 g7 L8 H locs ls h hP hD hS (lv_sub hl [0, 1, 2] rfl)
      ·
        have h := ite_t c27 h
        refine lv_aload_n hx hb dX6_readSum_23 rfl (lv_at hl 0 rfl) ?_
        refine lv_bipush (v := 45) hx hb dX6_readSum_24 (by decide) ?_
        obtain ⟨z_, g29, L30, hf31, h⟩ := cb_some h
        refine x_callVi (rest := []) li_X6_86 C (rX6_isSignNow_5 l G H.size a fu g7 L8 45 z_ (g29, L30) hf31) (kR rfl) hP hD hS 5 6 rfl (zat (by decide) xs_5) rfl hl.1 rfl (Nat.le_of_ble_eq_true rfl) dX6_readSum_26 (fun x28 u_ H locs e_ hP hD hS => ?_)
        have e_ : x28 = z_ := e_
        subst e_
        have hP : va_P G.1 vwCl (zw G (XS 2) 105 a g29 L30) H := hP
        have hD : va_D A (zw G (XS 2) 105 a g29 L30) := hD
        refine lv_if_eq (x := x28) (tgt := 75) hx hb dX6_readSum_29 (by decide) (fun c32 => ?_) (fun c32 => ?_)
        ·
          have h := ite_t c32 h
          exact J75 g29 L30 H locs ls h hP hD hS (lv_sub hl [] rfl)
        ·
          have h := ite_e c32 h
          exact J32 v2 g29 L30 H locs ls h hP hD hS (lv_sub hl [0, 1, 2] rfl)
  exact lp7 p1 fu (0, g2, L3) h H locs ls hP hD hS (lv_sub hl [1, 2, 0] rfl)
set_option maxHeartbeats 4000000 in
set_option maxRecDepth 100000 in
theorem rX6_readTest_5_L6 (l : Launch) (G : kG) (sz : Nat) (a : Nat → Nat) (fu : Nat) (g : Nat → Nat → Int32) (L : Nat → Nat → Int64) (p1 : Int32) (res : Unit) (s9 : zS) (h : fX6_readTest_5 fu (fX6_readExpr_5 fu 5) p1 g L = some (res, s9)) : kM l yX6_readTest cX6_readTest 2 none { frames := 50, cells := 0, slots := 0, locals := 1085 } G [.ref (a 5), .int p1] (zw G (XS 2) 105 a g L) sz (kQv G (S := Unit) (fun _ => True) (fun _ => zw G (XS 2) 105 a s9.1 s9.2)) := by
  refine kM.of (by decide) (Nat.le_of_ble_eq_true rfl) ?_
  intro p e s m below meth c A ls H C hr hlk hnm hP hD hS hl
  have C : kC G p s m c cX6_readTest 2 RX6 A := C
  have hx := C.1
  have hb := C.2.1
  have hl : lv_has ls 2 [(0, .ref (a 5)), (1, .int p1)] := hl
  obtain ⟨locs, hlocs⟩ : ∃ q : List Loc, q = [] := ⟨_, rfl⟩
  rw [← hlocs] at hS
  rw [← hlocs]
  unfold fX6_readTest_5 at h
  refine lv_aload_n hx hb dX6_readTest_0 rfl (lv_at hl 0 rfl) ?_
  refine lv_iload_n hx hb dX6_readTest_1 rfl (lv_at hl 1 rfl) ?_
  obtain ⟨z_, g2, L3, hf4, h⟩ := cb_some h
  refine x_callVv (rest := []) li_X6_224 C (rX6_readSum_5_L6 l G H.size a fu g L p1 z_ (g2, L3) hf4) (kR rfl) hP hD hS 5 6 rfl (zat (by decide) xs_5) rfl hl.1 rfl (Nat.le_of_ble_eq_true rfl) dX6_readTest_2 (fun u_ H locs e_ hP hD hS => ?_)
  have hP : va_P G.1 vwCl (zw G (XS 2) 105 a g2 L3) H := hP
  have hD : va_D A (zw G (XS 2) 105 a g2 L3) := hD
  refine lv_aload_n hx hb dX6_readTest_5 rfl (lv_at hl 0 rfl) ?_
  refine lv_bipush (v := 60) hx hb dX6_readTest_6 (by decide) ?_
  obtain ⟨z_, g6, L7, hf8, h⟩ := cb_some h
  refine x_callVi (rest := []) li_X6_86 C (rX6_isSignNow_5 l G H.size a fu g2 L3 60 z_ (g6, L7) hf8) (kR rfl) hP hD hS 5 6 rfl (zat (by decide) xs_5) rfl hl.1 rfl (Nat.le_of_ble_eq_true rfl) dX6_readTest_8 (fun x5 u_ H locs e_ hP hD hS => ?_)
  have e_ : x5 = z_ := e_
  subst e_
  have hP : va_P G.1 vwCl (zw G (XS 2) 105 a g6 L7) H := hP
  have hD : va_D A (zw G (XS 2) 105 a g6 L7) := hD
  have J68 : ∀ (g : Nat → Nat → Int32) (L : Nat → Nat → Int64) (H : Heap) (locs : List Loc) (ls : Array Slot), fX6_readTest_5_p68 fu (fX6_readExpr_5 fu 5) g L = some (res, s9) → va_P G.1 vwCl (zw G (XS 2) 105 a g L) H → va_D A (zw G (XS 2) 105 a g L) → va_S A s.heap H locs → lv_has ls 2 [] → W p l e { frames := 50, cells := 0, slots := 0, locals := 1085 } s m [.ref (a 5), .int p1].toArray below meth c H locs 0 0 (MQ below ((kQv G (S := Unit) (fun _ => True) (fun _ => zw G (XS 2) 105 a s9.1 s9.2)) A) [.ref (a 5), .int p1].toArray s 0 0 A) (F0 m 68 ls []) := by
    intro g L H locs ls h hP hD hS hl
    unfold fX6_readTest_5_p68 at h
    exact y_vret C hr hlk hP hD hS h (Nat.le_of_ble_eq_true rfl) (Nat.le_of_ble_eq_true rfl) dX6_readTest_68
  refine lv_if_eq (x := x5) (tgt := 38) hx hb dX6_readTest_11 (by decide) (fun c9 => ?_) (fun c9 => ?_)
  ·
    have h := ite_t c9 h
    refine lv_aload_n hx hb dX6_readTest_38 rfl (lv_at hl 0 rfl) ?_
    refine lv_bipush (v := 61) hx hb dX6_readTest_39 (by decide) ?_
    obtain ⟨z_, g11, L12, hf13, h⟩ := cb_some h
    refine x_callVi (rest := []) li_X6_86 C (rX6_isSignNow_5 l G H.size a fu g6 L7 61 z_ (g11, L12) hf13) (kR rfl) hP hD hS 5 6 rfl (zat (by decide) xs_5) rfl hl.1 rfl (Nat.le_of_ble_eq_true rfl) dX6_readTest_41 (fun x10 u_ H locs e_ hP hD hS => ?_)
    have e_ : x10 = z_ := e_
    subst e_
    have hP : va_P G.1 vwCl (zw G (XS 2) 105 a g11 L12) H := hP
    have hD : va_D A (zw G (XS 2) 105 a g11 L12) := hD
    refine lv_if_eq (x := x10) (tgt := 68) hx hb dX6_readTest_44 (by decide) (fun c14 => ?_) (fun c14 => ?_)
    ·
      have h := ite_t c14 h
      exact J68 g11 L12 H locs ls h hP hD hS (lv_sub hl [] rfl)
    ·
      have h := ite_e c14 h
      refine lv_aload_n hx hb dX6_readTest_47 rfl (lv_at hl 0 rfl) ?_
      obtain ⟨z_, g16, L17, hf18, h⟩ := cb_some h
      refine x_callVv (rest := []) li_X6_53 C (rX6_advance_5 l G H.size a fu g11 L12 z_ (g16, L17) hf18) (kR rfl) hP hD hS 5 6 rfl (zat (by decide) xs_5) rfl hl.1 rfl (Nat.le_of_ble_eq_true rfl) dX6_readTest_48 (fun u_ H locs e_ hP hD hS => ?_)
      have hP : va_P G.1 vwCl (zw G (XS 2) 105 a g16 L17) H := hP
      have hD : va_D A (zw G (XS 2) 105 a g16 L17) := hD
      refine lv_aload_n hx hb dX6_readTest_51 rfl (lv_at hl 0 rfl) ?_
      refine lv_iload_n hx hb dX6_readTest_52 rfl (lv_at hl 1 rfl) ?_
      obtain ⟨z_, g20, L21, hf22, h⟩ := cb_some h
      refine x_callVv (rest := []) li_X6_224 C (rX6_readSum_5_L6 l G H.size a fu g16 L17 p1 z_ (g20, L21) hf22) (kR rfl) hP hD hS 5 6 rfl (zat (by decide) xs_5) rfl hl.1 rfl (Nat.le_of_ble_eq_true rfl) dX6_readTest_53 (fun u_ H locs e_ hP hD hS => ?_)
      have hP : va_P G.1 vwCl (zw G (XS 2) 105 a g20 L21) H := hP
      have hD : va_D A (zw G (XS 2) 105 a g20 L21) := hD
      refine lv_aload_n hx hb dX6_readTest_56 rfl (lv_at hl 0 rfl) ?_
      refine x_getr (Or.inl fl_X6_15) C hP (by decide) xs_5 rfl dX6_readTest_57 ?_
      refine x_getr (Or.inr fl_X6_125) C hP (by decide) xs_2 rfl dX6_readTest_60 ?_
      refine lv_bipush (v := -12) hx hb dX6_readTest_63 (by decide) ?_
      obtain ⟨z_, g24, L25, hf26, h⟩ := cb_some h
      refine x_callNv (rest := []) li_X6_211 C (rX8_add_4 l G H.size 2 a fu g20 L21 (-12) z_ (g24, L25) hf26) (kR rfl) hP hD hS 4 8 rfl (zat (by decide) xs_4) rfl hl.1 rfl (Nat.le_of_ble_eq_true rfl) dX6_readTest_65 (fun u_ H locs e_ hP hD hS => ?_)
      have hP : va_P G.1 vwCl (zw G (XS 2) 105 a g24 L25) H := hP
      have hD : va_D A (zw G (XS 2) 105 a g24 L25) := hD
      exact J68 g24 L25 H locs ls h hP hD hS (lv_sub hl [] rfl)
  ·
    have h := ite_e c9 h
    refine lv_aload_n hx hb dX6_readTest_14 rfl (lv_at hl 0 rfl) ?_
    obtain ⟨z_, g28, L29, hf30, h⟩ := cb_some h
    refine x_callVv (rest := []) li_X6_53 C (rX6_advance_5 l G H.size a fu g6 L7 z_ (g28, L29) hf30) (kR rfl) hP hD hS 5 6 rfl (zat (by decide) xs_5) rfl hl.1 rfl (Nat.le_of_ble_eq_true rfl) dX6_readTest_15 (fun u_ H locs e_ hP hD hS => ?_)
    have hP : va_P G.1 vwCl (zw G (XS 2) 105 a g28 L29) H := hP
    have hD : va_D A (zw G (XS 2) 105 a g28 L29) := hD
    refine lv_aload_n hx hb dX6_readTest_18 rfl (lv_at hl 0 rfl) ?_
    refine lv_iload_n hx hb dX6_readTest_19 rfl (lv_at hl 1 rfl) ?_
    obtain ⟨z_, g32, L33, hf34, h⟩ := cb_some h
    refine x_callVv (rest := []) li_X6_224 C (rX6_readSum_5_L6 l G H.size a fu g28 L29 p1 z_ (g32, L33) hf34) (kR rfl) hP hD hS 5 6 rfl (zat (by decide) xs_5) rfl hl.1 rfl (Nat.le_of_ble_eq_true rfl) dX6_readTest_20 (fun u_ H locs e_ hP hD hS => ?_)
    have hP : va_P G.1 vwCl (zw G (XS 2) 105 a g32 L33) H := hP
    have hD : va_D A (zw G (XS 2) 105 a g32 L33) := hD
    refine lv_aload_n hx hb dX6_readTest_23 rfl (lv_at hl 0 rfl) ?_
    refine x_getr (Or.inl fl_X6_15) C hP (by decide) xs_5 rfl dX6_readTest_24 ?_
    refine x_getr (Or.inr fl_X6_125) C hP (by decide) xs_2 rfl dX6_readTest_27 ?_
    refine lv_bipush (v := -11) hx hb dX6_readTest_30 (by decide) ?_
    obtain ⟨z_, g36, L37, hf38, h⟩ := cb_some h
    refine x_callNv (rest := []) li_X6_211 C (rX8_add_4 l G H.size 2 a fu g32 L33 (-11) z_ (g36, L37) hf38) (kR rfl) hP hD hS 4 8 rfl (zat (by decide) xs_4) rfl hl.1 rfl (Nat.le_of_ble_eq_true rfl) dX6_readTest_32 (fun u_ H locs e_ hP hD hS => ?_)
    have hP : va_P G.1 vwCl (zw G (XS 2) 105 a g36 L37) H := hP
    have hD : va_D A (zw G (XS 2) 105 a g36 L37) := hD
    refine lv_goto (tgt := 68) hx hb dX6_readTest_35 (by decide) ?_
    exact J68 g36 L37 H locs ls h hP hD hS (lv_sub hl [] rfl)
set_option maxHeartbeats 4000000 in
set_option maxRecDepth 100000 in
theorem rX6_readNot_5_L6 (l : Launch) (G : kG) (sz : Nat) (a : Nat → Nat) (fu : Nat) (g : Nat → Nat → Int32) (L : Nat → Nat → Int64) (p1 : Int32) (res : Unit) (s9 : zS) (h : fX6_readNot_5 fu (fX6_readExpr_5 fu 5) p1 g L = some (res, s9)) : kM l yX6_readNot cX6_readNot 4 none { frames := 51, cells := 0, slots := 0, locals := 1106 } G [.ref (a 5), .int p1] (zw G (XS 2) 105 a g L) sz (kQv G (S := Unit) (fun _ => True) (fun _ => zw G (XS 2) 105 a s9.1 s9.2)) := by
  refine kM.of (by decide) (Nat.le_of_ble_eq_true rfl) ?_
  intro p e s m below meth c A ls H C hr hlk hnm hP hD hS hl
  have C : kC G p s m c cX6_readNot 4 RX6 A := C
  have hx := C.1
  have hb := C.2.1
  have hl : lv_has ls 4 [(0, .ref (a 5)), (1, .int p1)] := hl
  obtain ⟨locs, hlocs⟩ : ∃ q : List Loc, q = [] := ⟨_, rfl⟩
  rw [← hlocs] at hS
  rw [← hlocs]
  unfold fX6_readNot_5 at h
  refine lv_iconst (v := 0) hx hb dX6_readNot_0 (by decide) ?_
  refine lv_istore_n (lv' := [(2, .int 0), (0, .ref (a 5)), (1, .int p1)]) hx hb dX6_readNot_1 rfl hl (by decide) rfl (fun ls hl => ?_)
  have lp2 : ∀ (v1 : Int32), ∀ (n : Nat) (v : Int32 × (Nat → Nat → Int32) × (Nat → Nat → Int64)), whileK (fun k v => fX6_readNot_5_s2 fu (fX6_readExpr_5 fu 5) v1 k v.1 v.2.1 v.2.2) n v = some (res, s9) → ∀ (H : Heap) (locs : List Loc) (ls : Array Slot), va_P G.1 vwCl (zw G (XS 2) 105 a (v.2.1) (v.2.2)) H → va_D A (zw G (XS 2) 105 a (v.2.1) (v.2.2)) → va_S A s.heap H locs → lv_has ls 4 [(0, .ref (a 5)), (1, .int v1), (2, .int (v.1))] → W p l e { frames := 51, cells := 0, slots := 0, locals := 1106 } s m [.ref (a 5), .int p1].toArray below meth c H locs 0 0 (MQ below ((kQv G (S := Unit) (fun _ => True) (fun _ => zw G (XS 2) 105 a s9.1 s9.2)) A) [.ref (a 5), .int p1].toArray s 0 0 A) (F0 m 2 ls []) := by
    intro v1
    refine while_ind (fun k2 ih2 v h => ?_)
    obtain ⟨v2, g, L⟩ := v
    intro H locs ls hP hD hS hl
    have h : fX6_readNot_5_s2 fu (fX6_readExpr_5 fu 5) v1 k2 v2 g L = some (res, s9) := h
    have hP : va_P G.1 vwCl (zw G (XS 2) 105 a g L) H := hP
    have hD : va_D A (zw G (XS 2) 105 a g L) := hD
    have hl : lv_has ls 4 [(0, .ref (a 5)), (1, .int v1), (2, .int v2)] := hl
    show W p l e { frames := 51, cells := 0, slots := 0, locals := 1106 } s m [.ref (a 5), .int p1].toArray below meth c H locs 0 0 (MQ below ((kQv G (S := Unit) (fun _ => True) (fun _ => zw G (XS 2) 105 a s9.1 s9.2)) A) [.ref (a 5), .int p1].toArray s 0 0 A) (F0 m 2 ls [])
    unfold fX6_readNot_5_s2 at h
    refine lv_iload_n hx hb dX6_readNot_2 rfl (lv_at hl 2 rfl) ?_
    refine lv_bipush (v := 6) hx hb dX6_readNot_3 (by decide) ?_
    have J27 : ∀ (v1 : Int32) (v2 : Int32) (g : Nat → Nat → Int32) (L : Nat → Nat → Int64) (H : Heap) (locs : List Loc) (ls : Array Slot), fX6_readNot_5_p27 fu (fX6_readExpr_5 fu 5) v1 v2 g L = some (res, s9) → va_P G.1 vwCl (zw G (XS 2) 105 a g L) H → va_D A (zw G (XS 2) 105 a g L) → va_S A s.heap H locs → lv_has ls 4 [(0, .ref (a 5)), (1, .int v1), (2, .int v2)] → W p l e { frames := 51, cells := 0, slots := 0, locals := 1106 } s m [.ref (a 5), .int p1].toArray below meth c H locs 0 0 (MQ below ((kQv G (S := Unit) (fun _ => True) (fun _ => zw G (XS 2) 105 a s9.1 s9.2)) A) [.ref (a 5), .int p1].toArray s 0 0 A) (F0 m 27 ls []) := by
      intro v1 v2 g L H locs ls h hP hD hS hl
      unfold fX6_readNot_5_p27 at h
      refine lv_aload_n hx hb dX6_readNot_27 rfl (lv_at hl 0 rfl) ?_
      refine y_ldcS (i := 11) C (by decide) rfl dX6_readNot_28 ?_
      obtain ⟨z_, g2, L3, hf4, h⟩ := cb_some h
      refine x_callVi (rest := []) li_X6_92 C (rX6_isWord_5_not l G H.size a fu g L z_ (g2, L3) hf4) (kR rfl) hP hD hS 5 6 rfl (zat (by decide) xs_5) rfl hl.1 rfl (Nat.le_of_ble_eq_true rfl) dX6_readNot_30 (fun x1 u_ H locs e_ hP hD hS => ?_)
      have e_ : x1 = z_ := e_
      subst e_
      have hP : va_P G.1 vwCl (zw G (XS 2) 105 a g2 L3) H := hP
      have hD : va_D A (zw G (XS 2) 105 a g2 L3) := hD
      have J47 : ∀ (v1 : Int32) (v2 : Int32) (g : Nat → Nat → Int32) (L : Nat → Nat → Int64) (H : Heap) (locs : List Loc) (ls : Array Slot), fX6_readNot_5_p47 fu (fX6_readExpr_5 fu 5) v1 v2 g L = some (res, s9) → va_P G.1 vwCl (zw G (XS 2) 105 a g L) H → va_D A (zw G (XS 2) 105 a g L) → va_S A s.heap H locs → lv_has ls 4 [(0, .ref (a 5)), (1, .int v1), (2, .int v2)] → W p l e { frames := 51, cells := 0, slots := 0, locals := 1106 } s m [.ref (a 5), .int p1].toArray below meth c H locs 0 0 (MQ below ((kQv G (S := Unit) (fun _ => True) (fun _ => zw G (XS 2) 105 a s9.1 s9.2)) A) [.ref (a 5), .int p1].toArray s 0 0 A) (F0 m 47 ls []) := by
        intro v1 v2 g L H locs ls h hP hD hS hl
        unfold fX6_readNot_5_p47 at h
        refine lv_aload_n hx hb dX6_readNot_47 rfl (lv_at hl 0 rfl) ?_
        refine lv_iload_n hx hb dX6_readNot_48 rfl (lv_at hl 1 rfl) ?_
        obtain ⟨z_, g6, L7, hf8, h⟩ := cb_some h
        refine x_callVv (rest := []) li_X6_221 C (rX6_readTest_5_L6 l G H.size a fu g L v1 z_ (g6, L7) hf8) (kR rfl) hP hD hS 5 6 rfl (zat (by decide) xs_5) rfl hl.1 rfl (Nat.le_of_ble_eq_true rfl) dX6_readNot_49 (fun u_ H locs e_ hP hD hS => ?_)
        have hP : va_P G.1 vwCl (zw G (XS 2) 105 a g6 L7) H := hP
        have hD : va_D A (zw G (XS 2) 105 a g6 L7) := hD
        refine lv_iconst (v := 0) hx hb dX6_readNot_52 (by decide) ?_
        refine lv_istore_n (lv' := [(3, .int 0), (0, .ref (a 5)), (1, .int v1), (2, .int v2)]) hx hb dX6_readNot_53 rfl hl (by decide) rfl (fun ls hl => ?_)
        have lp54 : ∀ (v2 : Int32), ∀ (n : Nat) (v : Int32 × (Nat → Nat → Int32) × (Nat → Nat → Int64)), whileK (fun k v => fX6_readNot_5_s54 fu (fX6_readExpr_5 fu 5) v2 k v.1 v.2.1 v.2.2) n v = some (res, s9) → ∀ (H : Heap) (locs : List Loc) (ls : Array Slot), va_P G.1 vwCl (zw G (XS 2) 105 a (v.2.1) (v.2.2)) H → va_D A (zw G (XS 2) 105 a (v.2.1) (v.2.2)) → va_S A s.heap H locs → lv_has ls 4 [(0, .ref (a 5)), (2, .int v2), (3, .int (v.1))] → W p l e { frames := 51, cells := 0, slots := 0, locals := 1106 } s m [.ref (a 5), .int p1].toArray below meth c H locs 0 0 (MQ below ((kQv G (S := Unit) (fun _ => True) (fun _ => zw G (XS 2) 105 a s9.1 s9.2)) A) [.ref (a 5), .int p1].toArray s 0 0 A) (F0 m 54 ls []) := by
          intro v2
          refine while_ind (fun k54 ih54 v h => ?_)
          obtain ⟨v3, g, L⟩ := v
          intro H locs ls hP hD hS hl
          have h : fX6_readNot_5_s54 fu (fX6_readExpr_5 fu 5) v2 k54 v3 g L = some (res, s9) := h
          have hP : va_P G.1 vwCl (zw G (XS 2) 105 a g L) H := hP
          have hD : va_D A (zw G (XS 2) 105 a g L) := hD
          have hl : lv_has ls 4 [(0, .ref (a 5)), (2, .int v2), (3, .int v3)] := hl
          show W p l e { frames := 51, cells := 0, slots := 0, locals := 1106 } s m [.ref (a 5), .int p1].toArray below meth c H locs 0 0 (MQ below ((kQv G (S := Unit) (fun _ => True) (fun _ => zw G (XS 2) 105 a s9.1 s9.2)) A) [.ref (a 5), .int p1].toArray s 0 0 A) (F0 m 54 ls [])
          unfold fX6_readNot_5_s54 at h
          refine lv_iload_n hx hb dX6_readNot_54 rfl (lv_at hl 2 rfl) ?_
          refine lv_iload_n hx hb dX6_readNot_55 rfl (lv_at hl 1 rfl) ?_
          refine lv_icmp_ge (x := v3) (y := v2) (tgt := 77) hx hb dX6_readNot_56 (by decide) (fun c9 => ?_) (fun c9 => ?_)
          ·
            have h := ite_t c9 h
            exact y_vret C hr hlk hP hD hS h (Nat.le_of_ble_eq_true rfl) (Nat.le_of_ble_eq_true rfl) dX6_readNot_77
          ·
            have h := ite_e c9 h
            refine lv_aload_n hx hb dX6_readNot_59 rfl (lv_at hl 0 rfl) ?_
            refine x_getr (Or.inl fl_X6_15) C hP (by decide) xs_5 rfl dX6_readNot_60 ?_
            refine x_getr (Or.inr fl_X6_125) C hP (by decide) xs_2 rfl dX6_readNot_63 ?_
            refine lv_bipush (v := -15) hx hb dX6_readNot_66 (by decide) ?_
            obtain ⟨z_, g11, L12, hf13, h⟩ := cb_some h
            refine x_callNv (rest := []) li_X6_211 C (rX8_add_4 l G H.size 2 a fu g L (-15) z_ (g11, L12) hf13) (kR rfl) hP hD hS 4 8 rfl (zat (by decide) xs_4) rfl hl.1 rfl (Nat.le_of_ble_eq_true rfl) dX6_readNot_68 (fun u_ H locs e_ hP hD hS => ?_)
            have hP : va_P G.1 vwCl (zw G (XS 2) 105 a g11 L12) H := hP
            have hD : va_D A (zw G (XS 2) 105 a g11 L12) := hD
            refine lv_iinc (v := (v3 + 1)) (lv' := [(3, .int (v3 + 1)), (0, .ref (a 5)), (2, .int v2)]) hx hb dX6_readNot_71 hl (k := 2) rfl rfl (by decide) rfl (fun ls hl => ?_)
            refine lv_goto (tgt := 54) hx hb dX6_readNot_74 (by decide) ?_
            exact ih54 ((v3 + 1), g11, L12) h H locs ls hP hD hS (lv_sub hl [1, 2, 0] rfl)
        exact lp54 v2 fu (0, g6, L7) h H locs ls hP hD hS (lv_sub hl [1, 3, 0] rfl)
      refine lv_if_eq (x := x1) (tgt := 47) hx hb dX6_readNot_33 (by decide) (fun c14 => ?_) (fun c14 => ?_)
      ·
        have h := ite_t c14 h
        exact J47 v1 v2 g2 L3 H locs ls h hP hD hS (lv_sub hl [0, 1, 2] rfl)
      ·
        have h := ite_e c14 h
        refine lv_iload_n hx hb dX6_readNot_36 rfl (lv_at hl 2 rfl) ?_
        refine lv_bipush (v := 6) hx hb dX6_readNot_37 (by decide) ?_
        refine lv_icmp_lt (x := v2) (y := 6) (tgt := 47) hx hb dX6_readNot_39 (by decide) (fun c15 => ?_) (fun c15 => ?_)
        ·
          have h := ite_t c15 h
          exact J47 v1 v2 g2 L3 H locs ls h hP hD hS (lv_sub hl [0, 1, 2] rfl)
        ·
          have h := ite_e c15 h
          refine lv_aload_n hx hb dX6_readNot_42 rfl (lv_at hl 0 rfl) ?_
          refine lv_iconst (v := 2) hx hb dX6_readNot_43 (by decide) ?_
          obtain ⟨z_, g17, L18, hf19, h⟩ := cb_some h
          refine x_callVv (rest := []) li_X6_78 C (rX6_refuse_5 l G H.size a fu g2 L3 2 z_ (g17, L18) hf19) (kR rfl) hP hD hS 5 6 rfl (zat (by decide) xs_5) rfl hl.1 rfl (Nat.le_of_ble_eq_true rfl) dX6_readNot_44 (fun u_ H locs e_ hP hD hS => ?_)
          have hP : va_P G.1 vwCl (zw G (XS 2) 105 a g17 L18) H := hP
          have hD : va_D A (zw G (XS 2) 105 a g17 L18) := hD
          exact J47 v1 v2 g17 L18 H locs ls h hP hD hS (lv_sub hl [0, 1, 2] rfl)
    refine lv_icmp_ge (x := v2) (y := 6) (tgt := 27) hx hb dX6_readNot_5 (by decide) (fun c20 => ?_) (fun c20 => ?_)
    ·
      have h := ite_t c20 h
      exact J27 v1 v2 g L H locs ls h hP hD hS (lv_sub hl [0, 1, 2] rfl)
    ·
      have h := ite_e c20 h
      refine lv_aload_n hx hb dX6_readNot_8 rfl (lv_at hl 0 rfl) ?_
      refine y_ldcS (i := 11) C (by decide) rfl dX6_readNot_9 ?_
      obtain ⟨z_, g22, L23, hf24, h⟩ := cb_some h
      refine x_callVi (rest := []) li_X6_92 C (rX6_isWord_5_not l G H.size a fu g L z_ (g22, L23) hf24) (kR rfl) hP hD hS 5 6 rfl (zat (by decide) xs_5) rfl hl.1 rfl (Nat.le_of_ble_eq_true rfl) dX6_readNot_11 (fun x21 u_ H locs e_ hP hD hS => ?_)
      have e_ : x21 = z_ := e_
      subst e_
      have hP : va_P G.1 vwCl (zw G (XS 2) 105 a g22 L23) H := hP
      have hD : va_D A (zw G (XS 2) 105 a g22 L23) := hD
      refine lv_if_eq (x := x21) (tgt := 27) hx hb dX6_readNot_14 (by decide) (fun c25 => ?_) (fun c25 => ?_)
      ·
        have h := ite_t c25 h
        exact J27 v1 v2 g22 L23 H locs ls h hP hD hS (lv_sub hl [0, 1, 2] rfl)
      ·
        have h := ite_e c25 h
        refine lv_iinc (v := (v2 + 1)) (lv' := [(2, .int (v2 + 1)), (0, .ref (a 5)), (1, .int v1)]) hx hb dX6_readNot_17 hl (k := 2) rfl rfl (by decide) rfl (fun ls hl => ?_)
        refine lv_aload_n hx hb dX6_readNot_20 rfl (lv_at hl 1 rfl) ?_
        obtain ⟨z_, g27, L28, hf29, h⟩ := cb_some h
        refine x_callVv (rest := []) li_X6_53 C (rX6_advance_5 l G H.size a fu g22 L23 z_ (g27, L28) hf29) (kR rfl) hP hD hS 5 6 rfl (zat (by decide) xs_5) rfl hl.1 rfl (Nat.le_of_ble_eq_true rfl) dX6_readNot_21 (fun u_ H locs e_ hP hD hS => ?_)
        have hP : va_P G.1 vwCl (zw G (XS 2) 105 a g27 L28) H := hP
        have hD : va_D A (zw G (XS 2) 105 a g27 L28) := hD
        refine lv_goto (tgt := 2) hx hb dX6_readNot_24 (by decide) ?_
        exact ih2 ((v2 + 1), g27, L28) h H locs ls hP hD hS (lv_sub hl [1, 2, 0] rfl)
  exact lp2 p1 fu (0, g, L) h H locs ls hP hD hS (lv_sub hl [1, 2, 0] rfl)
set_option maxHeartbeats 4000000 in
set_option maxRecDepth 100000 in
theorem rX6_readAnd_5_L6 (l : Launch) (G : kG) (sz : Nat) (a : Nat → Nat) (fu : Nat) (g : Nat → Nat → Int32) (L : Nat → Nat → Int64) (p1 : Int32) (res : Unit) (s9 : zS) (h : fX6_readAnd_5 fu (fX6_readExpr_5 fu 5) p1 g L = some (res, s9)) : kM l yX6_readAnd cX6_readAnd 3 none { frames := 52, cells := 0, slots := 0, locals := 1129 } G [.ref (a 5), .int p1] (zw G (XS 2) 105 a g L) sz (kQv G (S := Unit) (fun _ => True) (fun _ => zw G (XS 2) 105 a s9.1 s9.2)) := by
  refine kM.of (by decide) (Nat.le_of_ble_eq_true rfl) ?_
  intro p e s m below meth c A ls H C hr hlk hnm hP hD hS hl
  have C : kC G p s m c cX6_readAnd 3 RX6 A := C
  have hx := C.1
  have hb := C.2.1
  have hl : lv_has ls 3 [(0, .ref (a 5)), (1, .int p1)] := hl
  obtain ⟨locs, hlocs⟩ : ∃ q : List Loc, q = [] := ⟨_, rfl⟩
  rw [← hlocs] at hS
  rw [← hlocs]
  unfold fX6_readAnd_5 at h
  refine lv_aload_n hx hb dX6_readAnd_0 rfl (lv_at hl 0 rfl) ?_
  refine lv_iload_n hx hb dX6_readAnd_1 rfl (lv_at hl 1 rfl) ?_
  obtain ⟨z_, g2, L3, hf4, h⟩ := cb_some h
  refine x_callVv (rest := []) li_X6_214 C (rX6_readNot_5_L6 l G H.size a fu g L p1 z_ (g2, L3) hf4) (kR rfl) hP hD hS 5 6 rfl (zat (by decide) xs_5) rfl hl.1 rfl (Nat.le_of_ble_eq_true rfl) dX6_readAnd_2 (fun u_ H locs e_ hP hD hS => ?_)
  have hP : va_P G.1 vwCl (zw G (XS 2) 105 a g2 L3) H := hP
  have hD : va_D A (zw G (XS 2) 105 a g2 L3) := hD
  refine lv_iconst (v := 0) hx hb dX6_readAnd_5 (by decide) ?_
  refine lv_istore_n (lv' := [(2, .int 0), (0, .ref (a 5)), (1, .int p1)]) hx hb dX6_readAnd_6 rfl hl (by decide) rfl (fun ls hl => ?_)
  have lp7 : ∀ (v1 : Int32), ∀ (n : Nat) (v : Int32 × (Nat → Nat → Int32) × (Nat → Nat → Int64)), whileK (fun k v => fX6_readAnd_5_s7 fu (fX6_readExpr_5 fu 5) v1 k v.1 v.2.1 v.2.2) n v = some (res, s9) → ∀ (H : Heap) (locs : List Loc) (ls : Array Slot), va_P G.1 vwCl (zw G (XS 2) 105 a (v.2.1) (v.2.2)) H → va_D A (zw G (XS 2) 105 a (v.2.1) (v.2.2)) → va_S A s.heap H locs → lv_has ls 3 [(0, .ref (a 5)), (1, .int v1), (2, .int (v.1))] → W p l e { frames := 52, cells := 0, slots := 0, locals := 1129 } s m [.ref (a 5), .int p1].toArray below meth c H locs 0 0 (MQ below ((kQv G (S := Unit) (fun _ => True) (fun _ => zw G (XS 2) 105 a s9.1 s9.2)) A) [.ref (a 5), .int p1].toArray s 0 0 A) (F0 m 7 ls []) := by
    intro v1
    refine while_ind (fun k7 ih7 v h => ?_)
    obtain ⟨v2, g, L⟩ := v
    intro H locs ls hP hD hS hl
    have h : fX6_readAnd_5_s7 fu (fX6_readExpr_5 fu 5) v1 k7 v2 g L = some (res, s9) := h
    have hP : va_P G.1 vwCl (zw G (XS 2) 105 a g L) H := hP
    have hD : va_D A (zw G (XS 2) 105 a g L) := hD
    have hl : lv_has ls 3 [(0, .ref (a 5)), (1, .int v1), (2, .int v2)] := hl
    show W p l e { frames := 52, cells := 0, slots := 0, locals := 1129 } s m [.ref (a 5), .int p1].toArray below meth c H locs 0 0 (MQ below ((kQv G (S := Unit) (fun _ => True) (fun _ => zw G (XS 2) 105 a s9.1 s9.2)) A) [.ref (a 5), .int p1].toArray s 0 0 A) (F0 m 7 ls [])
    unfold fX6_readAnd_5_s7 at h
    refine lv_iload_n hx hb dX6_readAnd_7 rfl (lv_at hl 2 rfl) ?_
    refine lv_sipush (v := 700) hx hb dX6_readAnd_8 (by decide) ?_
    have J50 : ∀ (g : Nat → Nat → Int32) (L : Nat → Nat → Int64) (H : Heap) (locs : List Loc) (ls : Array Slot), fX6_readAnd_5_p50 fu (fX6_readExpr_5 fu 5) g L = some (res, s9) → va_P G.1 vwCl (zw G (XS 2) 105 a g L) H → va_D A (zw G (XS 2) 105 a g L) → va_S A s.heap H locs → lv_has ls 3 [] → W p l e { frames := 52, cells := 0, slots := 0, locals := 1129 } s m [.ref (a 5), .int p1].toArray below meth c H locs 0 0 (MQ below ((kQv G (S := Unit) (fun _ => True) (fun _ => zw G (XS 2) 105 a s9.1 s9.2)) A) [.ref (a 5), .int p1].toArray s 0 0 A) (F0 m 50 ls []) := by
      intro g L H locs ls h hP hD hS hl
      unfold fX6_readAnd_5_p50 at h
      exact y_vret C hr hlk hP hD hS h (Nat.le_of_ble_eq_true rfl) (Nat.le_of_ble_eq_true rfl) dX6_readAnd_50
    refine lv_icmp_ge (x := v2) (y := 700) (tgt := 50) hx hb dX6_readAnd_11 (by decide) (fun c5 => ?_) (fun c5 => ?_)
    ·
      have h := ite_t c5 h
      exact J50 g L H locs ls h hP hD hS (lv_sub hl [] rfl)
    ·
      have h := ite_e c5 h
      refine lv_aload_n hx hb dX6_readAnd_14 rfl (lv_at hl 0 rfl) ?_
      refine y_ldcS (i := 10) C (by decide) rfl dX6_readAnd_15 ?_
      obtain ⟨z_, g7, L8, hf9, h⟩ := cb_some h
      refine x_callVi (rest := []) li_X6_92 C (rX6_isWord_5_and l G H.size a fu g L z_ (g7, L8) hf9) (kR rfl) hP hD hS 5 6 rfl (zat (by decide) xs_5) rfl hl.1 rfl (Nat.le_of_ble_eq_true rfl) dX6_readAnd_17 (fun x6 u_ H locs e_ hP hD hS => ?_)
      have e_ : x6 = z_ := e_
      subst e_
      have hP : va_P G.1 vwCl (zw G (XS 2) 105 a g7 L8) H := hP
      have hD : va_D A (zw G (XS 2) 105 a g7 L8) := hD
      refine lv_if_eq (x := x6) (tgt := 50) hx hb dX6_readAnd_20 (by decide) (fun c10 => ?_) (fun c10 => ?_)
      ·
        have h := ite_t c10 h
        exact J50 g7 L8 H locs ls h hP hD hS (lv_sub hl [] rfl)
      ·
        have h := ite_e c10 h
        refine lv_aload_n hx hb dX6_readAnd_23 rfl (lv_at hl 0 rfl) ?_
        obtain ⟨z_, g12, L13, hf14, h⟩ := cb_some h
        refine x_callVv (rest := []) li_X6_53 C (rX6_advance_5 l G H.size a fu g7 L8 z_ (g12, L13) hf14) (kR rfl) hP hD hS 5 6 rfl (zat (by decide) xs_5) rfl hl.1 rfl (Nat.le_of_ble_eq_true rfl) dX6_readAnd_24 (fun u_ H locs e_ hP hD hS => ?_)
        have hP : va_P G.1 vwCl (zw G (XS 2) 105 a g12 L13) H := hP
        have hD : va_D A (zw G (XS 2) 105 a g12 L13) := hD
        refine lv_aload_n hx hb dX6_readAnd_27 rfl (lv_at hl 0 rfl) ?_
        refine lv_iload_n hx hb dX6_readAnd_28 rfl (lv_at hl 1 rfl) ?_
        obtain ⟨z_, g16, L17, hf18, h⟩ := cb_some h
        refine x_callVv (rest := []) li_X6_214 C (rX6_readNot_5_L6 l G H.size a fu g12 L13 v1 z_ (g16, L17) hf18) (kR rfl) hP hD hS 5 6 rfl (zat (by decide) xs_5) rfl hl.1 rfl (Nat.le_of_ble_eq_true rfl) dX6_readAnd_29 (fun u_ H locs e_ hP hD hS => ?_)
        have hP : va_P G.1 vwCl (zw G (XS 2) 105 a g16 L17) H := hP
        have hD : va_D A (zw G (XS 2) 105 a g16 L17) := hD
        refine lv_aload_n hx hb dX6_readAnd_32 rfl (lv_at hl 0 rfl) ?_
        refine x_getr (Or.inl fl_X6_15) C hP (by decide) xs_5 rfl dX6_readAnd_33 ?_
        refine x_getr (Or.inr fl_X6_125) C hP (by decide) xs_2 rfl dX6_readAnd_36 ?_
        refine lv_bipush (v := -13) hx hb dX6_readAnd_39 (by decide) ?_
        obtain ⟨z_, g20, L21, hf22, h⟩ := cb_some h
        refine x_callNv (rest := []) li_X6_211 C (rX8_add_4 l G H.size 2 a fu g16 L17 (-13) z_ (g20, L21) hf22) (kR rfl) hP hD hS 4 8 rfl (zat (by decide) xs_4) rfl hl.1 rfl (Nat.le_of_ble_eq_true rfl) dX6_readAnd_41 (fun u_ H locs e_ hP hD hS => ?_)
        have hP : va_P G.1 vwCl (zw G (XS 2) 105 a g20 L21) H := hP
        have hD : va_D A (zw G (XS 2) 105 a g20 L21) := hD
        refine lv_iinc (v := (v2 + 1)) (lv' := [(2, .int (v2 + 1)), (0, .ref (a 5)), (1, .int v1)]) hx hb dX6_readAnd_44 hl (k := 2) rfl rfl (by decide) rfl (fun ls hl => ?_)
        refine lv_goto (tgt := 7) hx hb dX6_readAnd_47 (by decide) ?_
        exact ih7 ((v2 + 1), g20, L21) h H locs ls hP hD hS (lv_sub hl [1, 2, 0] rfl)
  exact lp7 p1 fu (0, g2, L3) h H locs ls hP hD hS (lv_sub hl [1, 2, 0] rfl)
set_option maxHeartbeats 4000000 in
set_option maxRecDepth 100000 in
theorem rX6_readExpr_5_L6 (l : Launch) (G : kG) (sz : Nat) (a : Nat → Nat) (fu : Nat) (g : Nat → Nat → Int32) (L : Nat → Nat → Int64) (p1 : Int32) (res : Unit) (s9 : zS) (h : fX6_readExpr_5 fu 6 p1 g L = some (res, s9)) : kM l yX6_readExpr cX6_readExpr 3 none { frames := 53, cells := 0, slots := 0, locals := 1151 } G [.ref (a 5), .int p1] (zw G (XS 2) 105 a g L) sz (kQv G (S := Unit) (fun _ => True) (fun _ => zw G (XS 2) 105 a s9.1 s9.2)) := by
  refine kM.of (by decide) (Nat.le_of_ble_eq_true rfl) ?_
  intro p e s m below meth c A ls H C hr hlk hnm hP hD hS hl
  have C : kC G p s m c cX6_readExpr 3 RX6 A := C
  have hx := C.1
  have hb := C.2.1
  have hl : lv_has ls 3 [(0, .ref (a 5)), (1, .int p1)] := hl
  obtain ⟨locs, hlocs⟩ : ∃ q : List Loc, q = [] := ⟨_, rfl⟩
  rw [← hlocs] at hS
  rw [← hlocs]
  rw [fX6_readExpr_5_succ] at h
  unfold fX6_readExpr_5B at h
  refine lv_iload_n hx hb dX6_readExpr_0 rfl (lv_at hl 1 rfl) ?_
  refine lv_iconst (v := 5) hx hb dX6_readExpr_1 (by decide) ?_
  have J35 : ∀ (v1 : Int32) (g : Nat → Nat → Int32) (L : Nat → Nat → Int64) (H : Heap) (locs : List Loc) (ls : Array Slot), fX6_readExpr_5_p35 fu (fX6_readExpr_5 fu 5) v1 g L = some (res, s9) → va_P G.1 vwCl (zw G (XS 2) 105 a g L) H → va_D A (zw G (XS 2) 105 a g L) → va_S A s.heap H locs → lv_has ls 3 [(0, .ref (a 5)), (1, .int v1)] → W p l e { frames := 53, cells := 0, slots := 0, locals := 1151 } s m [.ref (a 5), .int p1].toArray below meth c H locs 0 0 (MQ below ((kQv G (S := Unit) (fun _ => True) (fun _ => zw G (XS 2) 105 a s9.1 s9.2)) A) [.ref (a 5), .int p1].toArray s 0 0 A) (F0 m 35 ls []) := by
    intro v1 g L H locs ls h hP hD hS hl
    unfold fX6_readExpr_5_p35 at h
    refine lv_aload_n hx hb dX6_readExpr_35 rfl (lv_at hl 0 rfl) ?_
    refine lv_iload_n hx hb dX6_readExpr_36 rfl (lv_at hl 1 rfl) ?_
    obtain ⟨z_, g2, L3, hf4, h⟩ := cb_some h
    refine x_callVv (rest := []) li_X6_206 C (rX6_readAnd_5_L6 l G H.size a fu g L v1 z_ (g2, L3) hf4) (kR rfl) hP hD hS 5 6 rfl (zat (by decide) xs_5) rfl hl.1 rfl (Nat.le_of_ble_eq_true rfl) dX6_readExpr_37 (fun u_ H locs e_ hP hD hS => ?_)
    have hP : va_P G.1 vwCl (zw G (XS 2) 105 a g2 L3) H := hP
    have hD : va_D A (zw G (XS 2) 105 a g2 L3) := hD
    refine lv_iconst (v := 0) hx hb dX6_readExpr_40 (by decide) ?_
    refine lv_istore_n (lv' := [(2, .int 0), (0, .ref (a 5)), (1, .int v1)]) hx hb dX6_readExpr_41 rfl hl (by decide) rfl (fun ls hl => ?_)
    have lp42 : ∀ (v1 : Int32), ∀ (n : Nat) (v : Int32 × (Nat → Nat → Int32) × (Nat → Nat → Int64)), whileK (fun k v => fX6_readExpr_5_s42 fu (fX6_readExpr_5 fu 5) v1 k v.1 v.2.1 v.2.2) n v = some (res, s9) → ∀ (H : Heap) (locs : List Loc) (ls : Array Slot), va_P G.1 vwCl (zw G (XS 2) 105 a (v.2.1) (v.2.2)) H → va_D A (zw G (XS 2) 105 a (v.2.1) (v.2.2)) → va_S A s.heap H locs → lv_has ls 3 [(0, .ref (a 5)), (1, .int v1), (2, .int (v.1))] → W p l e { frames := 53, cells := 0, slots := 0, locals := 1151 } s m [.ref (a 5), .int p1].toArray below meth c H locs 0 0 (MQ below ((kQv G (S := Unit) (fun _ => True) (fun _ => zw G (XS 2) 105 a s9.1 s9.2)) A) [.ref (a 5), .int p1].toArray s 0 0 A) (F0 m 42 ls []) := by
      intro v1
      refine while_ind (fun k42 ih42 v h => ?_)
      obtain ⟨v2, g, L⟩ := v
      intro H locs ls hP hD hS hl
      have h : fX6_readExpr_5_s42 fu (fX6_readExpr_5 fu 5) v1 k42 v2 g L = some (res, s9) := h
      have hP : va_P G.1 vwCl (zw G (XS 2) 105 a g L) H := hP
      have hD : va_D A (zw G (XS 2) 105 a g L) := hD
      have hl : lv_has ls 3 [(0, .ref (a 5)), (1, .int v1), (2, .int v2)] := hl
      show W p l e { frames := 53, cells := 0, slots := 0, locals := 1151 } s m [.ref (a 5), .int p1].toArray below meth c H locs 0 0 (MQ below ((kQv G (S := Unit) (fun _ => True) (fun _ => zw G (XS 2) 105 a s9.1 s9.2)) A) [.ref (a 5), .int p1].toArray s 0 0 A) (F0 m 42 ls [])
      unfold fX6_readExpr_5_s42 at h
      refine lv_iload_n hx hb dX6_readExpr_42 rfl (lv_at hl 2 rfl) ?_
      refine lv_sipush (v := 700) hx hb dX6_readExpr_43 (by decide) ?_
      have J85 : ∀ (g : Nat → Nat → Int32) (L : Nat → Nat → Int64) (H : Heap) (locs : List Loc) (ls : Array Slot), fX6_readExpr_5_p85 fu (fX6_readExpr_5 fu 5) g L = some (res, s9) → va_P G.1 vwCl (zw G (XS 2) 105 a g L) H → va_D A (zw G (XS 2) 105 a g L) → va_S A s.heap H locs → lv_has ls 3 [] → W p l e { frames := 53, cells := 0, slots := 0, locals := 1151 } s m [.ref (a 5), .int p1].toArray below meth c H locs 0 0 (MQ below ((kQv G (S := Unit) (fun _ => True) (fun _ => zw G (XS 2) 105 a s9.1 s9.2)) A) [.ref (a 5), .int p1].toArray s 0 0 A) (F0 m 85 ls []) := by
        intro g L H locs ls h hP hD hS hl
        unfold fX6_readExpr_5_p85 at h
        exact y_vret C hr hlk hP hD hS h (Nat.le_of_ble_eq_true rfl) (Nat.le_of_ble_eq_true rfl) dX6_readExpr_85
      refine lv_icmp_ge (x := v2) (y := 700) (tgt := 85) hx hb dX6_readExpr_46 (by decide) (fun c5 => ?_) (fun c5 => ?_)
      ·
        have h := ite_t c5 h
        exact J85 g L H locs ls h hP hD hS (lv_sub hl [] rfl)
      ·
        have h := ite_e c5 h
        refine lv_aload_n hx hb dX6_readExpr_49 rfl (lv_at hl 0 rfl) ?_
        refine y_ldcS (i := 9) C (by decide) rfl dX6_readExpr_50 ?_
        obtain ⟨z_, g7, L8, hf9, h⟩ := cb_some h
        refine x_callVi (rest := []) li_X6_92 C (rX6_isWord_5_or l G H.size a fu g L z_ (g7, L8) hf9) (kR rfl) hP hD hS 5 6 rfl (zat (by decide) xs_5) rfl hl.1 rfl (Nat.le_of_ble_eq_true rfl) dX6_readExpr_52 (fun x6 u_ H locs e_ hP hD hS => ?_)
        have e_ : x6 = z_ := e_
        subst e_
        have hP : va_P G.1 vwCl (zw G (XS 2) 105 a g7 L8) H := hP
        have hD : va_D A (zw G (XS 2) 105 a g7 L8) := hD
        refine lv_if_eq (x := x6) (tgt := 85) hx hb dX6_readExpr_55 (by decide) (fun c10 => ?_) (fun c10 => ?_)
        ·
          have h := ite_t c10 h
          exact J85 g7 L8 H locs ls h hP hD hS (lv_sub hl [] rfl)
        ·
          have h := ite_e c10 h
          refine lv_aload_n hx hb dX6_readExpr_58 rfl (lv_at hl 0 rfl) ?_
          obtain ⟨z_, g12, L13, hf14, h⟩ := cb_some h
          refine x_callVv (rest := []) li_X6_53 C (rX6_advance_5 l G H.size a fu g7 L8 z_ (g12, L13) hf14) (kR rfl) hP hD hS 5 6 rfl (zat (by decide) xs_5) rfl hl.1 rfl (Nat.le_of_ble_eq_true rfl) dX6_readExpr_59 (fun u_ H locs e_ hP hD hS => ?_)
          have hP : va_P G.1 vwCl (zw G (XS 2) 105 a g12 L13) H := hP
          have hD : va_D A (zw G (XS 2) 105 a g12 L13) := hD
          refine lv_aload_n hx hb dX6_readExpr_62 rfl (lv_at hl 0 rfl) ?_
          refine lv_iload_n hx hb dX6_readExpr_63 rfl (lv_at hl 1 rfl) ?_
          obtain ⟨z_, g16, L17, hf18, h⟩ := cb_some h
          refine x_callVv (rest := []) li_X6_206 C (rX6_readAnd_5_L6 l G H.size a fu g12 L13 v1 z_ (g16, L17) hf18) (kR rfl) hP hD hS 5 6 rfl (zat (by decide) xs_5) rfl hl.1 rfl (Nat.le_of_ble_eq_true rfl) dX6_readExpr_64 (fun u_ H locs e_ hP hD hS => ?_)
          have hP : va_P G.1 vwCl (zw G (XS 2) 105 a g16 L17) H := hP
          have hD : va_D A (zw G (XS 2) 105 a g16 L17) := hD
          refine lv_aload_n hx hb dX6_readExpr_67 rfl (lv_at hl 0 rfl) ?_
          refine x_getr (Or.inl fl_X6_15) C hP (by decide) xs_5 rfl dX6_readExpr_68 ?_
          refine x_getr (Or.inr fl_X6_125) C hP (by decide) xs_2 rfl dX6_readExpr_71 ?_
          refine lv_bipush (v := -14) hx hb dX6_readExpr_74 (by decide) ?_
          obtain ⟨z_, g20, L21, hf22, h⟩ := cb_some h
          refine x_callNv (rest := []) li_X6_211 C (rX8_add_4 l G H.size 2 a fu g16 L17 (-14) z_ (g20, L21) hf22) (kR rfl) hP hD hS 4 8 rfl (zat (by decide) xs_4) rfl hl.1 rfl (Nat.le_of_ble_eq_true rfl) dX6_readExpr_76 (fun u_ H locs e_ hP hD hS => ?_)
          have hP : va_P G.1 vwCl (zw G (XS 2) 105 a g20 L21) H := hP
          have hD : va_D A (zw G (XS 2) 105 a g20 L21) := hD
          refine lv_iinc (v := (v2 + 1)) (lv' := [(2, .int (v2 + 1)), (0, .ref (a 5)), (1, .int v1)]) hx hb dX6_readExpr_79 hl (k := 2) rfl rfl (by decide) rfl (fun ls hl => ?_)
          refine lv_goto (tgt := 42) hx hb dX6_readExpr_82 (by decide) ?_
          exact ih42 ((v2 + 1), g20, L21) h H locs ls hP hD hS (lv_sub hl [1, 2, 0] rfl)
    exact lp42 v1 fu (0, g2, L3) h H locs ls hP hD hS (lv_sub hl [1, 2, 0] rfl)
  refine lv_icmp_le (x := p1) (y := 5) (tgt := 35) hx hb dX6_readExpr_2 (by decide) (fun c23 => ?_) (fun c23 => ?_)
  ·
    have h := ite_t c23 h
    exact J35 p1 g L H locs ls h hP hD hS (lv_sub hl [0, 1] rfl)
  ·
    have h := ite_e c23 h
    refine lv_aload_n hx hb dX6_readExpr_5 rfl (lv_at hl 0 rfl) ?_
    refine x_getv (v := .int (g 5 4)) (Or.inl fl_X6_50) C hP (by decide) xs_5 rfl dX6_readExpr_6 ?_
    refine lv_iconst (v := 1) hx hb dX6_readExpr_9 (by decide) ?_
    have J30 : ∀ (v1 : Int32) (g : Nat → Nat → Int32) (L : Nat → Nat → Int64) (H : Heap) (locs : List Loc) (ls : Array Slot), fX6_readExpr_5_p30 fu (fX6_readExpr_5 fu 5) v1 g L = some (res, s9) → va_P G.1 vwCl (zw G (XS 2) 105 a g L) H → va_D A (zw G (XS 2) 105 a g L) → va_S A s.heap H locs → lv_has ls 3 [(0, .ref (a 5)), (1, .int v1)] → W p l e { frames := 53, cells := 0, slots := 0, locals := 1151 } s m [.ref (a 5), .int p1].toArray below meth c H locs 0 0 (MQ below ((kQv G (S := Unit) (fun _ => True) (fun _ => zw G (XS 2) 105 a s9.1 s9.2)) A) [.ref (a 5), .int p1].toArray s 0 0 A) (F0 m 30 ls []) := by
      intro v1 g L H locs ls h hP hD hS hl
      unfold fX6_readExpr_5_p30 at h
      refine lv_aload_n hx hb dX6_readExpr_30 rfl (lv_at hl 0 rfl) ?_
      refine lv_iconst (v := 2) hx hb dX6_readExpr_31 (by decide) ?_
      obtain ⟨z_, g25, L26, hf27, h⟩ := cb_some h
      refine x_callVv (rest := []) li_X6_78 C (rX6_refuse_5 l G H.size a fu g L 2 z_ (g25, L26) hf27) (kR rfl) hP hD hS 5 6 rfl (zat (by decide) xs_5) rfl hl.1 rfl (Nat.le_of_ble_eq_true rfl) dX6_readExpr_32 (fun u_ H locs e_ hP hD hS => ?_)
      have hP : va_P G.1 vwCl (zw G (XS 2) 105 a g25 L26) H := hP
      have hD : va_D A (zw G (XS 2) 105 a g25 L26) := hD
      exact J35 v1 g25 L26 H locs ls h hP hD hS (lv_sub hl [0, 1] rfl)
    refine lv_icmp_eq (x := (g 5 4)) (y := 1) (tgt := 30) hx hb dX6_readExpr_10 (by decide) (fun c28 => ?_) (fun c28 => ?_)
    ·
      have h := ite_t c28 h
      exact J30 p1 g L H locs ls h hP hD hS (lv_sub hl [0, 1] rfl)
    ·
      have h := ite_e c28 h
      refine lv_aload_n hx hb dX6_readExpr_13 rfl (lv_at hl 0 rfl) ?_
      refine x_getv (v := .int (g 5 4)) (Or.inl fl_X6_50) C hP (by decide) xs_5 rfl dX6_readExpr_14 ?_
      refine lv_iconst (v := 2) hx hb dX6_readExpr_17 (by decide) ?_
      refine lv_icmp_eq (x := (g 5 4)) (y := 2) (tgt := 30) hx hb dX6_readExpr_18 (by decide) (fun c29 => ?_) (fun c29 => ?_)
      ·
        have h := ite_t c29 h
        exact J30 p1 g L H locs ls h hP hD hS (lv_sub hl [0, 1] rfl)
      ·
        have h := ite_e c29 h
        refine lv_aload_n hx hb dX6_readExpr_21 rfl (lv_at hl 0 rfl) ?_
        refine lv_bipush (v := 40) hx hb dX6_readExpr_22 (by decide) ?_
        obtain ⟨z_, g31, L32, hf33, h⟩ := cb_some h
        refine x_callVi (rest := []) li_X6_86 C (rX6_isSignNow_5 l G H.size a fu g L 40 z_ (g31, L32) hf33) (kR rfl) hP hD hS 5 6 rfl (zat (by decide) xs_5) rfl hl.1 rfl (Nat.le_of_ble_eq_true rfl) dX6_readExpr_24 (fun x30 u_ H locs e_ hP hD hS => ?_)
        have e_ : x30 = z_ := e_
        subst e_
        have hP : va_P G.1 vwCl (zw G (XS 2) 105 a g31 L32) H := hP
        have hD : va_D A (zw G (XS 2) 105 a g31 L32) := hD
        refine lv_if_eq (x := x30) (tgt := 35) hx hb dX6_readExpr_27 (by decide) (fun c34 => ?_) (fun c34 => ?_)
        ·
          have h := ite_t c34 h
          exact J35 p1 g31 L32 H locs ls h hP hD hS (lv_sub hl [0, 1] rfl)
        ·
          have h := ite_e c34 h
          exact J30 p1 g31 L32 H locs ls h hP hD hS (lv_sub hl [0, 1] rfl)
set_option maxHeartbeats 4000000 in
set_option maxRecDepth 100000 in
theorem rX6_readPart_5_L7 (l : Launch) (G : kG) (sz : Nat) (a : Nat → Nat) (fu : Nat) (g : Nat → Nat → Int32) (L : Nat → Nat → Int64) (p1 : Int32) (res : Unit) (s9 : zS) (h : fX6_readPart_5 fu (fX6_readExpr_5 fu 6) p1 g L = some (res, s9)) : kM l yX6_readPart cX6_readPart 3 none { frames := 54, cells := 0, slots := 0, locals := 1173 } G [.ref (a 5), .int p1] (zw G (XS 2) 105 a g L) sz (kQv G (S := Unit) (fun _ => True) (fun _ => zw G (XS 2) 105 a s9.1 s9.2)) := by
  refine kM.of (by decide) (Nat.le_of_ble_eq_true rfl) ?_
  intro p e s m below meth c A ls H C hr hlk hnm hP hD hS hl
  have C : kC G p s m c cX6_readPart 3 RX6 A := C
  have hx := C.1
  have hb := C.2.1
  have hl : lv_has ls 3 [(0, .ref (a 5)), (1, .int p1)] := hl
  obtain ⟨locs, hlocs⟩ : ∃ q : List Loc, q = [] := ⟨_, rfl⟩
  rw [← hlocs] at hS
  rw [← hlocs]
  unfold fX6_readPart_5 at h
  refine lv_aload_n hx hb dX6_readPart_0 rfl (lv_at hl 0 rfl) ?_
  refine x_getv (v := .int (g 5 4)) (Or.inl fl_X6_50) C hP (by decide) xs_5 rfl dX6_readPart_1 ?_
  refine lv_iconst (v := 1) hx hb dX6_readPart_4 (by decide) ?_
  have J111 : ∀ (g : Nat → Nat → Int32) (L : Nat → Nat → Int64) (H : Heap) (locs : List Loc) (ls : Array Slot), fX6_readPart_5_p111 fu (fX6_readExpr_5 fu 6) g L = some (res, s9) → va_P G.1 vwCl (zw G (XS 2) 105 a g L) H → va_D A (zw G (XS 2) 105 a g L) → va_S A s.heap H locs → lv_has ls 3 [] → W p l e { frames := 54, cells := 0, slots := 0, locals := 1173 } s m [.ref (a 5), .int p1].toArray below meth c H locs 0 0 (MQ below ((kQv G (S := Unit) (fun _ => True) (fun _ => zw G (XS 2) 105 a s9.1 s9.2)) A) [.ref (a 5), .int p1].toArray s 0 0 A) (F0 m 111 ls []) := by
    intro g L H locs ls h hP hD hS hl
    unfold fX6_readPart_5_p111 at h
    exact y_vret C hr hlk hP hD hS h (Nat.le_of_ble_eq_true rfl) (Nat.le_of_ble_eq_true rfl) dX6_readPart_111
  refine lv_icmp_ne (x := (g 5 4)) (y := 1) (tgt := 29) hx hb dX6_readPart_5 (by decide) (fun c1 => ?_) (fun c1 => ?_)
  ·
    have h := ite_e c1 h
    refine lv_aload_n hx hb dX6_readPart_29 rfl (lv_at hl 0 rfl) ?_
    refine x_getv (v := .int (g 5 4)) (Or.inl fl_X6_50) C hP (by decide) xs_5 rfl dX6_readPart_30 ?_
    refine lv_iconst (v := 2) hx hb dX6_readPart_33 (by decide) ?_
    refine lv_icmp_ne (x := (g 5 4)) (y := 2) (tgt := 72) hx hb dX6_readPart_34 (by decide) (fun c2 => ?_) (fun c2 => ?_)
    ·
      have h := ite_e c2 h
      refine lv_aload_n hx hb dX6_readPart_72 rfl (lv_at hl 0 rfl) ?_
      refine lv_bipush (v := 40) hx hb dX6_readPart_73 (by decide) ?_
      obtain ⟨z_, g4, L5, hf6, h⟩ := cb_some h
      refine x_callVi (rest := []) li_X6_86 C (rX6_isSignNow_5 l G H.size a fu g L 40 z_ (g4, L5) hf6) (kR rfl) hP hD hS 5 6 rfl (zat (by decide) xs_5) rfl hl.1 rfl (Nat.le_of_ble_eq_true rfl) dX6_readPart_75 (fun x3 u_ H locs e_ hP hD hS => ?_)
      have e_ : x3 = z_ := e_
      subst e_
      have hP : va_P G.1 vwCl (zw G (XS 2) 105 a g4 L5) H := hP
      have hD : va_D A (zw G (XS 2) 105 a g4 L5) := hD
      have J106 : ∀ (g : Nat → Nat → Int32) (L : Nat → Nat → Int64) (H : Heap) (locs : List Loc) (ls : Array Slot), fX6_readPart_5_p106 fu (fX6_readExpr_5 fu 6) g L = some (res, s9) → va_P G.1 vwCl (zw G (XS 2) 105 a g L) H → va_D A (zw G (XS 2) 105 a g L) → va_S A s.heap H locs → lv_has ls 3 [(0, .ref (a 5))] → W p l e { frames := 54, cells := 0, slots := 0, locals := 1173 } s m [.ref (a 5), .int p1].toArray below meth c H locs 0 0 (MQ below ((kQv G (S := Unit) (fun _ => True) (fun _ => zw G (XS 2) 105 a s9.1 s9.2)) A) [.ref (a 5), .int p1].toArray s 0 0 A) (F0 m 106 ls []) := by
        intro g L H locs ls h hP hD hS hl
        unfold fX6_readPart_5_p106 at h
        refine lv_aload_n hx hb dX6_readPart_106 rfl (lv_at hl 0 rfl) ?_
        refine lv_iconst (v := 1) hx hb dX6_readPart_107 (by decide) ?_
        obtain ⟨z_, g8, L9, hf10, h⟩ := cb_some h
        refine x_callVv (rest := []) li_X6_78 C (rX6_refuse_5 l G H.size a fu g L 1 z_ (g8, L9) hf10) (kR rfl) hP hD hS 5 6 rfl (zat (by decide) xs_5) rfl hl.1 rfl (Nat.le_of_ble_eq_true rfl) dX6_readPart_108 (fun u_ H locs e_ hP hD hS => ?_)
        have hP : va_P G.1 vwCl (zw G (XS 2) 105 a g8 L9) H := hP
        have hD : va_D A (zw G (XS 2) 105 a g8 L9) := hD
        exact J111 g8 L9 H locs ls h hP hD hS (lv_sub hl [] rfl)
      refine lv_if_eq (x := x3) (tgt := 106) hx hb dX6_readPart_78 (by decide) (fun c11 => ?_) (fun c11 => ?_)
      ·
        have h := ite_t c11 h
        exact J106 g4 L5 H locs ls h hP hD hS (lv_sub hl [0] rfl)
      ·
        have h := ite_e c11 h
        refine lv_iload_n hx hb dX6_readPart_81 rfl (lv_at hl 1 rfl) ?_
        refine lv_iconst (v := 5) hx hb dX6_readPart_82 (by decide) ?_
        refine lv_icmp_gt (x := p1) (y := 5) (tgt := 106) hx hb dX6_readPart_83 (by decide) (fun c12 => ?_) (fun c12 => ?_)
        ·
          have h := ite_t c12 h
          exact J106 g4 L5 H locs ls h hP hD hS (lv_sub hl [0] rfl)
        ·
          have h := ite_e c12 h
          refine lv_aload_n hx hb dX6_readPart_86 rfl (lv_at hl 0 rfl) ?_
          obtain ⟨z_, g14, L15, hf16, h⟩ := cb_some h
          refine x_callVv (rest := []) li_X6_53 C (rX6_advance_5 l G H.size a fu g4 L5 z_ (g14, L15) hf16) (kR rfl) hP hD hS 5 6 rfl (zat (by decide) xs_5) rfl hl.1 rfl (Nat.le_of_ble_eq_true rfl) dX6_readPart_87 (fun u_ H locs e_ hP hD hS => ?_)
          have hP : va_P G.1 vwCl (zw G (XS 2) 105 a g14 L15) H := hP
          have hD : va_D A (zw G (XS 2) 105 a g14 L15) := hD
          refine lv_aload_n hx hb dX6_readPart_90 rfl (lv_at hl 0 rfl) ?_
          refine lv_iload_n hx hb dX6_readPart_91 rfl (lv_at hl 1 rfl) ?_
          refine lv_iconst (v := 1) hx hb dX6_readPart_92 (by decide) ?_
          refine lv_iadd hx hb dX6_readPart_93 ?_
          obtain ⟨z_, g18, L19, hf20, h⟩ := cb_some h
          refine x_callVv (rest := []) li_X6_134 C (rX6_readExpr_5_L6 l G H.size a fu g14 L15 (p1 + 1) z_ (g18, L19) hf20) (kR rfl) hP hD hS 5 6 rfl (zat (by decide) xs_5) rfl hl.1 rfl (Nat.le_of_ble_eq_true rfl) dX6_readPart_94 (fun u_ H locs e_ hP hD hS => ?_)
          have hP : va_P G.1 vwCl (zw G (XS 2) 105 a g18 L19) H := hP
          have hD : va_D A (zw G (XS 2) 105 a g18 L19) := hD
          refine lv_aload_n hx hb dX6_readPart_97 rfl (lv_at hl 0 rfl) ?_
          refine lv_bipush (v := 41) hx hb dX6_readPart_98 (by decide) ?_
          obtain ⟨z_, g22, L23, hf24, h⟩ := cb_some h
          refine x_callVv (rest := []) li_X6_114 C (rX6_readSign_5 l G H.size a fu g18 L19 41 z_ (g22, L23) hf24) (kR rfl) hP hD hS 5 6 rfl (zat (by decide) xs_5) rfl hl.1 rfl (Nat.le_of_ble_eq_true rfl) dX6_readPart_100 (fun u_ H locs e_ hP hD hS => ?_)
          have hP : va_P G.1 vwCl (zw G (XS 2) 105 a g22 L23) H := hP
          have hD : va_D A (zw G (XS 2) 105 a g22 L23) := hD
          refine lv_goto (tgt := 111) hx hb dX6_readPart_103 (by decide) ?_
          exact J111 g22 L23 H locs ls h hP hD hS (lv_sub hl [] rfl)
    ·
      have h := ite_t c2 h
      refine lv_aload_n hx hb dX6_readPart_37 rfl (lv_at hl 0 rfl) ?_
      obtain ⟨z_, g26, L27, hf28, h⟩ := cb_some h
      refine x_callVi (rest := []) li_X6_233 C (rX6_valueNow_5 l G H.size a fu g L z_ (g26, L27) hf28) (kR rfl) hP hD hS 5 6 rfl (zat (by decide) xs_5) rfl hl.1 rfl (Nat.le_of_ble_eq_true rfl) dX6_readPart_38 (fun x25 u_ H locs e_ hP hD hS => ?_)
      have e_ : x25 = z_ := e_
      subst e_
      have hP : va_P G.1 vwCl (zw G (XS 2) 105 a g26 L27) H := hP
      have hD : va_D A (zw G (XS 2) 105 a g26 L27) := hD
      refine lv_istore_n (lv' := [(2, .int x25), (0, .ref (a 5)), (1, .int p1)]) hx hb dX6_readPart_41 rfl hl (by decide) rfl (fun ls hl => ?_)
      refine lv_iload_n hx hb dX6_readPart_42 rfl (lv_at hl 0 rfl) ?_
      refine lv_iconst (v := -1) hx hb dX6_readPart_43 (by decide) ?_
      have J52 : ∀ (v2 : Int32) (g : Nat → Nat → Int32) (L : Nat → Nat → Int64) (H : Heap) (locs : List Loc) (ls : Array Slot), fX6_readPart_5_p52 fu (fX6_readExpr_5 fu 6) v2 g L = some (res, s9) → va_P G.1 vwCl (zw G (XS 2) 105 a g L) H → va_D A (zw G (XS 2) 105 a g L) → va_S A s.heap H locs → lv_has ls 3 [(0, .ref (a 5)), (2, .int v2)] → W p l e { frames := 54, cells := 0, slots := 0, locals := 1173 } s m [.ref (a 5), .int p1].toArray below meth c H locs 0 0 (MQ below ((kQv G (S := Unit) (fun _ => True) (fun _ => zw G (XS 2) 105 a s9.1 s9.2)) A) [.ref (a 5), .int p1].toArray s 0 0 A) (F0 m 52 ls []) := by
        intro v2 g L H locs ls h hP hD hS hl
        unfold fX6_readPart_5_p52 at h
        refine lv_aload_n hx hb dX6_readPart_52 rfl (lv_at hl 0 rfl) ?_
        refine x_getr (Or.inl fl_X6_15) C hP (by decide) xs_5 rfl dX6_readPart_53 ?_
        refine x_getr (Or.inr fl_X6_125) C hP (by decide) xs_2 rfl dX6_readPart_56 ?_
        refine lv_iconst (v := -1) hx hb dX6_readPart_59 (by decide) ?_
        refine lv_iload_n hx hb dX6_readPart_60 rfl (lv_at hl 1 rfl) ?_
        refine lv_isub hx hb dX6_readPart_61 ?_
        obtain ⟨z_, g30, L31, hf32, h⟩ := cb_some h
        refine x_callNv (rest := []) li_X6_211 C (rX8_add_4 l G H.size 2 a fu g L ((-1) - v2) z_ (g30, L31) hf32) (kR rfl) hP hD hS 4 8 rfl (zat (by decide) xs_4) rfl hl.1 rfl (Nat.le_of_ble_eq_true rfl) dX6_readPart_62 (fun u_ H locs e_ hP hD hS => ?_)
        have hP : va_P G.1 vwCl (zw G (XS 2) 105 a g30 L31) H := hP
        have hD : va_D A (zw G (XS 2) 105 a g30 L31) := hD
        refine lv_aload_n hx hb dX6_readPart_65 rfl (lv_at hl 0 rfl) ?_
        obtain ⟨z_, g34, L35, hf36, h⟩ := cb_some h
        refine x_callVv (rest := []) li_X6_53 C (rX6_advance_5 l G H.size a fu g30 L31 z_ (g34, L35) hf36) (kR rfl) hP hD hS 5 6 rfl (zat (by decide) xs_5) rfl hl.1 rfl (Nat.le_of_ble_eq_true rfl) dX6_readPart_66 (fun u_ H locs e_ hP hD hS => ?_)
        have hP : va_P G.1 vwCl (zw G (XS 2) 105 a g34 L35) H := hP
        have hD : va_D A (zw G (XS 2) 105 a g34 L35) := hD
        refine lv_goto (tgt := 111) hx hb dX6_readPart_69 (by decide) ?_
        exact J111 g34 L35 H locs ls h hP hD hS (lv_sub hl [] rfl)
      refine lv_icmp_ne (x := x25) (y := (-1)) (tgt := 52) hx hb dX6_readPart_44 (by decide) (fun c37 => ?_) (fun c37 => ?_)
      ·
        have h := ite_e c37 h
        exact J52 x25 g26 L27 H locs ls h hP hD hS (lv_sub hl [1, 0] rfl)
      ·
        have h := ite_t c37 h
        refine lv_aload_n hx hb dX6_readPart_47 rfl (lv_at hl 1 rfl) ?_
        refine lv_iconst (v := 3) hx hb dX6_readPart_48 (by decide) ?_
        obtain ⟨z_, g39, L40, hf41, h⟩ := cb_some h
        refine x_callVv (rest := []) li_X6_78 C (rX6_refuse_5 l G H.size a fu g26 L27 3 z_ (g39, L40) hf41) (kR rfl) hP hD hS 5 6 rfl (zat (by decide) xs_5) rfl hl.1 rfl (Nat.le_of_ble_eq_true rfl) dX6_readPart_49 (fun u_ H locs e_ hP hD hS => ?_)
        have hP : va_P G.1 vwCl (zw G (XS 2) 105 a g39 L40) H := hP
        have hD : va_D A (zw G (XS 2) 105 a g39 L40) := hD
        exact J52 x25 g39 L40 H locs ls h hP hD hS (lv_sub hl [1, 0] rfl)
  ·
    have h := ite_t c1 h
    refine lv_aload_n hx hb dX6_readPart_8 rfl (lv_at hl 0 rfl) ?_
    refine x_getr (Or.inl fl_X6_15) C hP (by decide) xs_5 rfl dX6_readPart_9 ?_
    refine x_getr (Or.inr fl_X6_125) C hP (by decide) xs_2 rfl dX6_readPart_12 ?_
    refine lv_aload_n hx hb dX6_readPart_15 rfl (lv_at hl 0 rfl) ?_
    refine lv_iconst (v := 0) hx hb dX6_readPart_16 (by decide) ?_
    refine lv_sipush (v := 9999) hx hb dX6_readPart_17 (by decide) ?_
    obtain ⟨z_, g43, L44, hf45, h⟩ := cb_some h
    refine x_callVi (rest := [.ref (a 4)]) li_X6_118 C (rX6_readNumber_5 l G H.size a fu g L 0 9999 z_ (g43, L44) hf45) (kR rfl) hP hD hS 5 6 rfl (zat (by decide) xs_5) rfl hl.1 rfl (Nat.le_of_ble_eq_true rfl) dX6_readPart_20 (fun x42 u_ H locs e_ hP hD hS => ?_)
    have e_ : x42 = z_ := e_
    subst e_
    have hP : va_P G.1 vwCl (zw G (XS 2) 105 a g43 L44) H := hP
    have hD : va_D A (zw G (XS 2) 105 a g43 L44) := hD
    obtain ⟨z_, g47, L48, hf49, h⟩ := cb_some h
    refine x_callNv (rest := []) li_X6_211 C (rX8_add_4 l G H.size 2 a fu g43 L44 x42 z_ (g47, L48) hf49) (kR rfl) hP hD hS 4 8 rfl (zat (by decide) xs_4) rfl hl.1 rfl (Nat.le_of_ble_eq_true rfl) dX6_readPart_23 (fun u_ H locs e_ hP hD hS => ?_)
    have hP : va_P G.1 vwCl (zw G (XS 2) 105 a g47 L48) H := hP
    have hD : va_D A (zw G (XS 2) 105 a g47 L48) := hD
    refine lv_goto (tgt := 111) hx hb dX6_readPart_26 (by decide) ?_
    exact J111 g47 L48 H locs ls h hP hD hS (lv_sub hl [] rfl)
set_option maxHeartbeats 4000000 in
set_option maxRecDepth 100000 in
theorem rX6_readProduct_5_L7 (l : Launch) (G : kG) (sz : Nat) (a : Nat → Nat) (fu : Nat) (g : Nat → Nat → Int32) (L : Nat → Nat → Int64) (p1 : Int32) (res : Unit) (s9 : zS) (h : fX6_readProduct_5 fu (fX6_readExpr_5 fu 6) p1 g L = some (res, s9)) : kM l yX6_readProduct cX6_readProduct 4 none { frames := 55, cells := 0, slots := 0, locals := 1195 } G [.ref (a 5), .int p1] (zw G (XS 2) 105 a g L) sz (kQv G (S := Unit) (fun _ => True) (fun _ => zw G (XS 2) 105 a s9.1 s9.2)) := by
  refine kM.of (by decide) (Nat.le_of_ble_eq_true rfl) ?_
  intro p e s m below meth c A ls H C hr hlk hnm hP hD hS hl
  have C : kC G p s m c cX6_readProduct 4 RX6 A := C
  have hx := C.1
  have hb := C.2.1
  have hl : lv_has ls 4 [(0, .ref (a 5)), (1, .int p1)] := hl
  obtain ⟨locs, hlocs⟩ : ∃ q : List Loc, q = [] := ⟨_, rfl⟩
  rw [← hlocs] at hS
  rw [← hlocs]
  unfold fX6_readProduct_5 at h
  refine lv_aload_n hx hb dX6_readProduct_0 rfl (lv_at hl 0 rfl) ?_
  refine lv_iload_n hx hb dX6_readProduct_1 rfl (lv_at hl 1 rfl) ?_
  obtain ⟨z_, g2, L3, hf4, h⟩ := cb_some h
  refine x_callVv (rest := []) li_X6_230 C (rX6_readPart_5_L7 l G H.size a fu g L p1 z_ (g2, L3) hf4) (kR rfl) hP hD hS 5 6 rfl (zat (by decide) xs_5) rfl hl.1 rfl (Nat.le_of_ble_eq_true rfl) dX6_readProduct_2 (fun u_ H locs e_ hP hD hS => ?_)
  have hP : va_P G.1 vwCl (zw G (XS 2) 105 a g2 L3) H := hP
  have hD : va_D A (zw G (XS 2) 105 a g2 L3) := hD
  refine lv_iconst (v := 0) hx hb dX6_readProduct_5 (by decide) ?_
  refine lv_istore_n (lv' := [(2, .int 0), (0, .ref (a 5)), (1, .int p1)]) hx hb dX6_readProduct_6 rfl hl (by decide) rfl (fun ls hl => ?_)
  have lp7 : ∀ (v1 : Int32), ∀ (n : Nat) (v : Int32 × (Nat → Nat → Int32) × (Nat → Nat → Int64)), whileK (fun k v => fX6_readProduct_5_s7 fu (fX6_readExpr_5 fu 6) v1 k v.1 v.2.1 v.2.2) n v = some (res, s9) → ∀ (H : Heap) (locs : List Loc) (ls : Array Slot), va_P G.1 vwCl (zw G (XS 2) 105 a (v.2.1) (v.2.2)) H → va_D A (zw G (XS 2) 105 a (v.2.1) (v.2.2)) → va_S A s.heap H locs → lv_has ls 4 [(0, .ref (a 5)), (1, .int v1), (2, .int (v.1))] → W p l e { frames := 55, cells := 0, slots := 0, locals := 1195 } s m [.ref (a 5), .int p1].toArray below meth c H locs 0 0 (MQ below ((kQv G (S := Unit) (fun _ => True) (fun _ => zw G (XS 2) 105 a s9.1 s9.2)) A) [.ref (a 5), .int p1].toArray s 0 0 A) (F0 m 7 ls []) := by
    intro v1
    refine while_ind (fun k7 ih7 v h => ?_)
    obtain ⟨v2, g, L⟩ := v
    intro H locs ls hP hD hS hl
    have h : fX6_readProduct_5_s7 fu (fX6_readExpr_5 fu 6) v1 k7 v2 g L = some (res, s9) := h
    have hP : va_P G.1 vwCl (zw G (XS 2) 105 a g L) H := hP
    have hD : va_D A (zw G (XS 2) 105 a g L) := hD
    have hl : lv_has ls 4 [(0, .ref (a 5)), (1, .int v1), (2, .int v2)] := hl
    show W p l e { frames := 55, cells := 0, slots := 0, locals := 1195 } s m [.ref (a 5), .int p1].toArray below meth c H locs 0 0 (MQ below ((kQv G (S := Unit) (fun _ => True) (fun _ => zw G (XS 2) 105 a s9.1 s9.2)) A) [.ref (a 5), .int p1].toArray s 0 0 A) (F0 m 7 ls [])
    unfold fX6_readProduct_5_s7 at h
    refine lv_iload_n hx hb dX6_readProduct_7 rfl (lv_at hl 2 rfl) ?_
    refine lv_sipush (v := 700) hx hb dX6_readProduct_8 (by decide) ?_
    have J75 : ∀ (g : Nat → Nat → Int32) (L : Nat → Nat → Int64) (H : Heap) (locs : List Loc) (ls : Array Slot), fX6_readProduct_5_p75 fu (fX6_readExpr_5 fu 6) g L = some (res, s9) → va_P G.1 vwCl (zw G (XS 2) 105 a g L) H → va_D A (zw G (XS 2) 105 a g L) → va_S A s.heap H locs → lv_has ls 4 [] → W p l e { frames := 55, cells := 0, slots := 0, locals := 1195 } s m [.ref (a 5), .int p1].toArray below meth c H locs 0 0 (MQ below ((kQv G (S := Unit) (fun _ => True) (fun _ => zw G (XS 2) 105 a s9.1 s9.2)) A) [.ref (a 5), .int p1].toArray s 0 0 A) (F0 m 75 ls []) := by
      intro g L H locs ls h hP hD hS hl
      unfold fX6_readProduct_5_p75 at h
      exact y_vret C hr hlk hP hD hS h (Nat.le_of_ble_eq_true rfl) (Nat.le_of_ble_eq_true rfl) dX6_readProduct_75
    refine lv_icmp_ge (x := v2) (y := 700) (tgt := 75) hx hb dX6_readProduct_11 (by decide) (fun c5 => ?_) (fun c5 => ?_)
    ·
      have h := ite_t c5 h
      exact J75 g L H locs ls h hP hD hS (lv_sub hl [] rfl)
    ·
      have h := ite_e c5 h
      refine lv_aload_n hx hb dX6_readProduct_14 rfl (lv_at hl 0 rfl) ?_
      refine lv_bipush (v := 42) hx hb dX6_readProduct_15 (by decide) ?_
      obtain ⟨z_, g7, L8, hf9, h⟩ := cb_some h
      refine x_callVi (rest := []) li_X6_86 C (rX6_isSignNow_5 l G H.size a fu g L 42 z_ (g7, L8) hf9) (kR rfl) hP hD hS 5 6 rfl (zat (by decide) xs_5) rfl hl.1 rfl (Nat.le_of_ble_eq_true rfl) dX6_readProduct_17 (fun x6 u_ H locs e_ hP hD hS => ?_)
      have e_ : x6 = z_ := e_
      subst e_
      have hP : va_P G.1 vwCl (zw G (XS 2) 105 a g7 L8) H := hP
      have hD : va_D A (zw G (XS 2) 105 a g7 L8) := hD
      have J32 : ∀ (v2 : Int32) (g : Nat → Nat → Int32) (L : Nat → Nat → Int64) (H : Heap) (locs : List Loc) (ls : Array Slot), fX6_readProduct_5_p32 fu (fX6_readExpr_5 fu 6) k7 v1 v2 g L = some (res, s9) → va_P G.1 vwCl (zw G (XS 2) 105 a g L) H → va_D A (zw G (XS 2) 105 a g L) → va_S A s.heap H locs → lv_has ls 4 [(0, .ref (a 5)), (1, .int v1), (2, .int v2)] → W p l e { frames := 55, cells := 0, slots := 0, locals := 1195 } s m [.ref (a 5), .int p1].toArray below meth c H locs 0 0 (MQ below ((kQv G (S := Unit) (fun _ => True) (fun _ => zw G (XS 2) 105 a s9.1 s9.2)) A) [.ref (a 5), .int p1].toArray s 0 0 A) (F0 m 32 ls []) := by
        intro v2 g L H locs ls h hP hD hS hl
        unfold fX6_readProduct_5_p32 at h
        refine lv_aload_n hx hb dX6_readProduct_32 rfl (lv_at hl 0 rfl) ?_
        refine lv_bipush (v := 42) hx hb dX6_readProduct_33 (by decide) ?_
        obtain ⟨z_, g11, L12, hf13, h⟩ := cb_some h
        refine x_callVi (rest := []) li_X6_86 C (rX6_isSignNow_5 l G H.size a fu g L 42 z_ (g11, L12) hf13) (kR rfl) hP hD hS 5 6 rfl (zat (by decide) xs_5) rfl hl.1 rfl (Nat.le_of_ble_eq_true rfl) dX6_readProduct_35 (fun x10 u_ H locs e_ hP hD hS => ?_)
        have e_ : x10 = z_ := e_
        subst e_
        have hP : va_P G.1 vwCl (zw G (XS 2) 105 a g11 L12) H := hP
        have hD : va_D A (zw G (XS 2) 105 a g11 L12) := hD
        have J48 : ∀ (v2 : Int32) (t0 : Int32) (g : Nat → Nat → Int32) (L : Nat → Nat → Int64) (H : Heap) (locs : List Loc) (ls : Array Slot), fX6_readProduct_5_p48 fu (fX6_readExpr_5 fu 6) k7 v1 v2 t0 g L = some (res, s9) → va_P G.1 vwCl (zw G (XS 2) 105 a g L) H → va_D A (zw G (XS 2) 105 a g L) → va_S A s.heap H locs → lv_has ls 4 [(0, .ref (a 5)), (1, .int v1), (2, .int v2)] → W p l e { frames := 55, cells := 0, slots := 0, locals := 1195 } s m [.ref (a 5), .int p1].toArray below meth c H locs 0 0 (MQ below ((kQv G (S := Unit) (fun _ => True) (fun _ => zw G (XS 2) 105 a s9.1 s9.2)) A) [.ref (a 5), .int p1].toArray s 0 0 A) (F0 m 48 ls [.int t0]) := by
          intro v2 t0 g L H locs ls h hP hD hS hl
          unfold fX6_readProduct_5_p48 at h
          refine lv_istore_n (lv' := [(3, .int t0), (0, .ref (a 5)), (1, .int v1), (2, .int v2)]) hx hb dX6_readProduct_48 rfl hl (by decide) rfl (fun ls hl => ?_)
          refine lv_aload_n hx hb dX6_readProduct_49 rfl (lv_at hl 1 rfl) ?_
          obtain ⟨z_, g15, L16, hf17, h⟩ := cb_some h
          refine x_callVv (rest := []) li_X6_53 C (rX6_advance_5 l G H.size a fu g L z_ (g15, L16) hf17) (kR rfl) hP hD hS 5 6 rfl (zat (by decide) xs_5) rfl hl.1 rfl (Nat.le_of_ble_eq_true rfl) dX6_readProduct_50 (fun u_ H locs e_ hP hD hS => ?_)
          have hP : va_P G.1 vwCl (zw G (XS 2) 105 a g15 L16) H := hP
          have hD : va_D A (zw G (XS 2) 105 a g15 L16) := hD
          refine lv_aload_n hx hb dX6_readProduct_53 rfl (lv_at hl 1 rfl) ?_
          refine lv_iload_n hx hb dX6_readProduct_54 rfl (lv_at hl 2 rfl) ?_
          obtain ⟨z_, g19, L20, hf21, h⟩ := cb_some h
          refine x_callVv (rest := []) li_X6_230 C (rX6_readPart_5_L7 l G H.size a fu g15 L16 v1 z_ (g19, L20) hf21) (kR rfl) hP hD hS 5 6 rfl (zat (by decide) xs_5) rfl hl.1 rfl (Nat.le_of_ble_eq_true rfl) dX6_readProduct_55 (fun u_ H locs e_ hP hD hS => ?_)
          have hP : va_P G.1 vwCl (zw G (XS 2) 105 a g19 L20) H := hP
          have hD : va_D A (zw G (XS 2) 105 a g19 L20) := hD
          refine lv_aload_n hx hb dX6_readProduct_58 rfl (lv_at hl 1 rfl) ?_
          refine x_getr (Or.inl fl_X6_15) C hP (by decide) xs_5 rfl dX6_readProduct_59 ?_
          refine x_getr (Or.inr fl_X6_125) C hP (by decide) xs_2 rfl dX6_readProduct_62 ?_
          refine lv_iload_n hx hb dX6_readProduct_65 rfl (lv_at hl 0 rfl) ?_
          obtain ⟨z_, g23, L24, hf25, h⟩ := cb_some h
          refine x_callNv (rest := []) li_X6_211 C (rX8_add_4 l G H.size 2 a fu g19 L20 t0 z_ (g23, L24) hf25) (kR rfl) hP hD hS 4 8 rfl (zat (by decide) xs_4) rfl hl.1 rfl (Nat.le_of_ble_eq_true rfl) dX6_readProduct_66 (fun u_ H locs e_ hP hD hS => ?_)
          have hP : va_P G.1 vwCl (zw G (XS 2) 105 a g23 L24) H := hP
          have hD : va_D A (zw G (XS 2) 105 a g23 L24) := hD
          refine lv_iinc (v := (v2 + 1)) (lv' := [(2, .int (v2 + 1)), (3, .int t0), (0, .ref (a 5)), (1, .int v1)]) hx hb dX6_readProduct_69 hl (k := 3) rfl rfl (by decide) rfl (fun ls hl => ?_)
          refine lv_goto (tgt := 7) hx hb dX6_readProduct_72 (by decide) ?_
          exact ih7 ((v2 + 1), g23, L24) h H locs ls hP hD hS (lv_sub hl [2, 3, 0] rfl)
        refine lv_if_eq (x := x10) (tgt := 46) hx hb dX6_readProduct_38 (by decide) (fun c26 => ?_) (fun c26 => ?_)
        ·
          have h := ite_t c26 h
          refine lv_bipush (v := -10) hx hb dX6_readProduct_46 (by decide) ?_
          exact J48 v2 (-10) g11 L12 H locs ls h hP hD hS (lv_sub hl [0, 1, 2] rfl)
        ·
          have h := ite_e c26 h
          refine lv_bipush (v := -9) hx hb dX6_readProduct_41 (by decide) ?_
          refine lv_goto (tgt := 48) hx hb dX6_readProduct_43 (by decide) ?_
          exact J48 v2 (-9) g11 L12 H locs ls h hP hD hS (lv_sub hl [0, 1, 2] rfl)
      refine lv_if_ne (x := x6) (tgt := 32) hx hb dX6_readProduct_20 (by decide) (fun c27 => ?_) (fun c27 => ?_)
      ·
        have h := ite_e c27 h
        exact J32 v2 g7 L8 H locs ls h hP hD hS (lv_sub hl [0, 1, 2] rfl)
      ·
        have h := ite_t c27 h
        refine lv_aload_n hx hb dX6_readProduct_23 rfl (lv_at hl 0 rfl) ?_
        refine lv_bipush (v := 47) hx hb dX6_readProduct_24 (by decide) ?_
        obtain ⟨z_, g29, L30, hf31, h⟩ := cb_some h
        refine x_callVi (rest := []) li_X6_86 C (rX6_isSignNow_5 l G H.size a fu g7 L8 47 z_ (g29, L30) hf31) (kR rfl) hP hD hS 5 6 rfl (zat (by decide) xs_5) rfl hl.1 rfl (Nat.le_of_ble_eq_true rfl) dX6_readProduct_26 (fun x28 u_ H locs e_ hP hD hS => ?_)
        have e_ : x28 = z_ := e_
        subst e_
        have hP : va_P G.1 vwCl (zw G (XS 2) 105 a g29 L30) H := hP
        have hD : va_D A (zw G (XS 2) 105 a g29 L30) := hD
        refine lv_if_eq (x := x28) (tgt := 75) hx hb dX6_readProduct_29 (by decide) (fun c32 => ?_) (fun c32 => ?_)
        ·
          have h := ite_t c32 h
          exact J75 g29 L30 H locs ls h hP hD hS (lv_sub hl [] rfl)
        ·
          have h := ite_e c32 h
          exact J32 v2 g29 L30 H locs ls h hP hD hS (lv_sub hl [0, 1, 2] rfl)
  exact lp7 p1 fu (0, g2, L3) h H locs ls hP hD hS (lv_sub hl [1, 2, 0] rfl)
set_option maxHeartbeats 4000000 in
set_option maxRecDepth 100000 in
theorem rX6_readSum_5_L7 (l : Launch) (G : kG) (sz : Nat) (a : Nat → Nat) (fu : Nat) (g : Nat → Nat → Int32) (L : Nat → Nat → Int64) (p1 : Int32) (res : Unit) (s9 : zS) (h : fX6_readSum_5 fu (fX6_readExpr_5 fu 6) p1 g L = some (res, s9)) : kM l yX6_readSum cX6_readSum 4 none { frames := 56, cells := 0, slots := 0, locals := 1218 } G [.ref (a 5), .int p1] (zw G (XS 2) 105 a g L) sz (kQv G (S := Unit) (fun _ => True) (fun _ => zw G (XS 2) 105 a s9.1 s9.2)) := by
  refine kM.of (by decide) (Nat.le_of_ble_eq_true rfl) ?_
  intro p e s m below meth c A ls H C hr hlk hnm hP hD hS hl
  have C : kC G p s m c cX6_readSum 4 RX6 A := C
  have hx := C.1
  have hb := C.2.1
  have hl : lv_has ls 4 [(0, .ref (a 5)), (1, .int p1)] := hl
  obtain ⟨locs, hlocs⟩ : ∃ q : List Loc, q = [] := ⟨_, rfl⟩
  rw [← hlocs] at hS
  rw [← hlocs]
  unfold fX6_readSum_5 at h
  refine lv_aload_n hx hb dX6_readSum_0 rfl (lv_at hl 0 rfl) ?_
  refine lv_iload_n hx hb dX6_readSum_1 rfl (lv_at hl 1 rfl) ?_
  obtain ⟨z_, g2, L3, hf4, h⟩ := cb_some h
  refine x_callVv (rest := []) li_X6_227 C (rX6_readProduct_5_L7 l G H.size a fu g L p1 z_ (g2, L3) hf4) (kR rfl) hP hD hS 5 6 rfl (zat (by decide) xs_5) rfl hl.1 rfl (Nat.le_of_ble_eq_true rfl) dX6_readSum_2 (fun u_ H locs e_ hP hD hS => ?_)
  have hP : va_P G.1 vwCl (zw G (XS 2) 105 a g2 L3) H := hP
  have hD : va_D A (zw G (XS 2) 105 a g2 L3) := hD
  refine lv_iconst (v := 0) hx hb dX6_readSum_5 (by decide) ?_
  refine lv_istore_n (lv' := [(2, .int 0), (0, .ref (a 5)), (1, .int p1)]) hx hb dX6_readSum_6 rfl hl (by decide) rfl (fun ls hl => ?_)
  have lp7 : ∀ (v1 : Int32), ∀ (n : Nat) (v : Int32 × (Nat → Nat → Int32) × (Nat → Nat → Int64)), whileK (fun k v => fX6_readSum_5_s7 fu (fX6_readExpr_5 fu 6) v1 k v.1 v.2.1 v.2.2) n v = some (res, s9) → ∀ (H : Heap) (locs : List Loc) (ls : Array Slot), va_P G.1 vwCl (zw G (XS 2) 105 a (v.2.1) (v.2.2)) H → va_D A (zw G (XS 2) 105 a (v.2.1) (v.2.2)) → va_S A s.heap H locs → lv_has ls 4 [(0, .ref (a 5)), (1, .int v1), (2, .int (v.1))] → W p l e { frames := 56, cells := 0, slots := 0, locals := 1218 } s m [.ref (a 5), .int p1].toArray below meth c H locs 0 0 (MQ below ((kQv G (S := Unit) (fun _ => True) (fun _ => zw G (XS 2) 105 a s9.1 s9.2)) A) [.ref (a 5), .int p1].toArray s 0 0 A) (F0 m 7 ls []) := by
    intro v1
    refine while_ind (fun k7 ih7 v h => ?_)
    obtain ⟨v2, g, L⟩ := v
    intro H locs ls hP hD hS hl
    have h : fX6_readSum_5_s7 fu (fX6_readExpr_5 fu 6) v1 k7 v2 g L = some (res, s9) := h
    have hP : va_P G.1 vwCl (zw G (XS 2) 105 a g L) H := hP
    have hD : va_D A (zw G (XS 2) 105 a g L) := hD
    have hl : lv_has ls 4 [(0, .ref (a 5)), (1, .int v1), (2, .int v2)] := hl
    show W p l e { frames := 56, cells := 0, slots := 0, locals := 1218 } s m [.ref (a 5), .int p1].toArray below meth c H locs 0 0 (MQ below ((kQv G (S := Unit) (fun _ => True) (fun _ => zw G (XS 2) 105 a s9.1 s9.2)) A) [.ref (a 5), .int p1].toArray s 0 0 A) (F0 m 7 ls [])
    unfold fX6_readSum_5_s7 at h
    refine lv_iload_n hx hb dX6_readSum_7 rfl (lv_at hl 2 rfl) ?_
    refine lv_sipush (v := 700) hx hb dX6_readSum_8 (by decide) ?_
    have J75 : ∀ (g : Nat → Nat → Int32) (L : Nat → Nat → Int64) (H : Heap) (locs : List Loc) (ls : Array Slot), fX6_readSum_5_p75 fu (fX6_readExpr_5 fu 6) g L = some (res, s9) → va_P G.1 vwCl (zw G (XS 2) 105 a g L) H → va_D A (zw G (XS 2) 105 a g L) → va_S A s.heap H locs → lv_has ls 4 [] → W p l e { frames := 56, cells := 0, slots := 0, locals := 1218 } s m [.ref (a 5), .int p1].toArray below meth c H locs 0 0 (MQ below ((kQv G (S := Unit) (fun _ => True) (fun _ => zw G (XS 2) 105 a s9.1 s9.2)) A) [.ref (a 5), .int p1].toArray s 0 0 A) (F0 m 75 ls []) := by
      intro g L H locs ls h hP hD hS hl
      unfold fX6_readSum_5_p75 at h
      exact y_vret C hr hlk hP hD hS h (Nat.le_of_ble_eq_true rfl) (Nat.le_of_ble_eq_true rfl) dX6_readSum_75
    refine lv_icmp_ge (x := v2) (y := 700) (tgt := 75) hx hb dX6_readSum_11 (by decide) (fun c5 => ?_) (fun c5 => ?_)
    ·
      have h := ite_t c5 h
      exact J75 g L H locs ls h hP hD hS (lv_sub hl [] rfl)
    ·
      have h := ite_e c5 h
      refine lv_aload_n hx hb dX6_readSum_14 rfl (lv_at hl 0 rfl) ?_
      refine lv_bipush (v := 43) hx hb dX6_readSum_15 (by decide) ?_
      obtain ⟨z_, g7, L8, hf9, h⟩ := cb_some h
      refine x_callVi (rest := []) li_X6_86 C (rX6_isSignNow_5 l G H.size a fu g L 43 z_ (g7, L8) hf9) (kR rfl) hP hD hS 5 6 rfl (zat (by decide) xs_5) rfl hl.1 rfl (Nat.le_of_ble_eq_true rfl) dX6_readSum_17 (fun x6 u_ H locs e_ hP hD hS => ?_)
      have e_ : x6 = z_ := e_
      subst e_
      have hP : va_P G.1 vwCl (zw G (XS 2) 105 a g7 L8) H := hP
      have hD : va_D A (zw G (XS 2) 105 a g7 L8) := hD
      have J32 : ∀ (v2 : Int32) (g : Nat → Nat → Int32) (L : Nat → Nat → Int64) (H : Heap) (locs : List Loc) (ls : Array Slot), fX6_readSum_5_p32 fu (fX6_readExpr_5 fu 6) k7 v1 v2 g L = some (res, s9) → va_P G.1 vwCl (zw G (XS 2) 105 a g L) H → va_D A (zw G (XS 2) 105 a g L) → va_S A s.heap H locs → lv_has ls 4 [(0, .ref (a 5)), (1, .int v1), (2, .int v2)] → W p l e { frames := 56, cells := 0, slots := 0, locals := 1218 } s m [.ref (a 5), .int p1].toArray below meth c H locs 0 0 (MQ below ((kQv G (S := Unit) (fun _ => True) (fun _ => zw G (XS 2) 105 a s9.1 s9.2)) A) [.ref (a 5), .int p1].toArray s 0 0 A) (F0 m 32 ls []) := by
        intro v2 g L H locs ls h hP hD hS hl
        unfold fX6_readSum_5_p32 at h
        refine lv_aload_n hx hb dX6_readSum_32 rfl (lv_at hl 0 rfl) ?_
        refine lv_bipush (v := 43) hx hb dX6_readSum_33 (by decide) ?_
        obtain ⟨z_, g11, L12, hf13, h⟩ := cb_some h
        refine x_callVi (rest := []) li_X6_86 C (rX6_isSignNow_5 l G H.size a fu g L 43 z_ (g11, L12) hf13) (kR rfl) hP hD hS 5 6 rfl (zat (by decide) xs_5) rfl hl.1 rfl (Nat.le_of_ble_eq_true rfl) dX6_readSum_35 (fun x10 u_ H locs e_ hP hD hS => ?_)
        have e_ : x10 = z_ := e_
        subst e_
        have hP : va_P G.1 vwCl (zw G (XS 2) 105 a g11 L12) H := hP
        have hD : va_D A (zw G (XS 2) 105 a g11 L12) := hD
        have J48 : ∀ (v2 : Int32) (t0 : Int32) (g : Nat → Nat → Int32) (L : Nat → Nat → Int64) (H : Heap) (locs : List Loc) (ls : Array Slot), fX6_readSum_5_p48 fu (fX6_readExpr_5 fu 6) k7 v1 v2 t0 g L = some (res, s9) → va_P G.1 vwCl (zw G (XS 2) 105 a g L) H → va_D A (zw G (XS 2) 105 a g L) → va_S A s.heap H locs → lv_has ls 4 [(0, .ref (a 5)), (1, .int v1), (2, .int v2)] → W p l e { frames := 56, cells := 0, slots := 0, locals := 1218 } s m [.ref (a 5), .int p1].toArray below meth c H locs 0 0 (MQ below ((kQv G (S := Unit) (fun _ => True) (fun _ => zw G (XS 2) 105 a s9.1 s9.2)) A) [.ref (a 5), .int p1].toArray s 0 0 A) (F0 m 48 ls [.int t0]) := by
          intro v2 t0 g L H locs ls h hP hD hS hl
          unfold fX6_readSum_5_p48 at h
          refine lv_istore_n (lv' := [(3, .int t0), (0, .ref (a 5)), (1, .int v1), (2, .int v2)]) hx hb dX6_readSum_48 rfl hl (by decide) rfl (fun ls hl => ?_)
          refine lv_aload_n hx hb dX6_readSum_49 rfl (lv_at hl 1 rfl) ?_
          obtain ⟨z_, g15, L16, hf17, h⟩ := cb_some h
          refine x_callVv (rest := []) li_X6_53 C (rX6_advance_5 l G H.size a fu g L z_ (g15, L16) hf17) (kR rfl) hP hD hS 5 6 rfl (zat (by decide) xs_5) rfl hl.1 rfl (Nat.le_of_ble_eq_true rfl) dX6_readSum_50 (fun u_ H locs e_ hP hD hS => ?_)
          have hP : va_P G.1 vwCl (zw G (XS 2) 105 a g15 L16) H := hP
          have hD : va_D A (zw G (XS 2) 105 a g15 L16) := hD
          refine lv_aload_n hx hb dX6_readSum_53 rfl (lv_at hl 1 rfl) ?_
          refine lv_iload_n hx hb dX6_readSum_54 rfl (lv_at hl 2 rfl) ?_
          obtain ⟨z_, g19, L20, hf21, h⟩ := cb_some h
          refine x_callVv (rest := []) li_X6_227 C (rX6_readProduct_5_L7 l G H.size a fu g15 L16 v1 z_ (g19, L20) hf21) (kR rfl) hP hD hS 5 6 rfl (zat (by decide) xs_5) rfl hl.1 rfl (Nat.le_of_ble_eq_true rfl) dX6_readSum_55 (fun u_ H locs e_ hP hD hS => ?_)
          have hP : va_P G.1 vwCl (zw G (XS 2) 105 a g19 L20) H := hP
          have hD : va_D A (zw G (XS 2) 105 a g19 L20) := hD
          refine lv_aload_n hx hb dX6_readSum_58 rfl (lv_at hl 1 rfl) ?_
          refine x_getr (Or.inl fl_X6_15) C hP (by decide) xs_5 rfl dX6_readSum_59 ?_
          refine x_getr (Or.inr fl_X6_125) C hP (by decide) xs_2 rfl dX6_readSum_62 ?_
          refine lv_iload_n hx hb dX6_readSum_65 rfl (lv_at hl 0 rfl) ?_
          obtain ⟨z_, g23, L24, hf25, h⟩ := cb_some h
          refine x_callNv (rest := []) li_X6_211 C (rX8_add_4 l G H.size 2 a fu g19 L20 t0 z_ (g23, L24) hf25) (kR rfl) hP hD hS 4 8 rfl (zat (by decide) xs_4) rfl hl.1 rfl (Nat.le_of_ble_eq_true rfl) dX6_readSum_66 (fun u_ H locs e_ hP hD hS => ?_)
          have hP : va_P G.1 vwCl (zw G (XS 2) 105 a g23 L24) H := hP
          have hD : va_D A (zw G (XS 2) 105 a g23 L24) := hD
          refine lv_iinc (v := (v2 + 1)) (lv' := [(2, .int (v2 + 1)), (3, .int t0), (0, .ref (a 5)), (1, .int v1)]) hx hb dX6_readSum_69 hl (k := 3) rfl rfl (by decide) rfl (fun ls hl => ?_)
          refine lv_goto (tgt := 7) hx hb dX6_readSum_72 (by decide) ?_
          exact ih7 ((v2 + 1), g23, L24) h H locs ls hP hD hS (lv_sub hl [2, 3, 0] rfl)
        refine lv_if_eq (x := x10) (tgt := 46) hx hb dX6_readSum_38 (by decide) (fun c26 => ?_) (fun c26 => ?_)
        ·
          have h := ite_t c26 h
          refine lv_bipush (v := -8) hx hb dX6_readSum_46 (by decide) ?_
          exact J48 v2 (-8) g11 L12 H locs ls h hP hD hS (lv_sub hl [0, 1, 2] rfl)
        ·
          have h := ite_e c26 h
          refine lv_bipush (v := -7) hx hb dX6_readSum_41 (by decide) ?_
          refine lv_goto (tgt := 48) hx hb dX6_readSum_43 (by decide) ?_
          exact J48 v2 (-7) g11 L12 H locs ls h hP hD hS (lv_sub hl [0, 1, 2] rfl)
      refine lv_if_ne (x := x6) (tgt := 32) hx hb dX6_readSum_20 (by decide) (fun c27 => ?_) (fun c27 => ?_)
      ·
        have h := ite_e c27 h
        exact J32 v2 g7 L8 H locs ls h hP hD hS (lv_sub hl [0, 1, 2] rfl)
      ·
        have h := ite_t c27 h
        refine lv_aload_n hx hb dX6_readSum_23 rfl (lv_at hl 0 rfl) ?_
        refine lv_bipush (v := 45) hx hb dX6_readSum_24 (by decide) ?_
        obtain ⟨z_, g29, L30, hf31, h⟩ := cb_some h
        refine x_callVi (rest := []) li_X6_86 C (rX6_isSignNow_5 l G H.size a fu g7 L8 45 z_ (g29, L30) hf31) (kR rfl) hP hD hS 5 6 rfl (zat (by decide) xs_5) rfl hl.1 rfl (Nat.le_of_ble_eq_true rfl) dX6_readSum_26 (fun x28 u_ H locs e_ hP hD hS => ?_)
        have e_ : x28 = z_ := e_
        subst e_
        have hP : va_P G.1 vwCl (zw G (XS 2) 105 a g29 L30) H := hP
        have hD : va_D A (zw G (XS 2) 105 a g29 L30) := hD
        refine lv_if_eq (x := x28) (tgt := 75) hx hb dX6_readSum_29 (by decide) (fun c32 => ?_) (fun c32 => ?_)
        ·
          have h := ite_t c32 h
          exact J75 g29 L30 H locs ls h hP hD hS (lv_sub hl [] rfl)
        ·
          have h := ite_e c32 h
          exact J32 v2 g29 L30 H locs ls h hP hD hS (lv_sub hl [0, 1, 2] rfl)
  exact lp7 p1 fu (0, g2, L3) h H locs ls hP hD hS (lv_sub hl [1, 2, 0] rfl)
set_option maxHeartbeats 4000000 in
set_option maxRecDepth 100000 in
theorem rX6_readTest_5_L7 (l : Launch) (G : kG) (sz : Nat) (a : Nat → Nat) (fu : Nat) (g : Nat → Nat → Int32) (L : Nat → Nat → Int64) (p1 : Int32) (res : Unit) (s9 : zS) (h : fX6_readTest_5 fu (fX6_readExpr_5 fu 6) p1 g L = some (res, s9)) : kM l yX6_readTest cX6_readTest 2 none { frames := 57, cells := 0, slots := 0, locals := 1241 } G [.ref (a 5), .int p1] (zw G (XS 2) 105 a g L) sz (kQv G (S := Unit) (fun _ => True) (fun _ => zw G (XS 2) 105 a s9.1 s9.2)) := by
  refine kM.of (by decide) (Nat.le_of_ble_eq_true rfl) ?_
  intro p e s m below meth c A ls H C hr hlk hnm hP hD hS hl
  have C : kC G p s m c cX6_readTest 2 RX6 A := C
  have hx := C.1
  have hb := C.2.1
  have hl : lv_has ls 2 [(0, .ref (a 5)), (1, .int p1)] := hl
  obtain ⟨locs, hlocs⟩ : ∃ q : List Loc, q = [] := ⟨_, rfl⟩
  rw [← hlocs] at hS
  rw [← hlocs]
  unfold fX6_readTest_5 at h
  refine lv_aload_n hx hb dX6_readTest_0 rfl (lv_at hl 0 rfl) ?_
  refine lv_iload_n hx hb dX6_readTest_1 rfl (lv_at hl 1 rfl) ?_
  obtain ⟨z_, g2, L3, hf4, h⟩ := cb_some h
  refine x_callVv (rest := []) li_X6_224 C (rX6_readSum_5_L7 l G H.size a fu g L p1 z_ (g2, L3) hf4) (kR rfl) hP hD hS 5 6 rfl (zat (by decide) xs_5) rfl hl.1 rfl (Nat.le_of_ble_eq_true rfl) dX6_readTest_2 (fun u_ H locs e_ hP hD hS => ?_)
  have hP : va_P G.1 vwCl (zw G (XS 2) 105 a g2 L3) H := hP
  have hD : va_D A (zw G (XS 2) 105 a g2 L3) := hD
  refine lv_aload_n hx hb dX6_readTest_5 rfl (lv_at hl 0 rfl) ?_
  refine lv_bipush (v := 60) hx hb dX6_readTest_6 (by decide) ?_
  obtain ⟨z_, g6, L7, hf8, h⟩ := cb_some h
  refine x_callVi (rest := []) li_X6_86 C (rX6_isSignNow_5 l G H.size a fu g2 L3 60 z_ (g6, L7) hf8) (kR rfl) hP hD hS 5 6 rfl (zat (by decide) xs_5) rfl hl.1 rfl (Nat.le_of_ble_eq_true rfl) dX6_readTest_8 (fun x5 u_ H locs e_ hP hD hS => ?_)
  have e_ : x5 = z_ := e_
  subst e_
  have hP : va_P G.1 vwCl (zw G (XS 2) 105 a g6 L7) H := hP
  have hD : va_D A (zw G (XS 2) 105 a g6 L7) := hD
  have J68 : ∀ (g : Nat → Nat → Int32) (L : Nat → Nat → Int64) (H : Heap) (locs : List Loc) (ls : Array Slot), fX6_readTest_5_p68 fu (fX6_readExpr_5 fu 6) g L = some (res, s9) → va_P G.1 vwCl (zw G (XS 2) 105 a g L) H → va_D A (zw G (XS 2) 105 a g L) → va_S A s.heap H locs → lv_has ls 2 [] → W p l e { frames := 57, cells := 0, slots := 0, locals := 1241 } s m [.ref (a 5), .int p1].toArray below meth c H locs 0 0 (MQ below ((kQv G (S := Unit) (fun _ => True) (fun _ => zw G (XS 2) 105 a s9.1 s9.2)) A) [.ref (a 5), .int p1].toArray s 0 0 A) (F0 m 68 ls []) := by
    intro g L H locs ls h hP hD hS hl
    unfold fX6_readTest_5_p68 at h
    exact y_vret C hr hlk hP hD hS h (Nat.le_of_ble_eq_true rfl) (Nat.le_of_ble_eq_true rfl) dX6_readTest_68
  refine lv_if_eq (x := x5) (tgt := 38) hx hb dX6_readTest_11 (by decide) (fun c9 => ?_) (fun c9 => ?_)
  ·
    have h := ite_t c9 h
    refine lv_aload_n hx hb dX6_readTest_38 rfl (lv_at hl 0 rfl) ?_
    refine lv_bipush (v := 61) hx hb dX6_readTest_39 (by decide) ?_
    obtain ⟨z_, g11, L12, hf13, h⟩ := cb_some h
    refine x_callVi (rest := []) li_X6_86 C (rX6_isSignNow_5 l G H.size a fu g6 L7 61 z_ (g11, L12) hf13) (kR rfl) hP hD hS 5 6 rfl (zat (by decide) xs_5) rfl hl.1 rfl (Nat.le_of_ble_eq_true rfl) dX6_readTest_41 (fun x10 u_ H locs e_ hP hD hS => ?_)
    have e_ : x10 = z_ := e_
    subst e_
    have hP : va_P G.1 vwCl (zw G (XS 2) 105 a g11 L12) H := hP
    have hD : va_D A (zw G (XS 2) 105 a g11 L12) := hD
    refine lv_if_eq (x := x10) (tgt := 68) hx hb dX6_readTest_44 (by decide) (fun c14 => ?_) (fun c14 => ?_)
    ·
      have h := ite_t c14 h
      exact J68 g11 L12 H locs ls h hP hD hS (lv_sub hl [] rfl)
    ·
      have h := ite_e c14 h
      refine lv_aload_n hx hb dX6_readTest_47 rfl (lv_at hl 0 rfl) ?_
      obtain ⟨z_, g16, L17, hf18, h⟩ := cb_some h
      refine x_callVv (rest := []) li_X6_53 C (rX6_advance_5 l G H.size a fu g11 L12 z_ (g16, L17) hf18) (kR rfl) hP hD hS 5 6 rfl (zat (by decide) xs_5) rfl hl.1 rfl (Nat.le_of_ble_eq_true rfl) dX6_readTest_48 (fun u_ H locs e_ hP hD hS => ?_)
      have hP : va_P G.1 vwCl (zw G (XS 2) 105 a g16 L17) H := hP
      have hD : va_D A (zw G (XS 2) 105 a g16 L17) := hD
      refine lv_aload_n hx hb dX6_readTest_51 rfl (lv_at hl 0 rfl) ?_
      refine lv_iload_n hx hb dX6_readTest_52 rfl (lv_at hl 1 rfl) ?_
      obtain ⟨z_, g20, L21, hf22, h⟩ := cb_some h
      refine x_callVv (rest := []) li_X6_224 C (rX6_readSum_5_L7 l G H.size a fu g16 L17 p1 z_ (g20, L21) hf22) (kR rfl) hP hD hS 5 6 rfl (zat (by decide) xs_5) rfl hl.1 rfl (Nat.le_of_ble_eq_true rfl) dX6_readTest_53 (fun u_ H locs e_ hP hD hS => ?_)
      have hP : va_P G.1 vwCl (zw G (XS 2) 105 a g20 L21) H := hP
      have hD : va_D A (zw G (XS 2) 105 a g20 L21) := hD
      refine lv_aload_n hx hb dX6_readTest_56 rfl (lv_at hl 0 rfl) ?_
      refine x_getr (Or.inl fl_X6_15) C hP (by decide) xs_5 rfl dX6_readTest_57 ?_
      refine x_getr (Or.inr fl_X6_125) C hP (by decide) xs_2 rfl dX6_readTest_60 ?_
      refine lv_bipush (v := -12) hx hb dX6_readTest_63 (by decide) ?_
      obtain ⟨z_, g24, L25, hf26, h⟩ := cb_some h
      refine x_callNv (rest := []) li_X6_211 C (rX8_add_4 l G H.size 2 a fu g20 L21 (-12) z_ (g24, L25) hf26) (kR rfl) hP hD hS 4 8 rfl (zat (by decide) xs_4) rfl hl.1 rfl (Nat.le_of_ble_eq_true rfl) dX6_readTest_65 (fun u_ H locs e_ hP hD hS => ?_)
      have hP : va_P G.1 vwCl (zw G (XS 2) 105 a g24 L25) H := hP
      have hD : va_D A (zw G (XS 2) 105 a g24 L25) := hD
      exact J68 g24 L25 H locs ls h hP hD hS (lv_sub hl [] rfl)
  ·
    have h := ite_e c9 h
    refine lv_aload_n hx hb dX6_readTest_14 rfl (lv_at hl 0 rfl) ?_
    obtain ⟨z_, g28, L29, hf30, h⟩ := cb_some h
    refine x_callVv (rest := []) li_X6_53 C (rX6_advance_5 l G H.size a fu g6 L7 z_ (g28, L29) hf30) (kR rfl) hP hD hS 5 6 rfl (zat (by decide) xs_5) rfl hl.1 rfl (Nat.le_of_ble_eq_true rfl) dX6_readTest_15 (fun u_ H locs e_ hP hD hS => ?_)
    have hP : va_P G.1 vwCl (zw G (XS 2) 105 a g28 L29) H := hP
    have hD : va_D A (zw G (XS 2) 105 a g28 L29) := hD
    refine lv_aload_n hx hb dX6_readTest_18 rfl (lv_at hl 0 rfl) ?_
    refine lv_iload_n hx hb dX6_readTest_19 rfl (lv_at hl 1 rfl) ?_
    obtain ⟨z_, g32, L33, hf34, h⟩ := cb_some h
    refine x_callVv (rest := []) li_X6_224 C (rX6_readSum_5_L7 l G H.size a fu g28 L29 p1 z_ (g32, L33) hf34) (kR rfl) hP hD hS 5 6 rfl (zat (by decide) xs_5) rfl hl.1 rfl (Nat.le_of_ble_eq_true rfl) dX6_readTest_20 (fun u_ H locs e_ hP hD hS => ?_)
    have hP : va_P G.1 vwCl (zw G (XS 2) 105 a g32 L33) H := hP
    have hD : va_D A (zw G (XS 2) 105 a g32 L33) := hD
    refine lv_aload_n hx hb dX6_readTest_23 rfl (lv_at hl 0 rfl) ?_
    refine x_getr (Or.inl fl_X6_15) C hP (by decide) xs_5 rfl dX6_readTest_24 ?_
    refine x_getr (Or.inr fl_X6_125) C hP (by decide) xs_2 rfl dX6_readTest_27 ?_
    refine lv_bipush (v := -11) hx hb dX6_readTest_30 (by decide) ?_
    obtain ⟨z_, g36, L37, hf38, h⟩ := cb_some h
    refine x_callNv (rest := []) li_X6_211 C (rX8_add_4 l G H.size 2 a fu g32 L33 (-11) z_ (g36, L37) hf38) (kR rfl) hP hD hS 4 8 rfl (zat (by decide) xs_4) rfl hl.1 rfl (Nat.le_of_ble_eq_true rfl) dX6_readTest_32 (fun u_ H locs e_ hP hD hS => ?_)
    have hP : va_P G.1 vwCl (zw G (XS 2) 105 a g36 L37) H := hP
    have hD : va_D A (zw G (XS 2) 105 a g36 L37) := hD
    refine lv_goto (tgt := 68) hx hb dX6_readTest_35 (by decide) ?_
    exact J68 g36 L37 H locs ls h hP hD hS (lv_sub hl [] rfl)
set_option maxHeartbeats 4000000 in
set_option maxRecDepth 100000 in
theorem rX6_readNot_5_L7 (l : Launch) (G : kG) (sz : Nat) (a : Nat → Nat) (fu : Nat) (g : Nat → Nat → Int32) (L : Nat → Nat → Int64) (p1 : Int32) (res : Unit) (s9 : zS) (h : fX6_readNot_5 fu (fX6_readExpr_5 fu 6) p1 g L = some (res, s9)) : kM l yX6_readNot cX6_readNot 4 none { frames := 58, cells := 0, slots := 0, locals := 1262 } G [.ref (a 5), .int p1] (zw G (XS 2) 105 a g L) sz (kQv G (S := Unit) (fun _ => True) (fun _ => zw G (XS 2) 105 a s9.1 s9.2)) := by
  refine kM.of (by decide) (Nat.le_of_ble_eq_true rfl) ?_
  intro p e s m below meth c A ls H C hr hlk hnm hP hD hS hl
  have C : kC G p s m c cX6_readNot 4 RX6 A := C
  have hx := C.1
  have hb := C.2.1
  have hl : lv_has ls 4 [(0, .ref (a 5)), (1, .int p1)] := hl
  obtain ⟨locs, hlocs⟩ : ∃ q : List Loc, q = [] := ⟨_, rfl⟩
  rw [← hlocs] at hS
  rw [← hlocs]
  unfold fX6_readNot_5 at h
  refine lv_iconst (v := 0) hx hb dX6_readNot_0 (by decide) ?_
  refine lv_istore_n (lv' := [(2, .int 0), (0, .ref (a 5)), (1, .int p1)]) hx hb dX6_readNot_1 rfl hl (by decide) rfl (fun ls hl => ?_)
  have lp2 : ∀ (v1 : Int32), ∀ (n : Nat) (v : Int32 × (Nat → Nat → Int32) × (Nat → Nat → Int64)), whileK (fun k v => fX6_readNot_5_s2 fu (fX6_readExpr_5 fu 6) v1 k v.1 v.2.1 v.2.2) n v = some (res, s9) → ∀ (H : Heap) (locs : List Loc) (ls : Array Slot), va_P G.1 vwCl (zw G (XS 2) 105 a (v.2.1) (v.2.2)) H → va_D A (zw G (XS 2) 105 a (v.2.1) (v.2.2)) → va_S A s.heap H locs → lv_has ls 4 [(0, .ref (a 5)), (1, .int v1), (2, .int (v.1))] → W p l e { frames := 58, cells := 0, slots := 0, locals := 1262 } s m [.ref (a 5), .int p1].toArray below meth c H locs 0 0 (MQ below ((kQv G (S := Unit) (fun _ => True) (fun _ => zw G (XS 2) 105 a s9.1 s9.2)) A) [.ref (a 5), .int p1].toArray s 0 0 A) (F0 m 2 ls []) := by
    intro v1
    refine while_ind (fun k2 ih2 v h => ?_)
    obtain ⟨v2, g, L⟩ := v
    intro H locs ls hP hD hS hl
    have h : fX6_readNot_5_s2 fu (fX6_readExpr_5 fu 6) v1 k2 v2 g L = some (res, s9) := h
    have hP : va_P G.1 vwCl (zw G (XS 2) 105 a g L) H := hP
    have hD : va_D A (zw G (XS 2) 105 a g L) := hD
    have hl : lv_has ls 4 [(0, .ref (a 5)), (1, .int v1), (2, .int v2)] := hl
    show W p l e { frames := 58, cells := 0, slots := 0, locals := 1262 } s m [.ref (a 5), .int p1].toArray below meth c H locs 0 0 (MQ below ((kQv G (S := Unit) (fun _ => True) (fun _ => zw G (XS 2) 105 a s9.1 s9.2)) A) [.ref (a 5), .int p1].toArray s 0 0 A) (F0 m 2 ls [])
    unfold fX6_readNot_5_s2 at h
    refine lv_iload_n hx hb dX6_readNot_2 rfl (lv_at hl 2 rfl) ?_
    refine lv_bipush (v := 6) hx hb dX6_readNot_3 (by decide) ?_
    have J27 : ∀ (v1 : Int32) (v2 : Int32) (g : Nat → Nat → Int32) (L : Nat → Nat → Int64) (H : Heap) (locs : List Loc) (ls : Array Slot), fX6_readNot_5_p27 fu (fX6_readExpr_5 fu 6) v1 v2 g L = some (res, s9) → va_P G.1 vwCl (zw G (XS 2) 105 a g L) H → va_D A (zw G (XS 2) 105 a g L) → va_S A s.heap H locs → lv_has ls 4 [(0, .ref (a 5)), (1, .int v1), (2, .int v2)] → W p l e { frames := 58, cells := 0, slots := 0, locals := 1262 } s m [.ref (a 5), .int p1].toArray below meth c H locs 0 0 (MQ below ((kQv G (S := Unit) (fun _ => True) (fun _ => zw G (XS 2) 105 a s9.1 s9.2)) A) [.ref (a 5), .int p1].toArray s 0 0 A) (F0 m 27 ls []) := by
      intro v1 v2 g L H locs ls h hP hD hS hl
      unfold fX6_readNot_5_p27 at h
      refine lv_aload_n hx hb dX6_readNot_27 rfl (lv_at hl 0 rfl) ?_
      refine y_ldcS (i := 11) C (by decide) rfl dX6_readNot_28 ?_
      obtain ⟨z_, g2, L3, hf4, h⟩ := cb_some h
      refine x_callVi (rest := []) li_X6_92 C (rX6_isWord_5_not l G H.size a fu g L z_ (g2, L3) hf4) (kR rfl) hP hD hS 5 6 rfl (zat (by decide) xs_5) rfl hl.1 rfl (Nat.le_of_ble_eq_true rfl) dX6_readNot_30 (fun x1 u_ H locs e_ hP hD hS => ?_)
      have e_ : x1 = z_ := e_
      subst e_
      have hP : va_P G.1 vwCl (zw G (XS 2) 105 a g2 L3) H := hP
      have hD : va_D A (zw G (XS 2) 105 a g2 L3) := hD
      have J47 : ∀ (v1 : Int32) (v2 : Int32) (g : Nat → Nat → Int32) (L : Nat → Nat → Int64) (H : Heap) (locs : List Loc) (ls : Array Slot), fX6_readNot_5_p47 fu (fX6_readExpr_5 fu 6) v1 v2 g L = some (res, s9) → va_P G.1 vwCl (zw G (XS 2) 105 a g L) H → va_D A (zw G (XS 2) 105 a g L) → va_S A s.heap H locs → lv_has ls 4 [(0, .ref (a 5)), (1, .int v1), (2, .int v2)] → W p l e { frames := 58, cells := 0, slots := 0, locals := 1262 } s m [.ref (a 5), .int p1].toArray below meth c H locs 0 0 (MQ below ((kQv G (S := Unit) (fun _ => True) (fun _ => zw G (XS 2) 105 a s9.1 s9.2)) A) [.ref (a 5), .int p1].toArray s 0 0 A) (F0 m 47 ls []) := by
        intro v1 v2 g L H locs ls h hP hD hS hl
        unfold fX6_readNot_5_p47 at h
        refine lv_aload_n hx hb dX6_readNot_47 rfl (lv_at hl 0 rfl) ?_
        refine lv_iload_n hx hb dX6_readNot_48 rfl (lv_at hl 1 rfl) ?_
        obtain ⟨z_, g6, L7, hf8, h⟩ := cb_some h
        refine x_callVv (rest := []) li_X6_221 C (rX6_readTest_5_L7 l G H.size a fu g L v1 z_ (g6, L7) hf8) (kR rfl) hP hD hS 5 6 rfl (zat (by decide) xs_5) rfl hl.1 rfl (Nat.le_of_ble_eq_true rfl) dX6_readNot_49 (fun u_ H locs e_ hP hD hS => ?_)
        have hP : va_P G.1 vwCl (zw G (XS 2) 105 a g6 L7) H := hP
        have hD : va_D A (zw G (XS 2) 105 a g6 L7) := hD
        refine lv_iconst (v := 0) hx hb dX6_readNot_52 (by decide) ?_
        refine lv_istore_n (lv' := [(3, .int 0), (0, .ref (a 5)), (1, .int v1), (2, .int v2)]) hx hb dX6_readNot_53 rfl hl (by decide) rfl (fun ls hl => ?_)
        have lp54 : ∀ (v2 : Int32), ∀ (n : Nat) (v : Int32 × (Nat → Nat → Int32) × (Nat → Nat → Int64)), whileK (fun k v => fX6_readNot_5_s54 fu (fX6_readExpr_5 fu 6) v2 k v.1 v.2.1 v.2.2) n v = some (res, s9) → ∀ (H : Heap) (locs : List Loc) (ls : Array Slot), va_P G.1 vwCl (zw G (XS 2) 105 a (v.2.1) (v.2.2)) H → va_D A (zw G (XS 2) 105 a (v.2.1) (v.2.2)) → va_S A s.heap H locs → lv_has ls 4 [(0, .ref (a 5)), (2, .int v2), (3, .int (v.1))] → W p l e { frames := 58, cells := 0, slots := 0, locals := 1262 } s m [.ref (a 5), .int p1].toArray below meth c H locs 0 0 (MQ below ((kQv G (S := Unit) (fun _ => True) (fun _ => zw G (XS 2) 105 a s9.1 s9.2)) A) [.ref (a 5), .int p1].toArray s 0 0 A) (F0 m 54 ls []) := by
          intro v2
          refine while_ind (fun k54 ih54 v h => ?_)
          obtain ⟨v3, g, L⟩ := v
          intro H locs ls hP hD hS hl
          have h : fX6_readNot_5_s54 fu (fX6_readExpr_5 fu 6) v2 k54 v3 g L = some (res, s9) := h
          have hP : va_P G.1 vwCl (zw G (XS 2) 105 a g L) H := hP
          have hD : va_D A (zw G (XS 2) 105 a g L) := hD
          have hl : lv_has ls 4 [(0, .ref (a 5)), (2, .int v2), (3, .int v3)] := hl
          show W p l e { frames := 58, cells := 0, slots := 0, locals := 1262 } s m [.ref (a 5), .int p1].toArray below meth c H locs 0 0 (MQ below ((kQv G (S := Unit) (fun _ => True) (fun _ => zw G (XS 2) 105 a s9.1 s9.2)) A) [.ref (a 5), .int p1].toArray s 0 0 A) (F0 m 54 ls [])
          unfold fX6_readNot_5_s54 at h
          refine lv_iload_n hx hb dX6_readNot_54 rfl (lv_at hl 2 rfl) ?_
          refine lv_iload_n hx hb dX6_readNot_55 rfl (lv_at hl 1 rfl) ?_
          refine lv_icmp_ge (x := v3) (y := v2) (tgt := 77) hx hb dX6_readNot_56 (by decide) (fun c9 => ?_) (fun c9 => ?_)
          ·
            have h := ite_t c9 h
            exact y_vret C hr hlk hP hD hS h (Nat.le_of_ble_eq_true rfl) (Nat.le_of_ble_eq_true rfl) dX6_readNot_77
          ·
            have h := ite_e c9 h
            refine lv_aload_n hx hb dX6_readNot_59 rfl (lv_at hl 0 rfl) ?_
            refine x_getr (Or.inl fl_X6_15) C hP (by decide) xs_5 rfl dX6_readNot_60 ?_
            refine x_getr (Or.inr fl_X6_125) C hP (by decide) xs_2 rfl dX6_readNot_63 ?_
            refine lv_bipush (v := -15) hx hb dX6_readNot_66 (by decide) ?_
            obtain ⟨z_, g11, L12, hf13, h⟩ := cb_some h
            refine x_callNv (rest := []) li_X6_211 C (rX8_add_4 l G H.size 2 a fu g L (-15) z_ (g11, L12) hf13) (kR rfl) hP hD hS 4 8 rfl (zat (by decide) xs_4) rfl hl.1 rfl (Nat.le_of_ble_eq_true rfl) dX6_readNot_68 (fun u_ H locs e_ hP hD hS => ?_)
            have hP : va_P G.1 vwCl (zw G (XS 2) 105 a g11 L12) H := hP
            have hD : va_D A (zw G (XS 2) 105 a g11 L12) := hD
            refine lv_iinc (v := (v3 + 1)) (lv' := [(3, .int (v3 + 1)), (0, .ref (a 5)), (2, .int v2)]) hx hb dX6_readNot_71 hl (k := 2) rfl rfl (by decide) rfl (fun ls hl => ?_)
            refine lv_goto (tgt := 54) hx hb dX6_readNot_74 (by decide) ?_
            exact ih54 ((v3 + 1), g11, L12) h H locs ls hP hD hS (lv_sub hl [1, 2, 0] rfl)
        exact lp54 v2 fu (0, g6, L7) h H locs ls hP hD hS (lv_sub hl [1, 3, 0] rfl)
      refine lv_if_eq (x := x1) (tgt := 47) hx hb dX6_readNot_33 (by decide) (fun c14 => ?_) (fun c14 => ?_)
      ·
        have h := ite_t c14 h
        exact J47 v1 v2 g2 L3 H locs ls h hP hD hS (lv_sub hl [0, 1, 2] rfl)
      ·
        have h := ite_e c14 h
        refine lv_iload_n hx hb dX6_readNot_36 rfl (lv_at hl 2 rfl) ?_
        refine lv_bipush (v := 6) hx hb dX6_readNot_37 (by decide) ?_
        refine lv_icmp_lt (x := v2) (y := 6) (tgt := 47) hx hb dX6_readNot_39 (by decide) (fun c15 => ?_) (fun c15 => ?_)
        ·
          have h := ite_t c15 h
          exact J47 v1 v2 g2 L3 H locs ls h hP hD hS (lv_sub hl [0, 1, 2] rfl)
        ·
          have h := ite_e c15 h
          refine lv_aload_n hx hb dX6_readNot_42 rfl (lv_at hl 0 rfl) ?_
          refine lv_iconst (v := 2) hx hb dX6_readNot_43 (by decide) ?_
          obtain ⟨z_, g17, L18, hf19, h⟩ := cb_some h
          refine x_callVv (rest := []) li_X6_78 C (rX6_refuse_5 l G H.size a fu g2 L3 2 z_ (g17, L18) hf19) (kR rfl) hP hD hS 5 6 rfl (zat (by decide) xs_5) rfl hl.1 rfl (Nat.le_of_ble_eq_true rfl) dX6_readNot_44 (fun u_ H locs e_ hP hD hS => ?_)
          have hP : va_P G.1 vwCl (zw G (XS 2) 105 a g17 L18) H := hP
          have hD : va_D A (zw G (XS 2) 105 a g17 L18) := hD
          exact J47 v1 v2 g17 L18 H locs ls h hP hD hS (lv_sub hl [0, 1, 2] rfl)
    refine lv_icmp_ge (x := v2) (y := 6) (tgt := 27) hx hb dX6_readNot_5 (by decide) (fun c20 => ?_) (fun c20 => ?_)
    ·
      have h := ite_t c20 h
      exact J27 v1 v2 g L H locs ls h hP hD hS (lv_sub hl [0, 1, 2] rfl)
    ·
      have h := ite_e c20 h
      refine lv_aload_n hx hb dX6_readNot_8 rfl (lv_at hl 0 rfl) ?_
      refine y_ldcS (i := 11) C (by decide) rfl dX6_readNot_9 ?_
      obtain ⟨z_, g22, L23, hf24, h⟩ := cb_some h
      refine x_callVi (rest := []) li_X6_92 C (rX6_isWord_5_not l G H.size a fu g L z_ (g22, L23) hf24) (kR rfl) hP hD hS 5 6 rfl (zat (by decide) xs_5) rfl hl.1 rfl (Nat.le_of_ble_eq_true rfl) dX6_readNot_11 (fun x21 u_ H locs e_ hP hD hS => ?_)
      have e_ : x21 = z_ := e_
      subst e_
      have hP : va_P G.1 vwCl (zw G (XS 2) 105 a g22 L23) H := hP
      have hD : va_D A (zw G (XS 2) 105 a g22 L23) := hD
      refine lv_if_eq (x := x21) (tgt := 27) hx hb dX6_readNot_14 (by decide) (fun c25 => ?_) (fun c25 => ?_)
      ·
        have h := ite_t c25 h
        exact J27 v1 v2 g22 L23 H locs ls h hP hD hS (lv_sub hl [0, 1, 2] rfl)
      ·
        have h := ite_e c25 h
        refine lv_iinc (v := (v2 + 1)) (lv' := [(2, .int (v2 + 1)), (0, .ref (a 5)), (1, .int v1)]) hx hb dX6_readNot_17 hl (k := 2) rfl rfl (by decide) rfl (fun ls hl => ?_)
        refine lv_aload_n hx hb dX6_readNot_20 rfl (lv_at hl 1 rfl) ?_
        obtain ⟨z_, g27, L28, hf29, h⟩ := cb_some h
        refine x_callVv (rest := []) li_X6_53 C (rX6_advance_5 l G H.size a fu g22 L23 z_ (g27, L28) hf29) (kR rfl) hP hD hS 5 6 rfl (zat (by decide) xs_5) rfl hl.1 rfl (Nat.le_of_ble_eq_true rfl) dX6_readNot_21 (fun u_ H locs e_ hP hD hS => ?_)
        have hP : va_P G.1 vwCl (zw G (XS 2) 105 a g27 L28) H := hP
        have hD : va_D A (zw G (XS 2) 105 a g27 L28) := hD
        refine lv_goto (tgt := 2) hx hb dX6_readNot_24 (by decide) ?_
        exact ih2 ((v2 + 1), g27, L28) h H locs ls hP hD hS (lv_sub hl [1, 2, 0] rfl)
  exact lp2 p1 fu (0, g, L) h H locs ls hP hD hS (lv_sub hl [1, 2, 0] rfl)
set_option maxHeartbeats 4000000 in
set_option maxRecDepth 100000 in
theorem rX6_readAnd_5_L7 (l : Launch) (G : kG) (sz : Nat) (a : Nat → Nat) (fu : Nat) (g : Nat → Nat → Int32) (L : Nat → Nat → Int64) (p1 : Int32) (res : Unit) (s9 : zS) (h : fX6_readAnd_5 fu (fX6_readExpr_5 fu 6) p1 g L = some (res, s9)) : kM l yX6_readAnd cX6_readAnd 3 none { frames := 59, cells := 0, slots := 0, locals := 1285 } G [.ref (a 5), .int p1] (zw G (XS 2) 105 a g L) sz (kQv G (S := Unit) (fun _ => True) (fun _ => zw G (XS 2) 105 a s9.1 s9.2)) := by
  refine kM.of (by decide) (Nat.le_of_ble_eq_true rfl) ?_
  intro p e s m below meth c A ls H C hr hlk hnm hP hD hS hl
  have C : kC G p s m c cX6_readAnd 3 RX6 A := C
  have hx := C.1
  have hb := C.2.1
  have hl : lv_has ls 3 [(0, .ref (a 5)), (1, .int p1)] := hl
  obtain ⟨locs, hlocs⟩ : ∃ q : List Loc, q = [] := ⟨_, rfl⟩
  rw [← hlocs] at hS
  rw [← hlocs]
  unfold fX6_readAnd_5 at h
  refine lv_aload_n hx hb dX6_readAnd_0 rfl (lv_at hl 0 rfl) ?_
  refine lv_iload_n hx hb dX6_readAnd_1 rfl (lv_at hl 1 rfl) ?_
  obtain ⟨z_, g2, L3, hf4, h⟩ := cb_some h
  refine x_callVv (rest := []) li_X6_214 C (rX6_readNot_5_L7 l G H.size a fu g L p1 z_ (g2, L3) hf4) (kR rfl) hP hD hS 5 6 rfl (zat (by decide) xs_5) rfl hl.1 rfl (Nat.le_of_ble_eq_true rfl) dX6_readAnd_2 (fun u_ H locs e_ hP hD hS => ?_)
  have hP : va_P G.1 vwCl (zw G (XS 2) 105 a g2 L3) H := hP
  have hD : va_D A (zw G (XS 2) 105 a g2 L3) := hD
  refine lv_iconst (v := 0) hx hb dX6_readAnd_5 (by decide) ?_
  refine lv_istore_n (lv' := [(2, .int 0), (0, .ref (a 5)), (1, .int p1)]) hx hb dX6_readAnd_6 rfl hl (by decide) rfl (fun ls hl => ?_)
  have lp7 : ∀ (v1 : Int32), ∀ (n : Nat) (v : Int32 × (Nat → Nat → Int32) × (Nat → Nat → Int64)), whileK (fun k v => fX6_readAnd_5_s7 fu (fX6_readExpr_5 fu 6) v1 k v.1 v.2.1 v.2.2) n v = some (res, s9) → ∀ (H : Heap) (locs : List Loc) (ls : Array Slot), va_P G.1 vwCl (zw G (XS 2) 105 a (v.2.1) (v.2.2)) H → va_D A (zw G (XS 2) 105 a (v.2.1) (v.2.2)) → va_S A s.heap H locs → lv_has ls 3 [(0, .ref (a 5)), (1, .int v1), (2, .int (v.1))] → W p l e { frames := 59, cells := 0, slots := 0, locals := 1285 } s m [.ref (a 5), .int p1].toArray below meth c H locs 0 0 (MQ below ((kQv G (S := Unit) (fun _ => True) (fun _ => zw G (XS 2) 105 a s9.1 s9.2)) A) [.ref (a 5), .int p1].toArray s 0 0 A) (F0 m 7 ls []) := by
    intro v1
    refine while_ind (fun k7 ih7 v h => ?_)
    obtain ⟨v2, g, L⟩ := v
    intro H locs ls hP hD hS hl
    have h : fX6_readAnd_5_s7 fu (fX6_readExpr_5 fu 6) v1 k7 v2 g L = some (res, s9) := h
    have hP : va_P G.1 vwCl (zw G (XS 2) 105 a g L) H := hP
    have hD : va_D A (zw G (XS 2) 105 a g L) := hD
    have hl : lv_has ls 3 [(0, .ref (a 5)), (1, .int v1), (2, .int v2)] := hl
    show W p l e { frames := 59, cells := 0, slots := 0, locals := 1285 } s m [.ref (a 5), .int p1].toArray below meth c H locs 0 0 (MQ below ((kQv G (S := Unit) (fun _ => True) (fun _ => zw G (XS 2) 105 a s9.1 s9.2)) A) [.ref (a 5), .int p1].toArray s 0 0 A) (F0 m 7 ls [])
    unfold fX6_readAnd_5_s7 at h
    refine lv_iload_n hx hb dX6_readAnd_7 rfl (lv_at hl 2 rfl) ?_
    refine lv_sipush (v := 700) hx hb dX6_readAnd_8 (by decide) ?_
    have J50 : ∀ (g : Nat → Nat → Int32) (L : Nat → Nat → Int64) (H : Heap) (locs : List Loc) (ls : Array Slot), fX6_readAnd_5_p50 fu (fX6_readExpr_5 fu 6) g L = some (res, s9) → va_P G.1 vwCl (zw G (XS 2) 105 a g L) H → va_D A (zw G (XS 2) 105 a g L) → va_S A s.heap H locs → lv_has ls 3 [] → W p l e { frames := 59, cells := 0, slots := 0, locals := 1285 } s m [.ref (a 5), .int p1].toArray below meth c H locs 0 0 (MQ below ((kQv G (S := Unit) (fun _ => True) (fun _ => zw G (XS 2) 105 a s9.1 s9.2)) A) [.ref (a 5), .int p1].toArray s 0 0 A) (F0 m 50 ls []) := by
      intro g L H locs ls h hP hD hS hl
      unfold fX6_readAnd_5_p50 at h
      exact y_vret C hr hlk hP hD hS h (Nat.le_of_ble_eq_true rfl) (Nat.le_of_ble_eq_true rfl) dX6_readAnd_50
    refine lv_icmp_ge (x := v2) (y := 700) (tgt := 50) hx hb dX6_readAnd_11 (by decide) (fun c5 => ?_) (fun c5 => ?_)
    ·
      have h := ite_t c5 h
      exact J50 g L H locs ls h hP hD hS (lv_sub hl [] rfl)
    ·
      have h := ite_e c5 h
      refine lv_aload_n hx hb dX6_readAnd_14 rfl (lv_at hl 0 rfl) ?_
      refine y_ldcS (i := 10) C (by decide) rfl dX6_readAnd_15 ?_
      obtain ⟨z_, g7, L8, hf9, h⟩ := cb_some h
      refine x_callVi (rest := []) li_X6_92 C (rX6_isWord_5_and l G H.size a fu g L z_ (g7, L8) hf9) (kR rfl) hP hD hS 5 6 rfl (zat (by decide) xs_5) rfl hl.1 rfl (Nat.le_of_ble_eq_true rfl) dX6_readAnd_17 (fun x6 u_ H locs e_ hP hD hS => ?_)
      have e_ : x6 = z_ := e_
      subst e_
      have hP : va_P G.1 vwCl (zw G (XS 2) 105 a g7 L8) H := hP
      have hD : va_D A (zw G (XS 2) 105 a g7 L8) := hD
      refine lv_if_eq (x := x6) (tgt := 50) hx hb dX6_readAnd_20 (by decide) (fun c10 => ?_) (fun c10 => ?_)
      ·
        have h := ite_t c10 h
        exact J50 g7 L8 H locs ls h hP hD hS (lv_sub hl [] rfl)
      ·
        have h := ite_e c10 h
        refine lv_aload_n hx hb dX6_readAnd_23 rfl (lv_at hl 0 rfl) ?_
        obtain ⟨z_, g12, L13, hf14, h⟩ := cb_some h
        refine x_callVv (rest := []) li_X6_53 C (rX6_advance_5 l G H.size a fu g7 L8 z_ (g12, L13) hf14) (kR rfl) hP hD hS 5 6 rfl (zat (by decide) xs_5) rfl hl.1 rfl (Nat.le_of_ble_eq_true rfl) dX6_readAnd_24 (fun u_ H locs e_ hP hD hS => ?_)
        have hP : va_P G.1 vwCl (zw G (XS 2) 105 a g12 L13) H := hP
        have hD : va_D A (zw G (XS 2) 105 a g12 L13) := hD
        refine lv_aload_n hx hb dX6_readAnd_27 rfl (lv_at hl 0 rfl) ?_
        refine lv_iload_n hx hb dX6_readAnd_28 rfl (lv_at hl 1 rfl) ?_
        obtain ⟨z_, g16, L17, hf18, h⟩ := cb_some h
        refine x_callVv (rest := []) li_X6_214 C (rX6_readNot_5_L7 l G H.size a fu g12 L13 v1 z_ (g16, L17) hf18) (kR rfl) hP hD hS 5 6 rfl (zat (by decide) xs_5) rfl hl.1 rfl (Nat.le_of_ble_eq_true rfl) dX6_readAnd_29 (fun u_ H locs e_ hP hD hS => ?_)
        have hP : va_P G.1 vwCl (zw G (XS 2) 105 a g16 L17) H := hP
        have hD : va_D A (zw G (XS 2) 105 a g16 L17) := hD
        refine lv_aload_n hx hb dX6_readAnd_32 rfl (lv_at hl 0 rfl) ?_
        refine x_getr (Or.inl fl_X6_15) C hP (by decide) xs_5 rfl dX6_readAnd_33 ?_
        refine x_getr (Or.inr fl_X6_125) C hP (by decide) xs_2 rfl dX6_readAnd_36 ?_
        refine lv_bipush (v := -13) hx hb dX6_readAnd_39 (by decide) ?_
        obtain ⟨z_, g20, L21, hf22, h⟩ := cb_some h
        refine x_callNv (rest := []) li_X6_211 C (rX8_add_4 l G H.size 2 a fu g16 L17 (-13) z_ (g20, L21) hf22) (kR rfl) hP hD hS 4 8 rfl (zat (by decide) xs_4) rfl hl.1 rfl (Nat.le_of_ble_eq_true rfl) dX6_readAnd_41 (fun u_ H locs e_ hP hD hS => ?_)
        have hP : va_P G.1 vwCl (zw G (XS 2) 105 a g20 L21) H := hP
        have hD : va_D A (zw G (XS 2) 105 a g20 L21) := hD
        refine lv_iinc (v := (v2 + 1)) (lv' := [(2, .int (v2 + 1)), (0, .ref (a 5)), (1, .int v1)]) hx hb dX6_readAnd_44 hl (k := 2) rfl rfl (by decide) rfl (fun ls hl => ?_)
        refine lv_goto (tgt := 7) hx hb dX6_readAnd_47 (by decide) ?_
        exact ih7 ((v2 + 1), g20, L21) h H locs ls hP hD hS (lv_sub hl [1, 2, 0] rfl)
  exact lp7 p1 fu (0, g2, L3) h H locs ls hP hD hS (lv_sub hl [1, 2, 0] rfl)
set_option maxHeartbeats 4000000 in
set_option maxRecDepth 100000 in
theorem rX6_readExpr_5_L7 (l : Launch) (G : kG) (sz : Nat) (a : Nat → Nat) (fu : Nat) (g : Nat → Nat → Int32) (L : Nat → Nat → Int64) (p1 : Int32) (res : Unit) (s9 : zS) (h : fX6_readExpr_5 fu 7 p1 g L = some (res, s9)) : kM l yX6_readExpr cX6_readExpr 3 none { frames := 60, cells := 0, slots := 0, locals := 1307 } G [.ref (a 5), .int p1] (zw G (XS 2) 105 a g L) sz (kQv G (S := Unit) (fun _ => True) (fun _ => zw G (XS 2) 105 a s9.1 s9.2)) := by
  refine kM.of (by decide) (Nat.le_of_ble_eq_true rfl) ?_
  intro p e s m below meth c A ls H C hr hlk hnm hP hD hS hl
  have C : kC G p s m c cX6_readExpr 3 RX6 A := C
  have hx := C.1
  have hb := C.2.1
  have hl : lv_has ls 3 [(0, .ref (a 5)), (1, .int p1)] := hl
  obtain ⟨locs, hlocs⟩ : ∃ q : List Loc, q = [] := ⟨_, rfl⟩
  rw [← hlocs] at hS
  rw [← hlocs]
  rw [fX6_readExpr_5_succ] at h
  unfold fX6_readExpr_5B at h
  refine lv_iload_n hx hb dX6_readExpr_0 rfl (lv_at hl 1 rfl) ?_
  refine lv_iconst (v := 5) hx hb dX6_readExpr_1 (by decide) ?_
  have J35 : ∀ (v1 : Int32) (g : Nat → Nat → Int32) (L : Nat → Nat → Int64) (H : Heap) (locs : List Loc) (ls : Array Slot), fX6_readExpr_5_p35 fu (fX6_readExpr_5 fu 6) v1 g L = some (res, s9) → va_P G.1 vwCl (zw G (XS 2) 105 a g L) H → va_D A (zw G (XS 2) 105 a g L) → va_S A s.heap H locs → lv_has ls 3 [(0, .ref (a 5)), (1, .int v1)] → W p l e { frames := 60, cells := 0, slots := 0, locals := 1307 } s m [.ref (a 5), .int p1].toArray below meth c H locs 0 0 (MQ below ((kQv G (S := Unit) (fun _ => True) (fun _ => zw G (XS 2) 105 a s9.1 s9.2)) A) [.ref (a 5), .int p1].toArray s 0 0 A) (F0 m 35 ls []) := by
    intro v1 g L H locs ls h hP hD hS hl
    unfold fX6_readExpr_5_p35 at h
    refine lv_aload_n hx hb dX6_readExpr_35 rfl (lv_at hl 0 rfl) ?_
    refine lv_iload_n hx hb dX6_readExpr_36 rfl (lv_at hl 1 rfl) ?_
    obtain ⟨z_, g2, L3, hf4, h⟩ := cb_some h
    refine x_callVv (rest := []) li_X6_206 C (rX6_readAnd_5_L7 l G H.size a fu g L v1 z_ (g2, L3) hf4) (kR rfl) hP hD hS 5 6 rfl (zat (by decide) xs_5) rfl hl.1 rfl (Nat.le_of_ble_eq_true rfl) dX6_readExpr_37 (fun u_ H locs e_ hP hD hS => ?_)
    have hP : va_P G.1 vwCl (zw G (XS 2) 105 a g2 L3) H := hP
    have hD : va_D A (zw G (XS 2) 105 a g2 L3) := hD
    refine lv_iconst (v := 0) hx hb dX6_readExpr_40 (by decide) ?_
    refine lv_istore_n (lv' := [(2, .int 0), (0, .ref (a 5)), (1, .int v1)]) hx hb dX6_readExpr_41 rfl hl (by decide) rfl (fun ls hl => ?_)
    have lp42 : ∀ (v1 : Int32), ∀ (n : Nat) (v : Int32 × (Nat → Nat → Int32) × (Nat → Nat → Int64)), whileK (fun k v => fX6_readExpr_5_s42 fu (fX6_readExpr_5 fu 6) v1 k v.1 v.2.1 v.2.2) n v = some (res, s9) → ∀ (H : Heap) (locs : List Loc) (ls : Array Slot), va_P G.1 vwCl (zw G (XS 2) 105 a (v.2.1) (v.2.2)) H → va_D A (zw G (XS 2) 105 a (v.2.1) (v.2.2)) → va_S A s.heap H locs → lv_has ls 3 [(0, .ref (a 5)), (1, .int v1), (2, .int (v.1))] → W p l e { frames := 60, cells := 0, slots := 0, locals := 1307 } s m [.ref (a 5), .int p1].toArray below meth c H locs 0 0 (MQ below ((kQv G (S := Unit) (fun _ => True) (fun _ => zw G (XS 2) 105 a s9.1 s9.2)) A) [.ref (a 5), .int p1].toArray s 0 0 A) (F0 m 42 ls []) := by
      intro v1
      refine while_ind (fun k42 ih42 v h => ?_)
      obtain ⟨v2, g, L⟩ := v
      intro H locs ls hP hD hS hl
      have h : fX6_readExpr_5_s42 fu (fX6_readExpr_5 fu 6) v1 k42 v2 g L = some (res, s9) := h
      have hP : va_P G.1 vwCl (zw G (XS 2) 105 a g L) H := hP
      have hD : va_D A (zw G (XS 2) 105 a g L) := hD
      have hl : lv_has ls 3 [(0, .ref (a 5)), (1, .int v1), (2, .int v2)] := hl
      show W p l e { frames := 60, cells := 0, slots := 0, locals := 1307 } s m [.ref (a 5), .int p1].toArray below meth c H locs 0 0 (MQ below ((kQv G (S := Unit) (fun _ => True) (fun _ => zw G (XS 2) 105 a s9.1 s9.2)) A) [.ref (a 5), .int p1].toArray s 0 0 A) (F0 m 42 ls [])
      unfold fX6_readExpr_5_s42 at h
      refine lv_iload_n hx hb dX6_readExpr_42 rfl (lv_at hl 2 rfl) ?_
      refine lv_sipush (v := 700) hx hb dX6_readExpr_43 (by decide) ?_
      have J85 : ∀ (g : Nat → Nat → Int32) (L : Nat → Nat → Int64) (H : Heap) (locs : List Loc) (ls : Array Slot), fX6_readExpr_5_p85 fu (fX6_readExpr_5 fu 6) g L = some (res, s9) → va_P G.1 vwCl (zw G (XS 2) 105 a g L) H → va_D A (zw G (XS 2) 105 a g L) → va_S A s.heap H locs → lv_has ls 3 [] → W p l e { frames := 60, cells := 0, slots := 0, locals := 1307 } s m [.ref (a 5), .int p1].toArray below meth c H locs 0 0 (MQ below ((kQv G (S := Unit) (fun _ => True) (fun _ => zw G (XS 2) 105 a s9.1 s9.2)) A) [.ref (a 5), .int p1].toArray s 0 0 A) (F0 m 85 ls []) := by
        intro g L H locs ls h hP hD hS hl
        unfold fX6_readExpr_5_p85 at h
        exact y_vret C hr hlk hP hD hS h (Nat.le_of_ble_eq_true rfl) (Nat.le_of_ble_eq_true rfl) dX6_readExpr_85
      refine lv_icmp_ge (x := v2) (y := 700) (tgt := 85) hx hb dX6_readExpr_46 (by decide) (fun c5 => ?_) (fun c5 => ?_)
      ·
        have h := ite_t c5 h
        exact J85 g L H locs ls h hP hD hS (lv_sub hl [] rfl)
      ·
        have h := ite_e c5 h
        refine lv_aload_n hx hb dX6_readExpr_49 rfl (lv_at hl 0 rfl) ?_
        refine y_ldcS (i := 9) C (by decide) rfl dX6_readExpr_50 ?_
        obtain ⟨z_, g7, L8, hf9, h⟩ := cb_some h
        refine x_callVi (rest := []) li_X6_92 C (rX6_isWord_5_or l G H.size a fu g L z_ (g7, L8) hf9) (kR rfl) hP hD hS 5 6 rfl (zat (by decide) xs_5) rfl hl.1 rfl (Nat.le_of_ble_eq_true rfl) dX6_readExpr_52 (fun x6 u_ H locs e_ hP hD hS => ?_)
        have e_ : x6 = z_ := e_
        subst e_
        have hP : va_P G.1 vwCl (zw G (XS 2) 105 a g7 L8) H := hP
        have hD : va_D A (zw G (XS 2) 105 a g7 L8) := hD
        refine lv_if_eq (x := x6) (tgt := 85) hx hb dX6_readExpr_55 (by decide) (fun c10 => ?_) (fun c10 => ?_)
        ·
          have h := ite_t c10 h
          exact J85 g7 L8 H locs ls h hP hD hS (lv_sub hl [] rfl)
        ·
          have h := ite_e c10 h
          refine lv_aload_n hx hb dX6_readExpr_58 rfl (lv_at hl 0 rfl) ?_
          obtain ⟨z_, g12, L13, hf14, h⟩ := cb_some h
          refine x_callVv (rest := []) li_X6_53 C (rX6_advance_5 l G H.size a fu g7 L8 z_ (g12, L13) hf14) (kR rfl) hP hD hS 5 6 rfl (zat (by decide) xs_5) rfl hl.1 rfl (Nat.le_of_ble_eq_true rfl) dX6_readExpr_59 (fun u_ H locs e_ hP hD hS => ?_)
          have hP : va_P G.1 vwCl (zw G (XS 2) 105 a g12 L13) H := hP
          have hD : va_D A (zw G (XS 2) 105 a g12 L13) := hD
          refine lv_aload_n hx hb dX6_readExpr_62 rfl (lv_at hl 0 rfl) ?_
          refine lv_iload_n hx hb dX6_readExpr_63 rfl (lv_at hl 1 rfl) ?_
          obtain ⟨z_, g16, L17, hf18, h⟩ := cb_some h
          refine x_callVv (rest := []) li_X6_206 C (rX6_readAnd_5_L7 l G H.size a fu g12 L13 v1 z_ (g16, L17) hf18) (kR rfl) hP hD hS 5 6 rfl (zat (by decide) xs_5) rfl hl.1 rfl (Nat.le_of_ble_eq_true rfl) dX6_readExpr_64 (fun u_ H locs e_ hP hD hS => ?_)
          have hP : va_P G.1 vwCl (zw G (XS 2) 105 a g16 L17) H := hP
          have hD : va_D A (zw G (XS 2) 105 a g16 L17) := hD
          refine lv_aload_n hx hb dX6_readExpr_67 rfl (lv_at hl 0 rfl) ?_
          refine x_getr (Or.inl fl_X6_15) C hP (by decide) xs_5 rfl dX6_readExpr_68 ?_
          refine x_getr (Or.inr fl_X6_125) C hP (by decide) xs_2 rfl dX6_readExpr_71 ?_
          refine lv_bipush (v := -14) hx hb dX6_readExpr_74 (by decide) ?_
          obtain ⟨z_, g20, L21, hf22, h⟩ := cb_some h
          refine x_callNv (rest := []) li_X6_211 C (rX8_add_4 l G H.size 2 a fu g16 L17 (-14) z_ (g20, L21) hf22) (kR rfl) hP hD hS 4 8 rfl (zat (by decide) xs_4) rfl hl.1 rfl (Nat.le_of_ble_eq_true rfl) dX6_readExpr_76 (fun u_ H locs e_ hP hD hS => ?_)
          have hP : va_P G.1 vwCl (zw G (XS 2) 105 a g20 L21) H := hP
          have hD : va_D A (zw G (XS 2) 105 a g20 L21) := hD
          refine lv_iinc (v := (v2 + 1)) (lv' := [(2, .int (v2 + 1)), (0, .ref (a 5)), (1, .int v1)]) hx hb dX6_readExpr_79 hl (k := 2) rfl rfl (by decide) rfl (fun ls hl => ?_)
          refine lv_goto (tgt := 42) hx hb dX6_readExpr_82 (by decide) ?_
          exact ih42 ((v2 + 1), g20, L21) h H locs ls hP hD hS (lv_sub hl [1, 2, 0] rfl)
    exact lp42 v1 fu (0, g2, L3) h H locs ls hP hD hS (lv_sub hl [1, 2, 0] rfl)
  refine lv_icmp_le (x := p1) (y := 5) (tgt := 35) hx hb dX6_readExpr_2 (by decide) (fun c23 => ?_) (fun c23 => ?_)
  ·
    have h := ite_t c23 h
    exact J35 p1 g L H locs ls h hP hD hS (lv_sub hl [0, 1] rfl)
  ·
    have h := ite_e c23 h
    refine lv_aload_n hx hb dX6_readExpr_5 rfl (lv_at hl 0 rfl) ?_
    refine x_getv (v := .int (g 5 4)) (Or.inl fl_X6_50) C hP (by decide) xs_5 rfl dX6_readExpr_6 ?_
    refine lv_iconst (v := 1) hx hb dX6_readExpr_9 (by decide) ?_
    have J30 : ∀ (v1 : Int32) (g : Nat → Nat → Int32) (L : Nat → Nat → Int64) (H : Heap) (locs : List Loc) (ls : Array Slot), fX6_readExpr_5_p30 fu (fX6_readExpr_5 fu 6) v1 g L = some (res, s9) → va_P G.1 vwCl (zw G (XS 2) 105 a g L) H → va_D A (zw G (XS 2) 105 a g L) → va_S A s.heap H locs → lv_has ls 3 [(0, .ref (a 5)), (1, .int v1)] → W p l e { frames := 60, cells := 0, slots := 0, locals := 1307 } s m [.ref (a 5), .int p1].toArray below meth c H locs 0 0 (MQ below ((kQv G (S := Unit) (fun _ => True) (fun _ => zw G (XS 2) 105 a s9.1 s9.2)) A) [.ref (a 5), .int p1].toArray s 0 0 A) (F0 m 30 ls []) := by
      intro v1 g L H locs ls h hP hD hS hl
      unfold fX6_readExpr_5_p30 at h
      refine lv_aload_n hx hb dX6_readExpr_30 rfl (lv_at hl 0 rfl) ?_
      refine lv_iconst (v := 2) hx hb dX6_readExpr_31 (by decide) ?_
      obtain ⟨z_, g25, L26, hf27, h⟩ := cb_some h
      refine x_callVv (rest := []) li_X6_78 C (rX6_refuse_5 l G H.size a fu g L 2 z_ (g25, L26) hf27) (kR rfl) hP hD hS 5 6 rfl (zat (by decide) xs_5) rfl hl.1 rfl (Nat.le_of_ble_eq_true rfl) dX6_readExpr_32 (fun u_ H locs e_ hP hD hS => ?_)
      have hP : va_P G.1 vwCl (zw G (XS 2) 105 a g25 L26) H := hP
      have hD : va_D A (zw G (XS 2) 105 a g25 L26) := hD
      exact J35 v1 g25 L26 H locs ls h hP hD hS (lv_sub hl [0, 1] rfl)
    refine lv_icmp_eq (x := (g 5 4)) (y := 1) (tgt := 30) hx hb dX6_readExpr_10 (by decide) (fun c28 => ?_) (fun c28 => ?_)
    ·
      have h := ite_t c28 h
      exact J30 p1 g L H locs ls h hP hD hS (lv_sub hl [0, 1] rfl)
    ·
      have h := ite_e c28 h
      refine lv_aload_n hx hb dX6_readExpr_13 rfl (lv_at hl 0 rfl) ?_
      refine x_getv (v := .int (g 5 4)) (Or.inl fl_X6_50) C hP (by decide) xs_5 rfl dX6_readExpr_14 ?_
      refine lv_iconst (v := 2) hx hb dX6_readExpr_17 (by decide) ?_
      refine lv_icmp_eq (x := (g 5 4)) (y := 2) (tgt := 30) hx hb dX6_readExpr_18 (by decide) (fun c29 => ?_) (fun c29 => ?_)
      ·
        have h := ite_t c29 h
        exact J30 p1 g L H locs ls h hP hD hS (lv_sub hl [0, 1] rfl)
      ·
        have h := ite_e c29 h
        refine lv_aload_n hx hb dX6_readExpr_21 rfl (lv_at hl 0 rfl) ?_
        refine lv_bipush (v := 40) hx hb dX6_readExpr_22 (by decide) ?_
        obtain ⟨z_, g31, L32, hf33, h⟩ := cb_some h
        refine x_callVi (rest := []) li_X6_86 C (rX6_isSignNow_5 l G H.size a fu g L 40 z_ (g31, L32) hf33) (kR rfl) hP hD hS 5 6 rfl (zat (by decide) xs_5) rfl hl.1 rfl (Nat.le_of_ble_eq_true rfl) dX6_readExpr_24 (fun x30 u_ H locs e_ hP hD hS => ?_)
        have e_ : x30 = z_ := e_
        subst e_
        have hP : va_P G.1 vwCl (zw G (XS 2) 105 a g31 L32) H := hP
        have hD : va_D A (zw G (XS 2) 105 a g31 L32) := hD
        refine lv_if_eq (x := x30) (tgt := 35) hx hb dX6_readExpr_27 (by decide) (fun c34 => ?_) (fun c34 => ?_)
        ·
          have h := ite_t c34 h
          exact J35 p1 g31 L32 H locs ls h hP hD hS (lv_sub hl [0, 1] rfl)
        ·
          have h := ite_e c34 h
          exact J30 p1 g31 L32 H locs ls h hP hD hS (lv_sub hl [0, 1] rfl)
def fX6_readRule_5_p19 (fu : Nat) (g : Nat → Nat → Int32) (L : Nat → Nat → Int64) : Option ((Unit) × zS) :=
  cb (fX6_advance_5 fu g L) (fun x1 g2 L3 =>
  cb (fX6_readExpr_5 fu 7 0 g2 L3) (fun x5 g6 L7 =>
  cb (fX8_close_4 fu g6 L7) (fun x9 g10 L11 =>
  some ((), (g10, L11)))))
def fX6_readRule_5 (fu : Nat) (g : Nat → Nat → Int32) (L : Nat → Nat → Int64) : Option ((Unit) × zS) :=
  if (g 4 3) < 4 then fX6_readRule_5_p19 fu g L
  else cb (fX6_refuse_5 fu 2 g L) (fun x14 g15 L16 =>
  fX6_readRule_5_p19 fu g15 L16)
set_option maxHeartbeats 4000000 in
set_option maxRecDepth 100000 in
theorem rX6_readRule_5 (l : Launch) (G : kG) (sz : Nat) (a : Nat → Nat) (fu : Nat) (g : Nat → Nat → Int32) (L : Nat → Nat → Int64) (res : Unit) (s9 : zS) (h : fX6_readRule_5 fu g L = some (res, s9)) : kM l yX6_readRule cX6_readRule 1 none { frames := 61, cells := 0, slots := 0, locals := 1329 } G [.ref (a 5)] (zw G (XS 2) 105 a g L) sz (kQv G (S := Unit) (fun _ => True) (fun _ => zw G (XS 2) 105 a s9.1 s9.2)) := by
  refine kM.of (by decide) (Nat.le_of_ble_eq_true rfl) ?_
  intro p e s m below meth c A ls H C hr hlk hnm hP hD hS hl
  have C : kC G p s m c cX6_readRule 1 RX6 A := C
  have hx := C.1
  have hb := C.2.1
  have hl : lv_has ls 1 [(0, .ref (a 5))] := hl
  obtain ⟨locs, hlocs⟩ : ∃ q : List Loc, q = [] := ⟨_, rfl⟩
  rw [← hlocs] at hS
  rw [← hlocs]
  unfold fX6_readRule_5 at h
  refine lv_aload_n hx hb dX6_readRule_0 rfl (lv_at hl 0 rfl) ?_
  refine x_getr (Or.inl fl_X6_15) C hP (by decide) xs_5 rfl dX6_readRule_1 ?_
  refine x_getr (Or.inr fl_X6_125) C hP (by decide) xs_2 rfl dX6_readRule_4 ?_
  refine x_getv (v := .int (g 4 3)) (Or.inr fl_X6_129) C hP (by decide) xs_4 rfl dX6_readRule_7 ?_
  refine lv_iconst (v := 4) hx hb dX6_readRule_10 (by decide) ?_
  have J19 : ∀ (g : Nat → Nat → Int32) (L : Nat → Nat → Int64) (H : Heap) (locs : List Loc) (ls : Array Slot), fX6_readRule_5_p19 fu g L = some (res, s9) → va_P G.1 vwCl (zw G (XS 2) 105 a g L) H → va_D A (zw G (XS 2) 105 a g L) → va_S A s.heap H locs → lv_has ls 1 [(0, .ref (a 5))] → W p l e { frames := 61, cells := 0, slots := 0, locals := 1329 } s m [.ref (a 5)].toArray below meth c H locs 0 0 (MQ below ((kQv G (S := Unit) (fun _ => True) (fun _ => zw G (XS 2) 105 a s9.1 s9.2)) A) [.ref (a 5)].toArray s 0 0 A) (F0 m 19 ls []) := by
    intro g L H locs ls h hP hD hS hl
    unfold fX6_readRule_5_p19 at h
    refine lv_aload_n hx hb dX6_readRule_19 rfl (lv_at hl 0 rfl) ?_
    obtain ⟨z_, g2, L3, hf4, h⟩ := cb_some h
    refine x_callVv (rest := []) li_X6_53 C (rX6_advance_5 l G H.size a fu g L z_ (g2, L3) hf4) (kR rfl) hP hD hS 5 6 rfl (zat (by decide) xs_5) rfl hl.1 rfl (Nat.le_of_ble_eq_true rfl) dX6_readRule_20 (fun u_ H locs e_ hP hD hS => ?_)
    have hP : va_P G.1 vwCl (zw G (XS 2) 105 a g2 L3) H := hP
    have hD : va_D A (zw G (XS 2) 105 a g2 L3) := hD
    refine lv_aload_n hx hb dX6_readRule_23 rfl (lv_at hl 0 rfl) ?_
    refine lv_iconst (v := 0) hx hb dX6_readRule_24 (by decide) ?_
    obtain ⟨z_, g6, L7, hf8, h⟩ := cb_some h
    refine x_callVv (rest := []) li_X6_134 C (rX6_readExpr_5_L7 l G H.size a fu g2 L3 0 z_ (g6, L7) hf8) (kR rfl) hP hD hS 5 6 rfl (zat (by decide) xs_5) rfl hl.1 rfl (Nat.le_of_ble_eq_true rfl) dX6_readRule_25 (fun u_ H locs e_ hP hD hS => ?_)
    have hP : va_P G.1 vwCl (zw G (XS 2) 105 a g6 L7) H := hP
    have hD : va_D A (zw G (XS 2) 105 a g6 L7) := hD
    refine lv_aload_n hx hb dX6_readRule_28 rfl (lv_at hl 0 rfl) ?_
    refine x_getr (Or.inl fl_X6_15) C hP (by decide) xs_5 rfl dX6_readRule_29 ?_
    refine x_getr (Or.inr fl_X6_125) C hP (by decide) xs_2 rfl dX6_readRule_32 ?_
    obtain ⟨z_, g10, L11, hf12, h⟩ := cb_some h
    refine x_callNv (rest := []) li_X6_137 C (rX8_close_4 l G H.size 2 a fu g6 L7 z_ (g10, L11) hf12) (kR rfl) hP hD hS 4 8 rfl (zat (by decide) xs_4) rfl hl.1 rfl (Nat.le_of_ble_eq_true rfl) dX6_readRule_35 (fun u_ H locs e_ hP hD hS => ?_)
    have hP : va_P G.1 vwCl (zw G (XS 2) 105 a g10 L11) H := hP
    have hD : va_D A (zw G (XS 2) 105 a g10 L11) := hD
    exact y_vret C hr hlk hP hD hS h (Nat.le_of_ble_eq_true rfl) (Nat.le_of_ble_eq_true rfl) dX6_readRule_38
  refine lv_icmp_lt (x := (g 4 3)) (y := 4) (tgt := 19) hx hb dX6_readRule_11 (by decide) (fun c13 => ?_) (fun c13 => ?_)
  ·
    have h := ite_t c13 h
    exact J19 g L H locs ls h hP hD hS (lv_sub hl [0] rfl)
  ·
    have h := ite_e c13 h
    refine lv_aload_n hx hb dX6_readRule_14 rfl (lv_at hl 0 rfl) ?_
    refine lv_iconst (v := 2) hx hb dX6_readRule_15 (by decide) ?_
    obtain ⟨z_, g15, L16, hf17, h⟩ := cb_some h
    refine x_callVv (rest := []) li_X6_78 C (rX6_refuse_5 l G H.size a fu g L 2 z_ (g15, L16) hf17) (kR rfl) hP hD hS 5 6 rfl (zat (by decide) xs_5) rfl hl.1 rfl (Nat.le_of_ble_eq_true rfl) dX6_readRule_16 (fun u_ H locs e_ hP hD hS => ?_)
    have hP : va_P G.1 vwCl (zw G (XS 2) 105 a g15 L16) H := hP
    have hD : va_D A (zw G (XS 2) 105 a g15 L16) := hD
    exact J19 g15 L16 H locs ls h hP hD hS (lv_sub hl [0] rfl)
