theorem dL_law_992 : decode cL_law 992 = .ok (.aload_n 1, 1) := by decide +kernel
theorem tw_584 : (Jvm.Cond.methodLink "MarshBellsLaw" (182 : Nat) ({ cls := "MarshBells", name := "last", desc := "()I" } : Jvm.MethodName)) ∈ lw_tbl := tk_3 (List.mem_of_getElem? (i := 104) rfl)
theorem tw_587 : (Jvm.Cond.code ({ cls := "MarshBells", name := "last", desc := "()I" } : Jvm.MethodName) prog_1_method_22_code (1 : Nat) (Option.some Jvm.ClassFile.FieldType.int)) ∈ lw_tbl := tk_3 (List.mem_of_getElem? (i := 107) rfl)
theorem tw_585 : (Jvm.Cond.instanceMethod ({ cls := "MarshBells", name := "last", desc := "()I" } : Jvm.MethodName)) ∈ lw_tbl := tk_3 (List.mem_of_getElem? (i := 105) rfl)
theorem tw_586 : (Jvm.Cond.selects "MarshBells" ({ cls := "MarshBells", name := "last", desc := "()I" } : Jvm.MethodName) ({ cls := "MarshBells", name := "last", desc := "()I" } : Jvm.MethodName)) ∈ lw_tbl := tk_3 (List.mem_of_getElem? (i := 106) rfl)
theorem li_L_182 : kLV RL 182 RX11 yX11_last cX11_last 1 (some .int) 0 := ⟨tw_584, tw_585, tw_586, tw_587, tw_1, by decide +kernel⟩
theorem dL_law_993 : decode cL_law 993 = .ok (.invokevirtual 182, 3) := by decide +kernel
theorem dL_law_996 : decode cL_law 996 = .ok (.pop, 1) := by decide +kernel
theorem dL_law_997 : decode cL_law 997 = .ok (.aload_n 2, 1) := by decide +kernel
theorem tw_1994 : (Jvm.Cond.methodLink "MarshBellsLaw" (185 : Nat) ({ cls := "MarshBellsModel", name := "last", desc := "()I" } : Jvm.MethodName)) ∈ lw_tbl := tk_9 (List.mem_of_getElem? (i := 74) rfl)
theorem tw_1997 : (Jvm.Cond.code ({ cls := "MarshBellsModel", name := "last", desc := "()I" } : Jvm.MethodName) prog_14_method_81_code (6 : Nat) (Option.some Jvm.ClassFile.FieldType.int)) ∈ lw_tbl := tk_9 (List.mem_of_getElem? (i := 77) rfl)
theorem tw_1995 : (Jvm.Cond.instanceMethod ({ cls := "MarshBellsModel", name := "last", desc := "()I" } : Jvm.MethodName)) ∈ lw_tbl := tk_9 (List.mem_of_getElem? (i := 75) rfl)
theorem tw_1996 : (Jvm.Cond.selects "MarshBellsModel" ({ cls := "MarshBellsModel", name := "last", desc := "()I" } : Jvm.MethodName) ({ cls := "MarshBellsModel", name := "last", desc := "()I" } : Jvm.MethodName)) ∈ lw_tbl := tk_9 (List.mem_of_getElem? (i := 76) rfl)
theorem li_L_185 : kLV RL 185 RX12 yX12_last cX12_last 6 (some .int) 0 := ⟨tw_1994, tw_1995, tw_1996, tw_1997, tw_13, by decide +kernel⟩
theorem dL_law_998 : decode cL_law 998 = .ok (.invokevirtual 185, 3) := by decide +kernel
theorem dL_law_1001 : decode cL_law 1001 = .ok (.pop, 1) := by decide +kernel
theorem dL_law_1002 : decode cL_law 1002 = .ok (.goto 509, 3) := by decide +kernel
theorem dL_law_1005 : decode cL_law 1005 = .ok (.aload_n 1, 1) := by decide +kernel
theorem dL_law_1006 : decode cL_law 1006 = .ok (.aload_n 0, 1) := by decide +kernel
theorem dL_law_1007 : decode cL_law 1007 = .ok (.iload 4, 2) := by decide +kernel
theorem dL_law_1009 : decode cL_law 1009 = .ok (.iconst 1, 1) := by decide +kernel
theorem dL_law_1010 : decode cL_law 1010 = .ok (.iadd, 1) := by decide +kernel
theorem dL_law_1011 : decode cL_law 1011 = .ok (.iaload, 1) := by decide +kernel
theorem dL_law_1012 : decode cL_law 1012 = .ok (.aload_n 3, 1) := by decide +kernel
theorem tw_1250 : (Jvm.Cond.methodLink "MarshBellsLaw" (186 : Nat) ({ cls := "MarshBellsLaw", name := "compare", desc := "(LMarshBells;I[J)I" } : Jvm.MethodName)) ∈ lw_tbl := tk_6 (List.mem_of_getElem? (i := 50) rfl)
theorem tw_1252 : (Jvm.Cond.codeWith ({ cls := "MarshBellsLaw", name := "compare", desc := "(LMarshBells;I[J)I" } : Jvm.MethodName) method_19_code (4 : Nat) (Option.some Jvm.ClassFile.FieldType.int) [((0 : Nat), (9 : Nat), (12 : Nat), (18 : Nat))]) ∈ lw_tbl := tk_6 (List.mem_of_getElem? (i := 52) rfl)
theorem tw_1251 : (Jvm.Cond.static ({ cls := "MarshBellsLaw", name := "compare", desc := "(LMarshBells;I[J)I" } : Jvm.MethodName)) ∈ lw_tbl := tk_6 (List.mem_of_getElem? (i := 51) rfl)
theorem li_L_186 : kLH RL 186 yL_compare cL_compare 4 (some .int) [(0, 9, 12, 18)] 3 := ⟨tw_1250, tw_1251, tw_1252, tw_0, by decide +kernel⟩
theorem dL_law_1013 : decode cL_law 1013 = .ok (.invokestatic 186, 3) := by decide +kernel
theorem dL_law_1016 : decode cL_law 1016 = .ok (.istore 5, 2) := by decide +kernel
theorem dL_law_1018 : decode cL_law 1018 = .ok (.aload_n 2, 1) := by decide +kernel
theorem dL_law_1019 : decode cL_law 1019 = .ok (.aload_n 0, 1) := by decide +kernel
theorem dL_law_1020 : decode cL_law 1020 = .ok (.iload 4, 2) := by decide +kernel
theorem dL_law_1022 : decode cL_law 1022 = .ok (.iconst 1, 1) := by decide +kernel
theorem dL_law_1023 : decode cL_law 1023 = .ok (.iadd, 1) := by decide +kernel
theorem dL_law_1024 : decode cL_law 1024 = .ok (.iaload, 1) := by decide +kernel
theorem tw_1998 : (Jvm.Cond.methodLink "MarshBellsLaw" (188 : Nat) ({ cls := "MarshBellsModel", name := "compare", desc := "(I)I" } : Jvm.MethodName)) ∈ lw_tbl := tk_9 (List.mem_of_getElem? (i := 78) rfl)
theorem tw_2001 : (Jvm.Cond.code ({ cls := "MarshBellsModel", name := "compare", desc := "(I)I" } : Jvm.MethodName) prog_14_method_83_code (2 : Nat) (Option.some Jvm.ClassFile.FieldType.int)) ∈ lw_tbl := tk_9 (List.mem_of_getElem? (i := 81) rfl)
theorem tw_1999 : (Jvm.Cond.instanceMethod ({ cls := "MarshBellsModel", name := "compare", desc := "(I)I" } : Jvm.MethodName)) ∈ lw_tbl := tk_9 (List.mem_of_getElem? (i := 79) rfl)
theorem tw_2000 : (Jvm.Cond.selects "MarshBellsModel" ({ cls := "MarshBellsModel", name := "compare", desc := "(I)I" } : Jvm.MethodName) ({ cls := "MarshBellsModel", name := "compare", desc := "(I)I" } : Jvm.MethodName)) ∈ lw_tbl := tk_9 (List.mem_of_getElem? (i := 80) rfl)
theorem li_L_188 : kLV RL 188 RX12 yX12_compare cX12_compare 2 (some .int) 1 := ⟨tw_1998, tw_1999, tw_2000, tw_2001, tw_13, by decide +kernel⟩
theorem dL_law_1025 : decode cL_law 1025 = .ok (.invokevirtual 188, 3) := by decide +kernel
theorem dL_law_1028 : decode cL_law 1028 = .ok (.istore 6, 2) := by decide +kernel
theorem dL_law_1030 : decode cL_law 1030 = .ok (.goto 481, 3) := by decide +kernel
theorem dL_law_1033 : decode cL_law 1033 = .ok (.aload_n 1, 1) := by decide +kernel
theorem tw_668 : (Jvm.Cond.methodLink "MarshBellsLaw" (189 : Nat) ({ cls := "MarshBells", name := "best", desc := "()I" } : Jvm.MethodName)) ∈ lw_tbl := tk_3 (List.mem_of_getElem? (i := 188) rfl)
theorem tw_671 : (Jvm.Cond.code ({ cls := "MarshBells", name := "best", desc := "()I" } : Jvm.MethodName) prog_1_method_24_code (1 : Nat) (Option.some Jvm.ClassFile.FieldType.int)) ∈ lw_tbl := tk_3 (List.mem_of_getElem? (i := 191) rfl)
theorem tw_669 : (Jvm.Cond.instanceMethod ({ cls := "MarshBells", name := "best", desc := "()I" } : Jvm.MethodName)) ∈ lw_tbl := tk_3 (List.mem_of_getElem? (i := 189) rfl)
theorem tw_670 : (Jvm.Cond.selects "MarshBells" ({ cls := "MarshBells", name := "best", desc := "()I" } : Jvm.MethodName) ({ cls := "MarshBells", name := "best", desc := "()I" } : Jvm.MethodName)) ∈ lw_tbl := tk_3 (List.mem_of_getElem? (i := 190) rfl)
theorem li_L_189 : kLV RL 189 RX11 yX11_best cX11_best 1 (some .int) 0 := ⟨tw_668, tw_669, tw_670, tw_671, tw_1, by decide +kernel⟩
theorem dL_law_1034 : decode cL_law 1034 = .ok (.invokevirtual 189, 3) := by decide +kernel
theorem dL_law_1037 : decode cL_law 1037 = .ok (.pop, 1) := by decide +kernel
theorem dL_law_1038 : decode cL_law 1038 = .ok (.aload_n 2, 1) := by decide +kernel
theorem tw_2006 : (Jvm.Cond.methodLink "MarshBellsLaw" (192 : Nat) ({ cls := "MarshBellsModel", name := "best", desc := "()I" } : Jvm.MethodName)) ∈ lw_tbl := tk_9 (List.mem_of_getElem? (i := 86) rfl)
theorem tw_2009 : (Jvm.Cond.code ({ cls := "MarshBellsModel", name := "best", desc := "()I" } : Jvm.MethodName) prog_14_method_84_code (3 : Nat) (Option.some Jvm.ClassFile.FieldType.int)) ∈ lw_tbl := tk_9 (List.mem_of_getElem? (i := 89) rfl)
theorem tw_2007 : (Jvm.Cond.instanceMethod ({ cls := "MarshBellsModel", name := "best", desc := "()I" } : Jvm.MethodName)) ∈ lw_tbl := tk_9 (List.mem_of_getElem? (i := 87) rfl)
theorem tw_2008 : (Jvm.Cond.selects "MarshBellsModel" ({ cls := "MarshBellsModel", name := "best", desc := "()I" } : Jvm.MethodName) ({ cls := "MarshBellsModel", name := "best", desc := "()I" } : Jvm.MethodName)) ∈ lw_tbl := tk_9 (List.mem_of_getElem? (i := 88) rfl)
theorem li_L_192 : kLV RL 192 RX12 yX12_best cX12_best 3 (some .int) 0 := ⟨tw_2006, tw_2007, tw_2008, tw_2009, tw_13, by decide +kernel⟩
theorem dL_law_1039 : decode cL_law 1039 = .ok (.invokevirtual 192, 3) := by decide +kernel
theorem dL_law_1042 : decode cL_law 1042 = .ok (.pop, 1) := by decide +kernel
theorem dL_law_1043 : decode cL_law 1043 = .ok (.goto 468, 3) := by decide +kernel
theorem dL_law_1046 : decode cL_law 1046 = .ok (.aload_n 1, 1) := by decide +kernel
theorem dL_law_1047 : decode cL_law 1047 = .ok (.aload_n 0, 1) := by decide +kernel
theorem dL_law_1048 : decode cL_law 1048 = .ok (.iload 4, 2) := by decide +kernel
theorem dL_law_1050 : decode cL_law 1050 = .ok (.iconst 1, 1) := by decide +kernel
theorem dL_law_1051 : decode cL_law 1051 = .ok (.iadd, 1) := by decide +kernel
theorem dL_law_1052 : decode cL_law 1052 = .ok (.iaload, 1) := by decide +kernel
theorem dL_law_1053 : decode cL_law 1053 = .ok (.aload_n 3, 1) := by decide +kernel
theorem tw_1258 : (Jvm.Cond.methodLink "MarshBellsLaw" (193 : Nat) ({ cls := "MarshBellsLaw", name := "bell", desc := "(LMarshBells;I[J)I" } : Jvm.MethodName)) ∈ lw_tbl := tk_6 (List.mem_of_getElem? (i := 58) rfl)
theorem tw_1260 : (Jvm.Cond.codeWith ({ cls := "MarshBellsLaw", name := "bell", desc := "(LMarshBells;I[J)I" } : Jvm.MethodName) method_20_code (4 : Nat) (Option.some Jvm.ClassFile.FieldType.int) [((0 : Nat), (9 : Nat), (12 : Nat), (13 : Nat))]) ∈ lw_tbl := tk_6 (List.mem_of_getElem? (i := 60) rfl)
theorem tw_1259 : (Jvm.Cond.static ({ cls := "MarshBellsLaw", name := "bell", desc := "(LMarshBells;I[J)I" } : Jvm.MethodName)) ∈ lw_tbl := tk_6 (List.mem_of_getElem? (i := 59) rfl)
theorem li_L_193 : kLH RL 193 yL_bell cL_bell 4 (some .int) [(0, 9, 12, 13)] 3 := ⟨tw_1258, tw_1259, tw_1260, tw_0, by decide +kernel⟩
theorem dL_law_1054 : decode cL_law 1054 = .ok (.invokestatic 193, 3) := by decide +kernel
theorem dL_law_1057 : decode cL_law 1057 = .ok (.istore 5, 2) := by decide +kernel
theorem dL_law_1059 : decode cL_law 1059 = .ok (.aload_n 2, 1) := by decide +kernel
theorem dL_law_1060 : decode cL_law 1060 = .ok (.aload_n 0, 1) := by decide +kernel
theorem dL_law_1061 : decode cL_law 1061 = .ok (.iload 4, 2) := by decide +kernel
theorem dL_law_1063 : decode cL_law 1063 = .ok (.iconst 1, 1) := by decide +kernel
theorem dL_law_1064 : decode cL_law 1064 = .ok (.iadd, 1) := by decide +kernel
theorem dL_law_1065 : decode cL_law 1065 = .ok (.iaload, 1) := by decide +kernel
theorem tw_2010 : (Jvm.Cond.methodLink "MarshBellsLaw" (195 : Nat) ({ cls := "MarshBellsModel", name := "bell", desc := "(I)I" } : Jvm.MethodName)) ∈ lw_tbl := tk_9 (List.mem_of_getElem? (i := 90) rfl)
theorem tw_2013 : (Jvm.Cond.code ({ cls := "MarshBellsModel", name := "bell", desc := "(I)I" } : Jvm.MethodName) prog_14_method_85_code (4 : Nat) (Option.some Jvm.ClassFile.FieldType.int)) ∈ lw_tbl := tk_9 (List.mem_of_getElem? (i := 93) rfl)
theorem tw_2011 : (Jvm.Cond.instanceMethod ({ cls := "MarshBellsModel", name := "bell", desc := "(I)I" } : Jvm.MethodName)) ∈ lw_tbl := tk_9 (List.mem_of_getElem? (i := 91) rfl)
theorem tw_2012 : (Jvm.Cond.selects "MarshBellsModel" ({ cls := "MarshBellsModel", name := "bell", desc := "(I)I" } : Jvm.MethodName) ({ cls := "MarshBellsModel", name := "bell", desc := "(I)I" } : Jvm.MethodName)) ∈ lw_tbl := tk_9 (List.mem_of_getElem? (i := 92) rfl)
theorem li_L_195 : kLV RL 195 RX12 yX12_bell cX12_bell 4 (some .int) 1 := ⟨tw_2010, tw_2011, tw_2012, tw_2013, tw_13, by decide +kernel⟩
theorem dL_law_1066 : decode cL_law 1066 = .ok (.invokevirtual 195, 3) := by decide +kernel
theorem dL_law_1069 : decode cL_law 1069 = .ok (.istore 6, 2) := by decide +kernel
theorem dL_law_1071 : decode cL_law 1071 = .ok (.goto 440, 3) := by decide +kernel
theorem dL_law_1074 : decode cL_law 1074 = .ok (.aload_n 1, 1) := by decide +kernel
theorem dL_law_1075 : decode cL_law 1075 = .ok (.aload_n 0, 1) := by decide +kernel
theorem dL_law_1076 : decode cL_law 1076 = .ok (.iload 4, 2) := by decide +kernel
theorem dL_law_1078 : decode cL_law 1078 = .ok (.iconst 1, 1) := by decide +kernel
theorem dL_law_1079 : decode cL_law 1079 = .ok (.iadd, 1) := by decide +kernel
theorem dL_law_1080 : decode cL_law 1080 = .ok (.iaload, 1) := by decide +kernel
theorem dL_law_1081 : decode cL_law 1081 = .ok (.aload_n 0, 1) := by decide +kernel
theorem dL_law_1082 : decode cL_law 1082 = .ok (.iload 4, 2) := by decide +kernel
theorem dL_law_1084 : decode cL_law 1084 = .ok (.iconst 2, 1) := by decide +kernel
theorem dL_law_1085 : decode cL_law 1085 = .ok (.iadd, 1) := by decide +kernel
theorem dL_law_1086 : decode cL_law 1086 = .ok (.iaload, 1) := by decide +kernel
theorem dL_law_1087 : decode cL_law 1087 = .ok (.aload_n 3, 1) := by decide +kernel
theorem tw_1270 : (Jvm.Cond.methodLink "MarshBellsLaw" (196 : Nat) ({ cls := "MarshBellsLaw", name := "see", desc := "(LMarshBells;II[J)I" } : Jvm.MethodName)) ∈ lw_tbl := tk_6 (List.mem_of_getElem? (i := 70) rfl)
theorem tw_1272 : (Jvm.Cond.codeWith ({ cls := "MarshBellsLaw", name := "see", desc := "(LMarshBells;II[J)I" } : Jvm.MethodName) method_21_code (5 : Nat) (Option.some Jvm.ClassFile.FieldType.int) [((0 : Nat), (10 : Nat), (13 : Nat), (18 : Nat))]) ∈ lw_tbl := tk_6 (List.mem_of_getElem? (i := 72) rfl)
theorem tw_1271 : (Jvm.Cond.static ({ cls := "MarshBellsLaw", name := "see", desc := "(LMarshBells;II[J)I" } : Jvm.MethodName)) ∈ lw_tbl := tk_6 (List.mem_of_getElem? (i := 71) rfl)
theorem li_L_196 : kLH RL 196 yL_see cL_see 5 (some .int) [(0, 10, 13, 18)] 4 := ⟨tw_1270, tw_1271, tw_1272, tw_0, by decide +kernel⟩
theorem dL_law_1088 : decode cL_law 1088 = .ok (.invokestatic 196, 3) := by decide +kernel
theorem dL_law_1091 : decode cL_law 1091 = .ok (.istore 5, 2) := by decide +kernel
theorem dL_law_1093 : decode cL_law 1093 = .ok (.aload_n 2, 1) := by decide +kernel
theorem dL_law_1094 : decode cL_law 1094 = .ok (.aload_n 0, 1) := by decide +kernel
theorem dL_law_1095 : decode cL_law 1095 = .ok (.iload 4, 2) := by decide +kernel
theorem dL_law_1097 : decode cL_law 1097 = .ok (.iconst 1, 1) := by decide +kernel
theorem dL_law_1098 : decode cL_law 1098 = .ok (.iadd, 1) := by decide +kernel
theorem dL_law_1099 : decode cL_law 1099 = .ok (.iaload, 1) := by decide +kernel
theorem dL_law_1100 : decode cL_law 1100 = .ok (.aload_n 0, 1) := by decide +kernel
theorem dL_law_1101 : decode cL_law 1101 = .ok (.iload 4, 2) := by decide +kernel
theorem dL_law_1103 : decode cL_law 1103 = .ok (.iconst 2, 1) := by decide +kernel
theorem dL_law_1104 : decode cL_law 1104 = .ok (.iadd, 1) := by decide +kernel
theorem dL_law_1105 : decode cL_law 1105 = .ok (.iaload, 1) := by decide +kernel
theorem tw_2030 : (Jvm.Cond.methodLink "MarshBellsLaw" (198 : Nat) ({ cls := "MarshBellsModel", name := "see", desc := "(II)I" } : Jvm.MethodName)) ∈ lw_tbl := tk_9 (List.mem_of_getElem? (i := 110) rfl)
theorem tw_2033 : (Jvm.Cond.code ({ cls := "MarshBellsModel", name := "see", desc := "(II)I" } : Jvm.MethodName) prog_14_method_90_code (3 : Nat) (Option.some Jvm.ClassFile.FieldType.int)) ∈ lw_tbl := tk_9 (List.mem_of_getElem? (i := 113) rfl)
theorem tw_2031 : (Jvm.Cond.instanceMethod ({ cls := "MarshBellsModel", name := "see", desc := "(II)I" } : Jvm.MethodName)) ∈ lw_tbl := tk_9 (List.mem_of_getElem? (i := 111) rfl)
theorem tw_2032 : (Jvm.Cond.selects "MarshBellsModel" ({ cls := "MarshBellsModel", name := "see", desc := "(II)I" } : Jvm.MethodName) ({ cls := "MarshBellsModel", name := "see", desc := "(II)I" } : Jvm.MethodName)) ∈ lw_tbl := tk_9 (List.mem_of_getElem? (i := 112) rfl)
theorem li_L_198 : kLV RL 198 RX12 yX12_see cX12_see 3 (some .int) 2 := ⟨tw_2030, tw_2031, tw_2032, tw_2033, tw_13, by decide +kernel⟩
theorem dL_law_1106 : decode cL_law 1106 = .ok (.invokevirtual 198, 3) := by decide +kernel
theorem dL_law_1109 : decode cL_law 1109 = .ok (.istore 6, 2) := by decide +kernel
theorem dL_law_1111 : decode cL_law 1111 = .ok (.goto 400, 3) := by decide +kernel
theorem dL_law_1114 : decode cL_law 1114 = .ok (.aload_n 1, 1) := by decide +kernel
theorem tw_680 : (Jvm.Cond.methodLink "MarshBellsLaw" (199 : Nat) ({ cls := "MarshBells", name := "forget", desc := "()V" } : Jvm.MethodName)) ∈ lw_tbl := tk_3 (List.mem_of_getElem? (i := 200) rfl)
theorem tw_683 : (Jvm.Cond.code ({ cls := "MarshBells", name := "forget", desc := "()V" } : Jvm.MethodName) prog_1_method_27_code (1 : Nat) (Option.none : Option Jvm.ClassFile.FieldType)) ∈ lw_tbl := tk_3 (List.mem_of_getElem? (i := 203) rfl)
theorem tw_681 : (Jvm.Cond.instanceMethod ({ cls := "MarshBells", name := "forget", desc := "()V" } : Jvm.MethodName)) ∈ lw_tbl := tk_3 (List.mem_of_getElem? (i := 201) rfl)
theorem tw_682 : (Jvm.Cond.selects "MarshBells" ({ cls := "MarshBells", name := "forget", desc := "()V" } : Jvm.MethodName) ({ cls := "MarshBells", name := "forget", desc := "()V" } : Jvm.MethodName)) ∈ lw_tbl := tk_3 (List.mem_of_getElem? (i := 202) rfl)
theorem li_L_199 : kLV RL 199 RX11 yX11_forget cX11_forget 1 none 0 := ⟨tw_680, tw_681, tw_682, tw_683, tw_1, by decide +kernel⟩
theorem dL_law_1115 : decode cL_law 1115 = .ok (.invokevirtual 199, 3) := by decide +kernel
theorem dL_law_1118 : decode cL_law 1118 = .ok (.aload_n 2, 1) := by decide +kernel
theorem tw_2034 : (Jvm.Cond.methodLink "MarshBellsLaw" (202 : Nat) ({ cls := "MarshBellsModel", name := "forget", desc := "()V" } : Jvm.MethodName)) ∈ lw_tbl := tk_9 (List.mem_of_getElem? (i := 114) rfl)
theorem tw_2037 : (Jvm.Cond.code ({ cls := "MarshBellsModel", name := "forget", desc := "()V" } : Jvm.MethodName) prog_14_method_91_code (1 : Nat) (Option.none : Option Jvm.ClassFile.FieldType)) ∈ lw_tbl := tk_9 (List.mem_of_getElem? (i := 117) rfl)
theorem tw_2035 : (Jvm.Cond.instanceMethod ({ cls := "MarshBellsModel", name := "forget", desc := "()V" } : Jvm.MethodName)) ∈ lw_tbl := tk_9 (List.mem_of_getElem? (i := 115) rfl)
theorem tw_2036 : (Jvm.Cond.selects "MarshBellsModel" ({ cls := "MarshBellsModel", name := "forget", desc := "()V" } : Jvm.MethodName) ({ cls := "MarshBellsModel", name := "forget", desc := "()V" } : Jvm.MethodName)) ∈ lw_tbl := tk_9 (List.mem_of_getElem? (i := 116) rfl)
theorem li_L_202 : kLV RL 202 RX12 yX12_forget cX12_forget 1 none 0 := ⟨tw_2034, tw_2035, tw_2036, tw_2037, tw_13, by decide +kernel⟩
theorem dL_law_1119 : decode cL_law 1119 = .ok (.invokevirtual 202, 3) := by decide +kernel
theorem dL_law_1122 : decode cL_law 1122 = .ok (.goto 389, 3) := by decide +kernel
theorem dL_law_1125 : decode cL_law 1125 = .ok (.aload_n 1, 1) := by decide +kernel
theorem dL_law_1126 : decode cL_law 1126 = .ok (.aload_n 0, 1) := by decide +kernel
theorem dL_law_1127 : decode cL_law 1127 = .ok (.iload 4, 2) := by decide +kernel
theorem dL_law_1129 : decode cL_law 1129 = .ok (.iconst 1, 1) := by decide +kernel
theorem dL_law_1130 : decode cL_law 1130 = .ok (.iadd, 1) := by decide +kernel
theorem dL_law_1131 : decode cL_law 1131 = .ok (.iaload, 1) := by decide +kernel
theorem dL_law_1132 : decode cL_law 1132 = .ok (.aload_n 3, 1) := by decide +kernel
theorem tw_1281 : (Jvm.Cond.methodLink "MarshBellsLaw" (203 : Nat) ({ cls := "MarshBellsLaw", name := "fits", desc := "(LMarshBells;I[J)I" } : Jvm.MethodName)) ∈ lw_tbl := tk_6 (List.mem_of_getElem? (i := 81) rfl)
theorem tw_1283 : (Jvm.Cond.codeWith ({ cls := "MarshBellsLaw", name := "fits", desc := "(LMarshBells;I[J)I" } : Jvm.MethodName) method_22_code (4 : Nat) (Option.some Jvm.ClassFile.FieldType.int) [((0 : Nat), (9 : Nat), (12 : Nat), (18 : Nat))]) ∈ lw_tbl := tk_6 (List.mem_of_getElem? (i := 83) rfl)
theorem tw_1282 : (Jvm.Cond.static ({ cls := "MarshBellsLaw", name := "fits", desc := "(LMarshBells;I[J)I" } : Jvm.MethodName)) ∈ lw_tbl := tk_6 (List.mem_of_getElem? (i := 82) rfl)
theorem li_L_203 : kLH RL 203 yL_fits cL_fits 4 (some .int) [(0, 9, 12, 18)] 3 := ⟨tw_1281, tw_1282, tw_1283, tw_0, by decide +kernel⟩
theorem dL_law_1133 : decode cL_law 1133 = .ok (.invokestatic 203, 3) := by decide +kernel
theorem dL_law_1136 : decode cL_law 1136 = .ok (.istore 5, 2) := by decide +kernel
theorem dL_law_1138 : decode cL_law 1138 = .ok (.aload_n 2, 1) := by decide +kernel
theorem dL_law_1139 : decode cL_law 1139 = .ok (.aload_n 0, 1) := by decide +kernel
theorem dL_law_1140 : decode cL_law 1140 = .ok (.iload 4, 2) := by decide +kernel
theorem dL_law_1142 : decode cL_law 1142 = .ok (.iconst 1, 1) := by decide +kernel
theorem dL_law_1143 : decode cL_law 1143 = .ok (.iadd, 1) := by decide +kernel
theorem dL_law_1144 : decode cL_law 1144 = .ok (.iaload, 1) := by decide +kernel
theorem tw_2038 : (Jvm.Cond.methodLink "MarshBellsLaw" (205 : Nat) ({ cls := "MarshBellsModel", name := "fits", desc := "(I)I" } : Jvm.MethodName)) ∈ lw_tbl := tk_9 (List.mem_of_getElem? (i := 118) rfl)
theorem tw_2041 : (Jvm.Cond.code ({ cls := "MarshBellsModel", name := "fits", desc := "(I)I" } : Jvm.MethodName) prog_14_method_93_code (9 : Nat) (Option.some Jvm.ClassFile.FieldType.int)) ∈ lw_tbl := tk_9 (List.mem_of_getElem? (i := 121) rfl)
theorem tw_2039 : (Jvm.Cond.instanceMethod ({ cls := "MarshBellsModel", name := "fits", desc := "(I)I" } : Jvm.MethodName)) ∈ lw_tbl := tk_9 (List.mem_of_getElem? (i := 119) rfl)
theorem tw_2040 : (Jvm.Cond.selects "MarshBellsModel" ({ cls := "MarshBellsModel", name := "fits", desc := "(I)I" } : Jvm.MethodName) ({ cls := "MarshBellsModel", name := "fits", desc := "(I)I" } : Jvm.MethodName)) ∈ lw_tbl := tk_9 (List.mem_of_getElem? (i := 120) rfl)
theorem li_L_205 : kLV RL 205 RX12 yX12_fits cX12_fits 9 (some .int) 1 := ⟨tw_2038, tw_2039, tw_2040, tw_2041, tw_13, by decide +kernel⟩
theorem dL_law_1145 : decode cL_law 1145 = .ok (.invokevirtual 205, 3) := by decide +kernel
theorem dL_law_1148 : decode cL_law 1148 = .ok (.istore 6, 2) := by decide +kernel
theorem dL_law_1150 : decode cL_law 1150 = .ok (.goto 361, 3) := by decide +kernel
theorem dL_law_1153 : decode cL_law 1153 = .ok (.aload_n 1, 1) := by decide +kernel
theorem tw_684 : (Jvm.Cond.methodLink "MarshBellsLaw" (206 : Nat) ({ cls := "MarshBells", name := "streams", desc := "()I" } : Jvm.MethodName)) ∈ lw_tbl := tk_3 (List.mem_of_getElem? (i := 204) rfl)
theorem tw_687 : (Jvm.Cond.code ({ cls := "MarshBells", name := "streams", desc := "()I" } : Jvm.MethodName) prog_1_method_29_code (1 : Nat) (Option.some Jvm.ClassFile.FieldType.int)) ∈ lw_tbl := tk_3 (List.mem_of_getElem? (i := 207) rfl)
theorem tw_685 : (Jvm.Cond.instanceMethod ({ cls := "MarshBells", name := "streams", desc := "()I" } : Jvm.MethodName)) ∈ lw_tbl := tk_3 (List.mem_of_getElem? (i := 205) rfl)
theorem tw_686 : (Jvm.Cond.selects "MarshBells" ({ cls := "MarshBells", name := "streams", desc := "()I" } : Jvm.MethodName) ({ cls := "MarshBells", name := "streams", desc := "()I" } : Jvm.MethodName)) ∈ lw_tbl := tk_3 (List.mem_of_getElem? (i := 206) rfl)
theorem li_L_206 : kLV RL 206 RX11 yX11_streams cX11_streams 1 (some .int) 0 := ⟨tw_684, tw_685, tw_686, tw_687, tw_1, by decide +kernel⟩
theorem dL_law_1154 : decode cL_law 1154 = .ok (.invokevirtual 206, 3) := by decide +kernel
theorem dL_law_1157 : decode cL_law 1157 = .ok (.pop, 1) := by decide +kernel
theorem dL_law_1158 : decode cL_law 1158 = .ok (.aload_n 2, 1) := by decide +kernel
theorem tw_2046 : (Jvm.Cond.methodLink "MarshBellsLaw" (209 : Nat) ({ cls := "MarshBellsModel", name := "streams", desc := "()I" } : Jvm.MethodName)) ∈ lw_tbl := tk_9 (List.mem_of_getElem? (i := 126) rfl)
theorem tw_2049 : (Jvm.Cond.code ({ cls := "MarshBellsModel", name := "streams", desc := "()I" } : Jvm.MethodName) prog_14_method_95_code (4 : Nat) (Option.some Jvm.ClassFile.FieldType.int)) ∈ lw_tbl := tk_9 (List.mem_of_getElem? (i := 129) rfl)
theorem tw_2047 : (Jvm.Cond.instanceMethod ({ cls := "MarshBellsModel", name := "streams", desc := "()I" } : Jvm.MethodName)) ∈ lw_tbl := tk_9 (List.mem_of_getElem? (i := 127) rfl)
theorem tw_2048 : (Jvm.Cond.selects "MarshBellsModel" ({ cls := "MarshBellsModel", name := "streams", desc := "()I" } : Jvm.MethodName) ({ cls := "MarshBellsModel", name := "streams", desc := "()I" } : Jvm.MethodName)) ∈ lw_tbl := tk_9 (List.mem_of_getElem? (i := 128) rfl)
theorem li_L_209 : kLV RL 209 RX12 yX12_streams cX12_streams 4 (some .int) 0 := ⟨tw_2046, tw_2047, tw_2048, tw_2049, tw_13, by decide +kernel⟩
theorem dL_law_1159 : decode cL_law 1159 = .ok (.invokevirtual 209, 3) := by decide +kernel
theorem dL_law_1162 : decode cL_law 1162 = .ok (.pop, 1) := by decide +kernel
theorem dL_law_1163 : decode cL_law 1163 = .ok (.goto 348, 3) := by decide +kernel
theorem dL_law_1166 : decode cL_law 1166 = .ok (.aload_n 1, 1) := by decide +kernel
theorem dL_law_1167 : decode cL_law 1167 = .ok (.aload_n 0, 1) := by decide +kernel
theorem dL_law_1168 : decode cL_law 1168 = .ok (.iload 4, 2) := by decide +kernel
theorem dL_law_1170 : decode cL_law 1170 = .ok (.iconst 1, 1) := by decide +kernel
theorem dL_law_1171 : decode cL_law 1171 = .ok (.iadd, 1) := by decide +kernel
theorem dL_law_1172 : decode cL_law 1172 = .ok (.iaload, 1) := by decide +kernel
theorem dL_law_1173 : decode cL_law 1173 = .ok (.aload_n 0, 1) := by decide +kernel
theorem dL_law_1174 : decode cL_law 1174 = .ok (.iload 4, 2) := by decide +kernel
theorem dL_law_1176 : decode cL_law 1176 = .ok (.iconst 2, 1) := by decide +kernel
theorem dL_law_1177 : decode cL_law 1177 = .ok (.iadd, 1) := by decide +kernel
theorem dL_law_1178 : decode cL_law 1178 = .ok (.iaload, 1) := by decide +kernel
theorem dL_law_1179 : decode cL_law 1179 = .ok (.aload_n 0, 1) := by decide +kernel
theorem dL_law_1180 : decode cL_law 1180 = .ok (.iload 4, 2) := by decide +kernel
theorem dL_law_1182 : decode cL_law 1182 = .ok (.iconst 3, 1) := by decide +kernel
theorem dL_law_1183 : decode cL_law 1183 = .ok (.iadd, 1) := by decide +kernel
theorem dL_law_1184 : decode cL_law 1184 = .ok (.iaload, 1) := by decide +kernel
theorem dL_law_1185 : decode cL_law 1185 = .ok (.aload_n 0, 1) := by decide +kernel
theorem dL_law_1186 : decode cL_law 1186 = .ok (.iload 4, 2) := by decide +kernel
theorem dL_law_1188 : decode cL_law 1188 = .ok (.iconst 4, 1) := by decide +kernel
theorem dL_law_1189 : decode cL_law 1189 = .ok (.iadd, 1) := by decide +kernel
theorem dL_law_1190 : decode cL_law 1190 = .ok (.iaload, 1) := by decide +kernel
theorem dL_law_1191 : decode cL_law 1191 = .ok (.aload_n 3, 1) := by decide +kernel
theorem tw_1301 : (Jvm.Cond.methodLink "MarshBellsLaw" (210 : Nat) ({ cls := "MarshBellsLaw", name := "term", desc := "(LMarshBells;IIII[J)I" } : Jvm.MethodName)) ∈ lw_tbl := tk_6 (List.mem_of_getElem? (i := 101) rfl)
theorem tw_1303 : (Jvm.Cond.codeWith ({ cls := "MarshBellsLaw", name := "term", desc := "(LMarshBells;IIII[J)I" } : Jvm.MethodName) method_23_code (7 : Nat) (Option.some Jvm.ClassFile.FieldType.int) [((0 : Nat), (14 : Nat), (17 : Nat), (18 : Nat)), ((0 : Nat), (14 : Nat), (21 : Nat), (13 : Nat))]) ∈ lw_tbl := tk_6 (List.mem_of_getElem? (i := 103) rfl)
theorem tw_1302 : (Jvm.Cond.static ({ cls := "MarshBellsLaw", name := "term", desc := "(LMarshBells;IIII[J)I" } : Jvm.MethodName)) ∈ lw_tbl := tk_6 (List.mem_of_getElem? (i := 102) rfl)
theorem li_L_210 : kLH RL 210 yL_term cL_term 7 (some .int) [(0, 14, 17, 18), (0, 14, 21, 13)] 6 := ⟨tw_1301, tw_1302, tw_1303, tw_0, by decide +kernel⟩
theorem dL_law_1192 : decode cL_law 1192 = .ok (.invokestatic 210, 3) := by decide +kernel
theorem dL_law_1195 : decode cL_law 1195 = .ok (.istore 5, 2) := by decide +kernel
theorem dL_law_1197 : decode cL_law 1197 = .ok (.aload_n 2, 1) := by decide +kernel
theorem dL_law_1198 : decode cL_law 1198 = .ok (.aload_n 0, 1) := by decide +kernel
theorem dL_law_1199 : decode cL_law 1199 = .ok (.iload 4, 2) := by decide +kernel
theorem dL_law_1201 : decode cL_law 1201 = .ok (.iconst 1, 1) := by decide +kernel
theorem dL_law_1202 : decode cL_law 1202 = .ok (.iadd, 1) := by decide +kernel
theorem dL_law_1203 : decode cL_law 1203 = .ok (.iaload, 1) := by decide +kernel
theorem dL_law_1204 : decode cL_law 1204 = .ok (.aload_n 0, 1) := by decide +kernel
theorem dL_law_1205 : decode cL_law 1205 = .ok (.iload 4, 2) := by decide +kernel
theorem dL_law_1207 : decode cL_law 1207 = .ok (.iconst 2, 1) := by decide +kernel
theorem dL_law_1208 : decode cL_law 1208 = .ok (.iadd, 1) := by decide +kernel
theorem dL_law_1209 : decode cL_law 1209 = .ok (.iaload, 1) := by decide +kernel
theorem dL_law_1210 : decode cL_law 1210 = .ok (.aload_n 0, 1) := by decide +kernel
theorem dL_law_1211 : decode cL_law 1211 = .ok (.iload 4, 2) := by decide +kernel
theorem dL_law_1213 : decode cL_law 1213 = .ok (.iconst 3, 1) := by decide +kernel
theorem dL_law_1214 : decode cL_law 1214 = .ok (.iadd, 1) := by decide +kernel
theorem dL_law_1215 : decode cL_law 1215 = .ok (.iaload, 1) := by decide +kernel
theorem dL_law_1216 : decode cL_law 1216 = .ok (.aload_n 0, 1) := by decide +kernel
theorem dL_law_1217 : decode cL_law 1217 = .ok (.iload 4, 2) := by decide +kernel
theorem dL_law_1219 : decode cL_law 1219 = .ok (.iconst 4, 1) := by decide +kernel
theorem dL_law_1220 : decode cL_law 1220 = .ok (.iadd, 1) := by decide +kernel
theorem dL_law_1221 : decode cL_law 1221 = .ok (.iaload, 1) := by decide +kernel
theorem tw_2074 : (Jvm.Cond.methodLink "MarshBellsLaw" (213 : Nat) ({ cls := "MarshBellsModel", name := "term", desc := "(IIII)I" } : Jvm.MethodName)) ∈ lw_tbl := tk_9 (List.mem_of_getElem? (i := 154) rfl)
theorem tw_2077 : (Jvm.Cond.code ({ cls := "MarshBellsModel", name := "term", desc := "(IIII)I" } : Jvm.MethodName) prog_14_method_102_code (10 : Nat) (Option.some Jvm.ClassFile.FieldType.int)) ∈ lw_tbl := tk_9 (List.mem_of_getElem? (i := 157) rfl)
theorem tw_2075 : (Jvm.Cond.instanceMethod ({ cls := "MarshBellsModel", name := "term", desc := "(IIII)I" } : Jvm.MethodName)) ∈ lw_tbl := tk_9 (List.mem_of_getElem? (i := 155) rfl)
theorem tw_2076 : (Jvm.Cond.selects "MarshBellsModel" ({ cls := "MarshBellsModel", name := "term", desc := "(IIII)I" } : Jvm.MethodName) ({ cls := "MarshBellsModel", name := "term", desc := "(IIII)I" } : Jvm.MethodName)) ∈ lw_tbl := tk_9 (List.mem_of_getElem? (i := 156) rfl)
theorem li_L_213 : kLV RL 213 RX12 yX12_term cX12_term 10 (some .int) 4 := ⟨tw_2074, tw_2075, tw_2076, tw_2077, tw_13, by decide +kernel⟩
theorem dL_law_1222 : decode cL_law 1222 = .ok (.invokevirtual 213, 3) := by decide +kernel
theorem dL_law_1225 : decode cL_law 1225 = .ok (.istore 6, 2) := by decide +kernel
theorem dL_law_1227 : decode cL_law 1227 = .ok (.goto 284, 3) := by decide +kernel
theorem dL_law_1230 : decode cL_law 1230 = .ok (.aload_n 1, 1) := by decide +kernel
theorem dL_law_1231 : decode cL_law 1231 = .ok (.aload_n 0, 1) := by decide +kernel
theorem dL_law_1232 : decode cL_law 1232 = .ok (.iload 4, 2) := by decide +kernel
theorem dL_law_1234 : decode cL_law 1234 = .ok (.iconst 1, 1) := by decide +kernel
theorem dL_law_1235 : decode cL_law 1235 = .ok (.iadd, 1) := by decide +kernel
theorem dL_law_1236 : decode cL_law 1236 = .ok (.iaload, 1) := by decide +kernel
theorem dL_law_1237 : decode cL_law 1237 = .ok (.aload_n 0, 1) := by decide +kernel
theorem dL_law_1238 : decode cL_law 1238 = .ok (.iload 4, 2) := by decide +kernel
theorem dL_law_1240 : decode cL_law 1240 = .ok (.iconst 2, 1) := by decide +kernel
theorem dL_law_1241 : decode cL_law 1241 = .ok (.iadd, 1) := by decide +kernel
theorem dL_law_1242 : decode cL_law 1242 = .ok (.iaload, 1) := by decide +kernel
theorem dL_law_1243 : decode cL_law 1243 = .ok (.aload_n 3, 1) := by decide +kernel
theorem tw_1323 : (Jvm.Cond.methodLink "MarshBellsLaw" (214 : Nat) ({ cls := "MarshBellsLaw", name := "on", desc := "(LMarshBells;II[J)I" } : Jvm.MethodName)) ∈ lw_tbl := tk_6 (List.mem_of_getElem? (i := 123) rfl)
theorem tw_1325 : (Jvm.Cond.codeWith ({ cls := "MarshBellsLaw", name := "on", desc := "(LMarshBells;II[J)I" } : Jvm.MethodName) method_24_code (5 : Nat) (Option.some Jvm.ClassFile.FieldType.int) [((0 : Nat), (10 : Nat), (13 : Nat), (18 : Nat)), ((0 : Nat), (10 : Nat), (17 : Nat), (13 : Nat))]) ∈ lw_tbl := tk_6 (List.mem_of_getElem? (i := 125) rfl)
theorem tw_1324 : (Jvm.Cond.static ({ cls := "MarshBellsLaw", name := "on", desc := "(LMarshBells;II[J)I" } : Jvm.MethodName)) ∈ lw_tbl := tk_6 (List.mem_of_getElem? (i := 124) rfl)
theorem li_L_214 : kLH RL 214 yL_on cL_on 5 (some .int) [(0, 10, 13, 18), (0, 10, 17, 13)] 4 := ⟨tw_1323, tw_1324, tw_1325, tw_0, by decide +kernel⟩
theorem dL_law_1244 : decode cL_law 1244 = .ok (.invokestatic 214, 3) := by decide +kernel
theorem dL_law_1247 : decode cL_law 1247 = .ok (.istore 5, 2) := by decide +kernel
theorem dL_law_1249 : decode cL_law 1249 = .ok (.aload_n 2, 1) := by decide +kernel
theorem dL_law_1250 : decode cL_law 1250 = .ok (.aload_n 0, 1) := by decide +kernel
theorem dL_law_1251 : decode cL_law 1251 = .ok (.iload 4, 2) := by decide +kernel
theorem dL_law_1253 : decode cL_law 1253 = .ok (.iconst 1, 1) := by decide +kernel
theorem dL_law_1254 : decode cL_law 1254 = .ok (.iadd, 1) := by decide +kernel
theorem dL_law_1255 : decode cL_law 1255 = .ok (.iaload, 1) := by decide +kernel
theorem dL_law_1256 : decode cL_law 1256 = .ok (.aload_n 0, 1) := by decide +kernel
theorem dL_law_1257 : decode cL_law 1257 = .ok (.iload 4, 2) := by decide +kernel
theorem dL_law_1259 : decode cL_law 1259 = .ok (.iconst 2, 1) := by decide +kernel
theorem dL_law_1260 : decode cL_law 1260 = .ok (.iadd, 1) := by decide +kernel
theorem dL_law_1261 : decode cL_law 1261 = .ok (.iaload, 1) := by decide +kernel
theorem tw_2054 : (Jvm.Cond.methodLink "MarshBellsLaw" (216 : Nat) ({ cls := "MarshBellsModel", name := "on", desc := "(II)I" } : Jvm.MethodName)) ∈ lw_tbl := tk_9 (List.mem_of_getElem? (i := 134) rfl)
theorem tw_2057 : (Jvm.Cond.code ({ cls := "MarshBellsModel", name := "on", desc := "(II)I" } : Jvm.MethodName) prog_14_method_97_code (5 : Nat) (Option.some Jvm.ClassFile.FieldType.int)) ∈ lw_tbl := tk_9 (List.mem_of_getElem? (i := 137) rfl)
theorem tw_2055 : (Jvm.Cond.instanceMethod ({ cls := "MarshBellsModel", name := "on", desc := "(II)I" } : Jvm.MethodName)) ∈ lw_tbl := tk_9 (List.mem_of_getElem? (i := 135) rfl)
theorem tw_2056 : (Jvm.Cond.selects "MarshBellsModel" ({ cls := "MarshBellsModel", name := "on", desc := "(II)I" } : Jvm.MethodName) ({ cls := "MarshBellsModel", name := "on", desc := "(II)I" } : Jvm.MethodName)) ∈ lw_tbl := tk_9 (List.mem_of_getElem? (i := 136) rfl)
theorem li_L_216 : kLV RL 216 RX12 yX12_on cX12_on 5 (some .int) 2 := ⟨tw_2054, tw_2055, tw_2056, tw_2057, tw_13, by decide +kernel⟩
theorem dL_law_1262 : decode cL_law 1262 = .ok (.invokevirtual 216, 3) := by decide +kernel
theorem dL_law_1265 : decode cL_law 1265 = .ok (.istore 6, 2) := by decide +kernel
theorem dL_law_1267 : decode cL_law 1267 = .ok (.goto 244, 3) := by decide +kernel
theorem dL_law_1270 : decode cL_law 1270 = .ok (.aload_n 1, 1) := by decide +kernel
theorem dL_law_1271 : decode cL_law 1271 = .ok (.aload_n 0, 1) := by decide +kernel
theorem dL_law_1272 : decode cL_law 1272 = .ok (.iload 4, 2) := by decide +kernel
theorem dL_law_1274 : decode cL_law 1274 = .ok (.iconst 1, 1) := by decide +kernel
theorem dL_law_1275 : decode cL_law 1275 = .ok (.iadd, 1) := by decide +kernel
theorem dL_law_1276 : decode cL_law 1276 = .ok (.iaload, 1) := by decide +kernel
theorem dL_law_1277 : decode cL_law 1277 = .ok (.aload_n 3, 1) := by decide +kernel
theorem tw_1338 : (Jvm.Cond.methodLink "MarshBellsLaw" (217 : Nat) ({ cls := "MarshBellsLaw", name := "clash", desc := "(LMarshBells;I[J)I" } : Jvm.MethodName)) ∈ lw_tbl := tk_6 (List.mem_of_getElem? (i := 138) rfl)
theorem tw_1340 : (Jvm.Cond.codeWith ({ cls := "MarshBellsLaw", name := "clash", desc := "(LMarshBells;I[J)I" } : Jvm.MethodName) method_25_code (4 : Nat) (Option.some Jvm.ClassFile.FieldType.int) [((0 : Nat), (9 : Nat), (12 : Nat), (18 : Nat))]) ∈ lw_tbl := tk_6 (List.mem_of_getElem? (i := 140) rfl)
theorem tw_1339 : (Jvm.Cond.static ({ cls := "MarshBellsLaw", name := "clash", desc := "(LMarshBells;I[J)I" } : Jvm.MethodName)) ∈ lw_tbl := tk_6 (List.mem_of_getElem? (i := 139) rfl)
theorem li_L_217 : kLH RL 217 yL_clash cL_clash 4 (some .int) [(0, 9, 12, 18)] 3 := ⟨tw_1338, tw_1339, tw_1340, tw_0, by decide +kernel⟩
theorem dL_law_1278 : decode cL_law 1278 = .ok (.invokestatic 217, 3) := by decide +kernel
theorem dL_law_1281 : decode cL_law 1281 = .ok (.istore 5, 2) := by decide +kernel
theorem dL_law_1283 : decode cL_law 1283 = .ok (.aload_n 2, 1) := by decide +kernel
theorem dL_law_1284 : decode cL_law 1284 = .ok (.aload_n 0, 1) := by decide +kernel
theorem dL_law_1285 : decode cL_law 1285 = .ok (.iload 4, 2) := by decide +kernel
theorem dL_law_1287 : decode cL_law 1287 = .ok (.iconst 1, 1) := by decide +kernel
theorem dL_law_1288 : decode cL_law 1288 = .ok (.iadd, 1) := by decide +kernel
theorem dL_law_1289 : decode cL_law 1289 = .ok (.iaload, 1) := by decide +kernel
theorem tw_2066 : (Jvm.Cond.methodLink "MarshBellsLaw" (219 : Nat) ({ cls := "MarshBellsModel", name := "clash", desc := "(I)I" } : Jvm.MethodName)) ∈ lw_tbl := tk_9 (List.mem_of_getElem? (i := 146) rfl)
theorem tw_2069 : (Jvm.Cond.code ({ cls := "MarshBellsModel", name := "clash", desc := "(I)I" } : Jvm.MethodName) prog_14_method_99_code (7 : Nat) (Option.some Jvm.ClassFile.FieldType.int)) ∈ lw_tbl := tk_9 (List.mem_of_getElem? (i := 149) rfl)
theorem tw_2067 : (Jvm.Cond.instanceMethod ({ cls := "MarshBellsModel", name := "clash", desc := "(I)I" } : Jvm.MethodName)) ∈ lw_tbl := tk_9 (List.mem_of_getElem? (i := 147) rfl)
theorem tw_2068 : (Jvm.Cond.selects "MarshBellsModel" ({ cls := "MarshBellsModel", name := "clash", desc := "(I)I" } : Jvm.MethodName) ({ cls := "MarshBellsModel", name := "clash", desc := "(I)I" } : Jvm.MethodName)) ∈ lw_tbl := tk_9 (List.mem_of_getElem? (i := 148) rfl)
theorem li_L_219 : kLV RL 219 RX12 yX12_clash cX12_clash 7 (some .int) 1 := ⟨tw_2066, tw_2067, tw_2068, tw_2069, tw_13, by decide +kernel⟩
theorem dL_law_1290 : decode cL_law 1290 = .ok (.invokevirtual 219, 3) := by decide +kernel
theorem dL_law_1293 : decode cL_law 1293 = .ok (.istore 6, 2) := by decide +kernel
theorem dL_law_1295 : decode cL_law 1295 = .ok (.goto 216, 3) := by decide +kernel
theorem dL_law_1298 : decode cL_law 1298 = .ok (.aload_n 1, 1) := by decide +kernel
theorem dL_law_1299 : decode cL_law 1299 = .ok (.aload_n 0, 1) := by decide +kernel
theorem dL_law_1300 : decode cL_law 1300 = .ok (.iload 4, 2) := by decide +kernel
theorem dL_law_1302 : decode cL_law 1302 = .ok (.iconst 1, 1) := by decide +kernel
theorem dL_law_1303 : decode cL_law 1303 = .ok (.iadd, 1) := by decide +kernel
theorem dL_law_1304 : decode cL_law 1304 = .ok (.iaload, 1) := by decide +kernel
theorem dL_law_1305 : decode cL_law 1305 = .ok (.aload_n 3, 1) := by decide +kernel
theorem tw_1357 : (Jvm.Cond.methodLink "MarshBellsLaw" (220 : Nat) ({ cls := "MarshBellsLaw", name := "busiest", desc := "(LMarshBells;I[J)I" } : Jvm.MethodName)) ∈ lw_tbl := tk_6 (List.mem_of_getElem? (i := 157) rfl)
theorem tw_1359 : (Jvm.Cond.codeWith ({ cls := "MarshBellsLaw", name := "busiest", desc := "(LMarshBells;I[J)I" } : Jvm.MethodName) method_26_code (4 : Nat) (Option.some Jvm.ClassFile.FieldType.int) [((0 : Nat), (9 : Nat), (12 : Nat), (18 : Nat))]) ∈ lw_tbl := tk_6 (List.mem_of_getElem? (i := 159) rfl)
theorem tw_1358 : (Jvm.Cond.static ({ cls := "MarshBellsLaw", name := "busiest", desc := "(LMarshBells;I[J)I" } : Jvm.MethodName)) ∈ lw_tbl := tk_6 (List.mem_of_getElem? (i := 158) rfl)
theorem li_L_220 : kLH RL 220 yL_busiest cL_busiest 4 (some .int) [(0, 9, 12, 18)] 3 := ⟨tw_1357, tw_1358, tw_1359, tw_0, by decide +kernel⟩
theorem dL_law_1306 : decode cL_law 1306 = .ok (.invokestatic 220, 3) := by decide +kernel
theorem dL_law_1309 : decode cL_law 1309 = .ok (.istore 5, 2) := by decide +kernel
theorem dL_law_1311 : decode cL_law 1311 = .ok (.aload_n 2, 1) := by decide +kernel
theorem dL_law_1312 : decode cL_law 1312 = .ok (.aload_n 0, 1) := by decide +kernel
theorem dL_law_1313 : decode cL_law 1313 = .ok (.iload 4, 2) := by decide +kernel
theorem dL_law_1315 : decode cL_law 1315 = .ok (.iconst 1, 1) := by decide +kernel
theorem dL_law_1316 : decode cL_law 1316 = .ok (.iadd, 1) := by decide +kernel
theorem dL_law_1317 : decode cL_law 1317 = .ok (.iaload, 1) := by decide +kernel
theorem tw_2062 : (Jvm.Cond.methodLink "MarshBellsLaw" (222 : Nat) ({ cls := "MarshBellsModel", name := "busiest", desc := "(I)I" } : Jvm.MethodName)) ∈ lw_tbl := tk_9 (List.mem_of_getElem? (i := 142) rfl)
theorem tw_2065 : (Jvm.Cond.code ({ cls := "MarshBellsModel", name := "busiest", desc := "(I)I" } : Jvm.MethodName) prog_14_method_98_code (6 : Nat) (Option.some Jvm.ClassFile.FieldType.int)) ∈ lw_tbl := tk_9 (List.mem_of_getElem? (i := 145) rfl)
theorem tw_2063 : (Jvm.Cond.instanceMethod ({ cls := "MarshBellsModel", name := "busiest", desc := "(I)I" } : Jvm.MethodName)) ∈ lw_tbl := tk_9 (List.mem_of_getElem? (i := 143) rfl)
theorem tw_2064 : (Jvm.Cond.selects "MarshBellsModel" ({ cls := "MarshBellsModel", name := "busiest", desc := "(I)I" } : Jvm.MethodName) ({ cls := "MarshBellsModel", name := "busiest", desc := "(I)I" } : Jvm.MethodName)) ∈ lw_tbl := tk_9 (List.mem_of_getElem? (i := 144) rfl)
theorem li_L_222 : kLV RL 222 RX12 yX12_busiest cX12_busiest 6 (some .int) 1 := ⟨tw_2062, tw_2063, tw_2064, tw_2065, tw_13, by decide +kernel⟩
theorem dL_law_1318 : decode cL_law 1318 = .ok (.invokevirtual 222, 3) := by decide +kernel
theorem dL_law_1321 : decode cL_law 1321 = .ok (.istore 6, 2) := by decide +kernel
theorem dL_law_1323 : decode cL_law 1323 = .ok (.goto 188, 3) := by decide +kernel
theorem dL_law_1326 : decode cL_law 1326 = .ok (.aload_n 1, 1) := by decide +kernel
theorem tw_708 : (Jvm.Cond.methodLink "MarshBellsLaw" (223 : Nat) ({ cls := "MarshBells", name := "idle", desc := "()I" } : Jvm.MethodName)) ∈ lw_tbl := tk_3 (List.mem_of_getElem? (i := 228) rfl)
theorem tw_711 : (Jvm.Cond.code ({ cls := "MarshBells", name := "idle", desc := "()I" } : Jvm.MethodName) prog_1_method_34_code (1 : Nat) (Option.some Jvm.ClassFile.FieldType.int)) ∈ lw_tbl := tk_3 (List.mem_of_getElem? (i := 231) rfl)
theorem tw_709 : (Jvm.Cond.instanceMethod ({ cls := "MarshBells", name := "idle", desc := "()I" } : Jvm.MethodName)) ∈ lw_tbl := tk_3 (List.mem_of_getElem? (i := 229) rfl)
theorem tw_710 : (Jvm.Cond.selects "MarshBells" ({ cls := "MarshBells", name := "idle", desc := "()I" } : Jvm.MethodName) ({ cls := "MarshBells", name := "idle", desc := "()I" } : Jvm.MethodName)) ∈ lw_tbl := tk_3 (List.mem_of_getElem? (i := 230) rfl)
theorem li_L_223 : kLV RL 223 RX11 yX11_idle cX11_idle 1 (some .int) 0 := ⟨tw_708, tw_709, tw_710, tw_711, tw_1, by decide +kernel⟩
theorem dL_law_1327 : decode cL_law 1327 = .ok (.invokevirtual 223, 3) := by decide +kernel
theorem dL_law_1330 : decode cL_law 1330 = .ok (.pop, 1) := by decide +kernel
theorem dL_law_1331 : decode cL_law 1331 = .ok (.aload_n 2, 1) := by decide +kernel
theorem tw_2070 : (Jvm.Cond.methodLink "MarshBellsLaw" (226 : Nat) ({ cls := "MarshBellsModel", name := "idle", desc := "()I" } : Jvm.MethodName)) ∈ lw_tbl := tk_9 (List.mem_of_getElem? (i := 150) rfl)
theorem tw_2073 : (Jvm.Cond.code ({ cls := "MarshBellsModel", name := "idle", desc := "()I" } : Jvm.MethodName) prog_14_method_100_code (6 : Nat) (Option.some Jvm.ClassFile.FieldType.int)) ∈ lw_tbl := tk_9 (List.mem_of_getElem? (i := 153) rfl)
theorem tw_2071 : (Jvm.Cond.instanceMethod ({ cls := "MarshBellsModel", name := "idle", desc := "()I" } : Jvm.MethodName)) ∈ lw_tbl := tk_9 (List.mem_of_getElem? (i := 151) rfl)
theorem tw_2072 : (Jvm.Cond.selects "MarshBellsModel" ({ cls := "MarshBellsModel", name := "idle", desc := "()I" } : Jvm.MethodName) ({ cls := "MarshBellsModel", name := "idle", desc := "()I" } : Jvm.MethodName)) ∈ lw_tbl := tk_9 (List.mem_of_getElem? (i := 152) rfl)
theorem li_L_226 : kLV RL 226 RX12 yX12_idle cX12_idle 6 (some .int) 0 := ⟨tw_2070, tw_2071, tw_2072, tw_2073, tw_13, by decide +kernel⟩
theorem dL_law_1332 : decode cL_law 1332 = .ok (.invokevirtual 226, 3) := by decide +kernel
theorem dL_law_1335 : decode cL_law 1335 = .ok (.pop, 1) := by decide +kernel
theorem dL_law_1336 : decode cL_law 1336 = .ok (.goto 175, 3) := by decide +kernel
theorem dL_law_1339 : decode cL_law 1339 = .ok (.aload_n 1, 1) := by decide +kernel
theorem dL_law_1340 : decode cL_law 1340 = .ok (.aload_n 0, 1) := by decide +kernel
theorem dL_law_1341 : decode cL_law 1341 = .ok (.iload 4, 2) := by decide +kernel
theorem dL_law_1343 : decode cL_law 1343 = .ok (.iconst 1, 1) := by decide +kernel
theorem dL_law_1344 : decode cL_law 1344 = .ok (.iadd, 1) := by decide +kernel
theorem dL_law_1345 : decode cL_law 1345 = .ok (.iaload, 1) := by decide +kernel
theorem dL_law_1346 : decode cL_law 1346 = .ok (.aload_n 0, 1) := by decide +kernel
theorem dL_law_1347 : decode cL_law 1347 = .ok (.iload 4, 2) := by decide +kernel
theorem dL_law_1349 : decode cL_law 1349 = .ok (.iconst 2, 1) := by decide +kernel
theorem dL_law_1350 : decode cL_law 1350 = .ok (.iadd, 1) := by decide +kernel
theorem dL_law_1351 : decode cL_law 1351 = .ok (.iaload, 1) := by decide +kernel
theorem dL_law_1352 : decode cL_law 1352 = .ok (.aload_n 3, 1) := by decide +kernel
theorem tw_1369 : (Jvm.Cond.methodLink "MarshBellsLaw" (227 : Nat) ({ cls := "MarshBellsLaw", name := "shift", desc := "(LMarshBells;II[J)I" } : Jvm.MethodName)) ∈ lw_tbl := tk_6 (List.mem_of_getElem? (i := 169) rfl)
theorem tw_1371 : (Jvm.Cond.codeWith ({ cls := "MarshBellsLaw", name := "shift", desc := "(LMarshBells;II[J)I" } : Jvm.MethodName) method_27_code (5 : Nat) (Option.some Jvm.ClassFile.FieldType.int) [((0 : Nat), (10 : Nat), (13 : Nat), (18 : Nat))]) ∈ lw_tbl := tk_6 (List.mem_of_getElem? (i := 171) rfl)
theorem tw_1370 : (Jvm.Cond.static ({ cls := "MarshBellsLaw", name := "shift", desc := "(LMarshBells;II[J)I" } : Jvm.MethodName)) ∈ lw_tbl := tk_6 (List.mem_of_getElem? (i := 170) rfl)
theorem li_L_227 : kLH RL 227 yL_shift cL_shift 5 (some .int) [(0, 10, 13, 18)] 4 := ⟨tw_1369, tw_1370, tw_1371, tw_0, by decide +kernel⟩
theorem dL_law_1353 : decode cL_law 1353 = .ok (.invokestatic 227, 3) := by decide +kernel
theorem dL_law_1356 : decode cL_law 1356 = .ok (.istore 5, 2) := by decide +kernel
theorem dL_law_1358 : decode cL_law 1358 = .ok (.aload_n 2, 1) := by decide +kernel
theorem dL_law_1359 : decode cL_law 1359 = .ok (.aload_n 0, 1) := by decide +kernel
theorem dL_law_1360 : decode cL_law 1360 = .ok (.iload 4, 2) := by decide +kernel
theorem dL_law_1362 : decode cL_law 1362 = .ok (.iconst 1, 1) := by decide +kernel
theorem dL_law_1363 : decode cL_law 1363 = .ok (.iadd, 1) := by decide +kernel
theorem dL_law_1364 : decode cL_law 1364 = .ok (.iaload, 1) := by decide +kernel
theorem dL_law_1365 : decode cL_law 1365 = .ok (.aload_n 0, 1) := by decide +kernel
theorem dL_law_1366 : decode cL_law 1366 = .ok (.iload 4, 2) := by decide +kernel
theorem dL_law_1368 : decode cL_law 1368 = .ok (.iconst 2, 1) := by decide +kernel
theorem dL_law_1369 : decode cL_law 1369 = .ok (.iadd, 1) := by decide +kernel
theorem dL_law_1370 : decode cL_law 1370 = .ok (.iaload, 1) := by decide +kernel
theorem tw_2026 : (Jvm.Cond.methodLink "MarshBellsLaw" (229 : Nat) ({ cls := "MarshBellsModel", name := "shift", desc := "(II)I" } : Jvm.MethodName)) ∈ lw_tbl := tk_9 (List.mem_of_getElem? (i := 106) rfl)
theorem tw_2029 : (Jvm.Cond.code ({ cls := "MarshBellsModel", name := "shift", desc := "(II)I" } : Jvm.MethodName) prog_14_method_89_code (10 : Nat) (Option.some Jvm.ClassFile.FieldType.int)) ∈ lw_tbl := tk_9 (List.mem_of_getElem? (i := 109) rfl)
theorem tw_2027 : (Jvm.Cond.instanceMethod ({ cls := "MarshBellsModel", name := "shift", desc := "(II)I" } : Jvm.MethodName)) ∈ lw_tbl := tk_9 (List.mem_of_getElem? (i := 107) rfl)
theorem tw_2028 : (Jvm.Cond.selects "MarshBellsModel" ({ cls := "MarshBellsModel", name := "shift", desc := "(II)I" } : Jvm.MethodName) ({ cls := "MarshBellsModel", name := "shift", desc := "(II)I" } : Jvm.MethodName)) ∈ lw_tbl := tk_9 (List.mem_of_getElem? (i := 108) rfl)
theorem li_L_229 : kLV RL 229 RX12 yX12_shift cX12_shift 10 (some .int) 2 := ⟨tw_2026, tw_2027, tw_2028, tw_2029, tw_13, by decide +kernel⟩
theorem dL_law_1371 : decode cL_law 1371 = .ok (.invokevirtual 229, 3) := by decide +kernel
theorem dL_law_1374 : decode cL_law 1374 = .ok (.istore 6, 2) := by decide +kernel
theorem dL_law_1376 : decode cL_law 1376 = .ok (.goto 135, 3) := by decide +kernel
theorem dL_law_1379 : decode cL_law 1379 = .ok (.aload_n 1, 1) := by decide +kernel
theorem dL_law_1380 : decode cL_law 1380 = .ok (.aload_n 0, 1) := by decide +kernel
theorem dL_law_1381 : decode cL_law 1381 = .ok (.iload 4, 2) := by decide +kernel
theorem dL_law_1383 : decode cL_law 1383 = .ok (.iconst 1, 1) := by decide +kernel
theorem dL_law_1384 : decode cL_law 1384 = .ok (.iadd, 1) := by decide +kernel
theorem dL_law_1385 : decode cL_law 1385 = .ok (.iaload, 1) := by decide +kernel
theorem dL_law_1386 : decode cL_law 1386 = .ok (.aload_n 0, 1) := by decide +kernel
theorem dL_law_1387 : decode cL_law 1387 = .ok (.iload 4, 2) := by decide +kernel
theorem dL_law_1389 : decode cL_law 1389 = .ok (.iconst 2, 1) := by decide +kernel
theorem dL_law_1390 : decode cL_law 1390 = .ok (.iadd, 1) := by decide +kernel
theorem dL_law_1391 : decode cL_law 1391 = .ok (.iaload, 1) := by decide +kernel
theorem dL_law_1392 : decode cL_law 1392 = .ok (.aload_n 3, 1) := by decide +kernel
theorem tw_1380 : (Jvm.Cond.methodLink "MarshBellsLaw" (230 : Nat) ({ cls := "MarshBellsLaw", name := "harm", desc := "(LMarshBells;II[J)I" } : Jvm.MethodName)) ∈ lw_tbl := tk_6 (List.mem_of_getElem? (i := 180) rfl)
theorem tw_1382 : (Jvm.Cond.codeWith ({ cls := "MarshBellsLaw", name := "harm", desc := "(LMarshBells;II[J)I" } : Jvm.MethodName) method_28_code (5 : Nat) (Option.some Jvm.ClassFile.FieldType.int) [((0 : Nat), (10 : Nat), (13 : Nat), (18 : Nat))]) ∈ lw_tbl := tk_6 (List.mem_of_getElem? (i := 182) rfl)
theorem tw_1381 : (Jvm.Cond.static ({ cls := "MarshBellsLaw", name := "harm", desc := "(LMarshBells;II[J)I" } : Jvm.MethodName)) ∈ lw_tbl := tk_6 (List.mem_of_getElem? (i := 181) rfl)
theorem li_L_230 : kLH RL 230 yL_harm cL_harm 5 (some .int) [(0, 10, 13, 18)] 4 := ⟨tw_1380, tw_1381, tw_1382, tw_0, by decide +kernel⟩
theorem dL_law_1393 : decode cL_law 1393 = .ok (.invokestatic 230, 3) := by decide +kernel
theorem dL_law_1396 : decode cL_law 1396 = .ok (.istore 5, 2) := by decide +kernel
theorem dL_law_1398 : decode cL_law 1398 = .ok (.aload_n 2, 1) := by decide +kernel
theorem dL_law_1399 : decode cL_law 1399 = .ok (.aload_n 0, 1) := by decide +kernel
theorem dL_law_1400 : decode cL_law 1400 = .ok (.iload 4, 2) := by decide +kernel
theorem dL_law_1402 : decode cL_law 1402 = .ok (.iconst 1, 1) := by decide +kernel
theorem dL_law_1403 : decode cL_law 1403 = .ok (.iadd, 1) := by decide +kernel
theorem dL_law_1404 : decode cL_law 1404 = .ok (.iaload, 1) := by decide +kernel
theorem dL_law_1405 : decode cL_law 1405 = .ok (.aload_n 0, 1) := by decide +kernel
theorem dL_law_1406 : decode cL_law 1406 = .ok (.iload 4, 2) := by decide +kernel
theorem dL_law_1408 : decode cL_law 1408 = .ok (.iconst 2, 1) := by decide +kernel
theorem dL_law_1409 : decode cL_law 1409 = .ok (.iadd, 1) := by decide +kernel
theorem dL_law_1410 : decode cL_law 1410 = .ok (.iaload, 1) := by decide +kernel
theorem tw_2014 : (Jvm.Cond.methodLink "MarshBellsLaw" (232 : Nat) ({ cls := "MarshBellsModel", name := "harm", desc := "(II)I" } : Jvm.MethodName)) ∈ lw_tbl := tk_9 (List.mem_of_getElem? (i := 94) rfl)
theorem tw_2017 : (Jvm.Cond.code ({ cls := "MarshBellsModel", name := "harm", desc := "(II)I" } : Jvm.MethodName) prog_14_method_86_code (5 : Nat) (Option.some Jvm.ClassFile.FieldType.int)) ∈ lw_tbl := tk_9 (List.mem_of_getElem? (i := 97) rfl)
theorem tw_2015 : (Jvm.Cond.instanceMethod ({ cls := "MarshBellsModel", name := "harm", desc := "(II)I" } : Jvm.MethodName)) ∈ lw_tbl := tk_9 (List.mem_of_getElem? (i := 95) rfl)
theorem tw_2016 : (Jvm.Cond.selects "MarshBellsModel" ({ cls := "MarshBellsModel", name := "harm", desc := "(II)I" } : Jvm.MethodName) ({ cls := "MarshBellsModel", name := "harm", desc := "(II)I" } : Jvm.MethodName)) ∈ lw_tbl := tk_9 (List.mem_of_getElem? (i := 96) rfl)
theorem li_L_232 : kLV RL 232 RX12 yX12_harm cX12_harm 5 (some .int) 2 := ⟨tw_2014, tw_2015, tw_2016, tw_2017, tw_13, by decide +kernel⟩
theorem dL_law_1411 : decode cL_law 1411 = .ok (.invokevirtual 232, 3) := by decide +kernel
theorem dL_law_1414 : decode cL_law 1414 = .ok (.istore 6, 2) := by decide +kernel
theorem dL_law_1416 : decode cL_law 1416 = .ok (.goto 95, 3) := by decide +kernel
theorem dL_law_1419 : decode cL_law 1419 = .ok (.aload_n 1, 1) := by decide +kernel
theorem dL_law_1420 : decode cL_law 1420 = .ok (.aload_n 0, 1) := by decide +kernel
theorem dL_law_1421 : decode cL_law 1421 = .ok (.iload 4, 2) := by decide +kernel
theorem dL_law_1423 : decode cL_law 1423 = .ok (.iconst 1, 1) := by decide +kernel
theorem dL_law_1424 : decode cL_law 1424 = .ok (.iadd, 1) := by decide +kernel
theorem dL_law_1425 : decode cL_law 1425 = .ok (.iaload, 1) := by decide +kernel
theorem dL_law_1426 : decode cL_law 1426 = .ok (.aload_n 3, 1) := by decide +kernel
theorem tw_1391 : (Jvm.Cond.methodLink "MarshBellsLaw" (233 : Nat) ({ cls := "MarshBellsLaw", name := "pair", desc := "(LMarshBells;I[J)I" } : Jvm.MethodName)) ∈ lw_tbl := tk_6 (List.mem_of_getElem? (i := 191) rfl)
theorem tw_1393 : (Jvm.Cond.codeWith ({ cls := "MarshBellsLaw", name := "pair", desc := "(LMarshBells;I[J)I" } : Jvm.MethodName) method_29_code (4 : Nat) (Option.some Jvm.ClassFile.FieldType.int) [((0 : Nat), (9 : Nat), (12 : Nat), (18 : Nat))]) ∈ lw_tbl := tk_6 (List.mem_of_getElem? (i := 193) rfl)
theorem tw_1392 : (Jvm.Cond.static ({ cls := "MarshBellsLaw", name := "pair", desc := "(LMarshBells;I[J)I" } : Jvm.MethodName)) ∈ lw_tbl := tk_6 (List.mem_of_getElem? (i := 192) rfl)
theorem li_L_233 : kLH RL 233 yL_pair cL_pair 4 (some .int) [(0, 9, 12, 18)] 3 := ⟨tw_1391, tw_1392, tw_1393, tw_0, by decide +kernel⟩
theorem dL_law_1427 : decode cL_law 1427 = .ok (.invokestatic 233, 3) := by decide +kernel
theorem dL_law_1430 : decode cL_law 1430 = .ok (.istore 5, 2) := by decide +kernel
theorem dL_law_1432 : decode cL_law 1432 = .ok (.aload_n 2, 1) := by decide +kernel
theorem dL_law_1433 : decode cL_law 1433 = .ok (.aload_n 0, 1) := by decide +kernel
theorem dL_law_1434 : decode cL_law 1434 = .ok (.iload 4, 2) := by decide +kernel
theorem dL_law_1436 : decode cL_law 1436 = .ok (.iconst 1, 1) := by decide +kernel
theorem dL_law_1437 : decode cL_law 1437 = .ok (.iadd, 1) := by decide +kernel
theorem dL_law_1438 : decode cL_law 1438 = .ok (.iaload, 1) := by decide +kernel
theorem tw_2018 : (Jvm.Cond.methodLink "MarshBellsLaw" (235 : Nat) ({ cls := "MarshBellsModel", name := "pair", desc := "(I)I" } : Jvm.MethodName)) ∈ lw_tbl := tk_9 (List.mem_of_getElem? (i := 98) rfl)
theorem tw_2021 : (Jvm.Cond.code ({ cls := "MarshBellsModel", name := "pair", desc := "(I)I" } : Jvm.MethodName) prog_14_method_87_code (7 : Nat) (Option.some Jvm.ClassFile.FieldType.int)) ∈ lw_tbl := tk_9 (List.mem_of_getElem? (i := 101) rfl)
theorem tw_2019 : (Jvm.Cond.instanceMethod ({ cls := "MarshBellsModel", name := "pair", desc := "(I)I" } : Jvm.MethodName)) ∈ lw_tbl := tk_9 (List.mem_of_getElem? (i := 99) rfl)
theorem tw_2020 : (Jvm.Cond.selects "MarshBellsModel" ({ cls := "MarshBellsModel", name := "pair", desc := "(I)I" } : Jvm.MethodName) ({ cls := "MarshBellsModel", name := "pair", desc := "(I)I" } : Jvm.MethodName)) ∈ lw_tbl := tk_9 (List.mem_of_getElem? (i := 100) rfl)
theorem li_L_235 : kLV RL 235 RX12 yX12_pair cX12_pair 7 (some .int) 1 := ⟨tw_2018, tw_2019, tw_2020, tw_2021, tw_13, by decide +kernel⟩
theorem dL_law_1439 : decode cL_law 1439 = .ok (.invokevirtual 235, 3) := by decide +kernel
theorem dL_law_1442 : decode cL_law 1442 = .ok (.istore 6, 2) := by decide +kernel
theorem dL_law_1444 : decode cL_law 1444 = .ok (.goto 67, 3) := by decide +kernel
theorem dL_law_1447 : decode cL_law 1447 = .ok (.aload_n 1, 1) := by decide +kernel
theorem dL_law_1448 : decode cL_law 1448 = .ok (.aload_n 0, 1) := by decide +kernel
theorem dL_law_1449 : decode cL_law 1449 = .ok (.iload 4, 2) := by decide +kernel
theorem dL_law_1451 : decode cL_law 1451 = .ok (.iconst 1, 1) := by decide +kernel
theorem dL_law_1452 : decode cL_law 1452 = .ok (.iadd, 1) := by decide +kernel
theorem dL_law_1453 : decode cL_law 1453 = .ok (.iaload, 1) := by decide +kernel
theorem dL_law_1454 : decode cL_law 1454 = .ok (.aload_n 0, 1) := by decide +kernel
theorem dL_law_1455 : decode cL_law 1455 = .ok (.iload 4, 2) := by decide +kernel
theorem dL_law_1457 : decode cL_law 1457 = .ok (.iconst 2, 1) := by decide +kernel
theorem dL_law_1458 : decode cL_law 1458 = .ok (.iadd, 1) := by decide +kernel
theorem dL_law_1459 : decode cL_law 1459 = .ok (.iaload, 1) := by decide +kernel
theorem dL_law_1460 : decode cL_law 1460 = .ok (.aload_n 3, 1) := by decide +kernel
theorem tw_1402 : (Jvm.Cond.methodLink "MarshBellsLaw" (236 : Nat) ({ cls := "MarshBellsLaw", name := "pause", desc := "(LMarshBells;II[J)I" } : Jvm.MethodName)) ∈ lw_tbl := tk_6 (List.mem_of_getElem? (i := 202) rfl)
theorem tw_1404 : (Jvm.Cond.codeWith ({ cls := "MarshBellsLaw", name := "pause", desc := "(LMarshBells;II[J)I" } : Jvm.MethodName) method_30_code (5 : Nat) (Option.some Jvm.ClassFile.FieldType.int) [((0 : Nat), (10 : Nat), (13 : Nat), (18 : Nat)), ((0 : Nat), (10 : Nat), (17 : Nat), (13 : Nat))]) ∈ lw_tbl := tk_6 (List.mem_of_getElem? (i := 204) rfl)
theorem tw_1403 : (Jvm.Cond.static ({ cls := "MarshBellsLaw", name := "pause", desc := "(LMarshBells;II[J)I" } : Jvm.MethodName)) ∈ lw_tbl := tk_6 (List.mem_of_getElem? (i := 203) rfl)
theorem li_L_236 : kLH RL 236 yL_pause cL_pause 5 (some .int) [(0, 10, 13, 18), (0, 10, 17, 13)] 4 := ⟨tw_1402, tw_1403, tw_1404, tw_0, by decide +kernel⟩
theorem dL_law_1461 : decode cL_law 1461 = .ok (.invokestatic 236, 3) := by decide +kernel
theorem dL_law_1464 : decode cL_law 1464 = .ok (.istore 5, 2) := by decide +kernel
theorem dL_law_1466 : decode cL_law 1466 = .ok (.aload_n 2, 1) := by decide +kernel
theorem dL_law_1467 : decode cL_law 1467 = .ok (.aload_n 0, 1) := by decide +kernel
theorem dL_law_1468 : decode cL_law 1468 = .ok (.iload 4, 2) := by decide +kernel
theorem dL_law_1470 : decode cL_law 1470 = .ok (.iconst 1, 1) := by decide +kernel
theorem dL_law_1471 : decode cL_law 1471 = .ok (.iadd, 1) := by decide +kernel
theorem dL_law_1472 : decode cL_law 1472 = .ok (.iaload, 1) := by decide +kernel
theorem dL_law_1473 : decode cL_law 1473 = .ok (.aload_n 0, 1) := by decide +kernel
theorem dL_law_1474 : decode cL_law 1474 = .ok (.iload 4, 2) := by decide +kernel
theorem dL_law_1476 : decode cL_law 1476 = .ok (.iconst 2, 1) := by decide +kernel
theorem dL_law_1477 : decode cL_law 1477 = .ok (.iadd, 1) := by decide +kernel
theorem dL_law_1478 : decode cL_law 1478 = .ok (.iaload, 1) := by decide +kernel
theorem tw_2022 : (Jvm.Cond.methodLink "MarshBellsLaw" (238 : Nat) ({ cls := "MarshBellsModel", name := "pause", desc := "(II)I" } : Jvm.MethodName)) ∈ lw_tbl := tk_9 (List.mem_of_getElem? (i := 102) rfl)
theorem tw_2025 : (Jvm.Cond.code ({ cls := "MarshBellsModel", name := "pause", desc := "(II)I" } : Jvm.MethodName) prog_14_method_88_code (7 : Nat) (Option.some Jvm.ClassFile.FieldType.int)) ∈ lw_tbl := tk_9 (List.mem_of_getElem? (i := 105) rfl)
theorem tw_2023 : (Jvm.Cond.instanceMethod ({ cls := "MarshBellsModel", name := "pause", desc := "(II)I" } : Jvm.MethodName)) ∈ lw_tbl := tk_9 (List.mem_of_getElem? (i := 103) rfl)
theorem tw_2024 : (Jvm.Cond.selects "MarshBellsModel" ({ cls := "MarshBellsModel", name := "pause", desc := "(II)I" } : Jvm.MethodName) ({ cls := "MarshBellsModel", name := "pause", desc := "(II)I" } : Jvm.MethodName)) ∈ lw_tbl := tk_9 (List.mem_of_getElem? (i := 104) rfl)
theorem li_L_238 : kLV RL 238 RX12 yX12_pause cX12_pause 7 (some .int) 2 := ⟨tw_2022, tw_2023, tw_2024, tw_2025, tw_13, by decide +kernel⟩
theorem dL_law_1479 : decode cL_law 1479 = .ok (.invokevirtual 238, 3) := by decide +kernel
theorem dL_law_1482 : decode cL_law 1482 = .ok (.istore 6, 2) := by decide +kernel
theorem dL_law_1484 : decode cL_law 1484 = .ok (.goto 27, 3) := by decide +kernel
theorem dL_law_1487 : decode cL_law 1487 = .ok (.aload_n 1, 1) := by decide +kernel
theorem tw_717 : (Jvm.Cond.methodLink "MarshBellsLaw" (239 : Nat) ({ cls := "MarshBells", name := "image", desc := "()V" } : Jvm.MethodName)) ∈ lw_tbl := tk_3 (List.mem_of_getElem? (i := 237) rfl)
theorem tw_720 : (Jvm.Cond.code ({ cls := "MarshBells", name := "image", desc := "()V" } : Jvm.MethodName) prog_1_method_39_code (1 : Nat) (Option.none : Option Jvm.ClassFile.FieldType)) ∈ lw_tbl := tk_4 (List.mem_of_getElem? (i := 0) rfl)
theorem tw_718 : (Jvm.Cond.instanceMethod ({ cls := "MarshBells", name := "image", desc := "()V" } : Jvm.MethodName)) ∈ lw_tbl := tk_3 (List.mem_of_getElem? (i := 238) rfl)
theorem tw_719 : (Jvm.Cond.selects "MarshBells" ({ cls := "MarshBells", name := "image", desc := "()V" } : Jvm.MethodName) ({ cls := "MarshBells", name := "image", desc := "()V" } : Jvm.MethodName)) ∈ lw_tbl := tk_3 (List.mem_of_getElem? (i := 239) rfl)
theorem li_L_239 : kLV RL 239 RX11 yX11_image cX11_image 1 none 0 := ⟨tw_717, tw_718, tw_719, tw_720, tw_1, by decide +kernel⟩
theorem dL_law_1488 : decode cL_law 1488 = .ok (.invokevirtual 239, 3) := by decide +kernel
theorem dL_law_1491 : decode cL_law 1491 = .ok (.aload_n 2, 1) := by decide +kernel
theorem tw_2083 : (Jvm.Cond.methodLink "MarshBellsLaw" (242 : Nat) ({ cls := "MarshBellsModel", name := "image", desc := "()V" } : Jvm.MethodName)) ∈ lw_tbl := tk_9 (List.mem_of_getElem? (i := 163) rfl)
theorem tw_2086 : (Jvm.Cond.code ({ cls := "MarshBellsModel", name := "image", desc := "()V" } : Jvm.MethodName) prog_14_method_103_code (1 : Nat) (Option.none : Option Jvm.ClassFile.FieldType)) ∈ lw_tbl := tk_9 (List.mem_of_getElem? (i := 166) rfl)
theorem tw_2084 : (Jvm.Cond.instanceMethod ({ cls := "MarshBellsModel", name := "image", desc := "()V" } : Jvm.MethodName)) ∈ lw_tbl := tk_9 (List.mem_of_getElem? (i := 164) rfl)
theorem tw_2085 : (Jvm.Cond.selects "MarshBellsModel" ({ cls := "MarshBellsModel", name := "image", desc := "()V" } : Jvm.MethodName) ({ cls := "MarshBellsModel", name := "image", desc := "()V" } : Jvm.MethodName)) ∈ lw_tbl := tk_9 (List.mem_of_getElem? (i := 165) rfl)
theorem li_L_242 : kLV RL 242 RX12 yX12_image cX12_image 1 none 0 := ⟨tw_2083, tw_2084, tw_2085, tw_2086, tw_13, by decide +kernel⟩
theorem dL_law_1492 : decode cL_law 1492 = .ok (.invokevirtual 242, 3) := by decide +kernel
theorem dL_law_1495 : decode cL_law 1495 = .ok (.goto 16, 3) := by decide +kernel
theorem dL_law_1498 : decode cL_law 1498 = .ok (.aload_n 1, 1) := by decide +kernel
theorem tw_725 : (Jvm.Cond.methodLink "MarshBellsLaw" (243 : Nat) ({ cls := "MarshBells", name := "restore", desc := "()Z" } : Jvm.MethodName)) ∈ lw_tbl := tk_4 (List.mem_of_getElem? (i := 5) rfl)
theorem tw_728 : (Jvm.Cond.code ({ cls := "MarshBells", name := "restore", desc := "()Z" } : Jvm.MethodName) prog_1_method_40_code (1 : Nat) (Option.some Jvm.ClassFile.FieldType.boolean)) ∈ lw_tbl := tk_4 (List.mem_of_getElem? (i := 8) rfl)
theorem tw_726 : (Jvm.Cond.instanceMethod ({ cls := "MarshBells", name := "restore", desc := "()Z" } : Jvm.MethodName)) ∈ lw_tbl := tk_4 (List.mem_of_getElem? (i := 6) rfl)
theorem tw_727 : (Jvm.Cond.selects "MarshBells" ({ cls := "MarshBells", name := "restore", desc := "()Z" } : Jvm.MethodName) ({ cls := "MarshBells", name := "restore", desc := "()Z" } : Jvm.MethodName)) ∈ lw_tbl := tk_4 (List.mem_of_getElem? (i := 7) rfl)
theorem li_L_243 : kLV RL 243 RX11 yX11_restore cX11_restore 1 (some .boolean) 0 := ⟨tw_725, tw_726, tw_727, tw_728, tw_1, by decide +kernel⟩
theorem dL_law_1499 : decode cL_law 1499 = .ok (.invokevirtual 243, 3) := by decide +kernel
theorem dL_law_1502 : decode cL_law 1502 = .ok (.pop, 1) := by decide +kernel
theorem dL_law_1503 : decode cL_law 1503 = .ok (.aload_n 2, 1) := by decide +kernel
theorem tw_2087 : (Jvm.Cond.methodLink "MarshBellsLaw" (247 : Nat) ({ cls := "MarshBellsModel", name := "restore", desc := "()Z" } : Jvm.MethodName)) ∈ lw_tbl := tk_9 (List.mem_of_getElem? (i := 167) rfl)
theorem tw_2090 : (Jvm.Cond.code ({ cls := "MarshBellsModel", name := "restore", desc := "()Z" } : Jvm.MethodName) prog_14_method_104_code (1 : Nat) (Option.some Jvm.ClassFile.FieldType.boolean)) ∈ lw_tbl := tk_9 (List.mem_of_getElem? (i := 170) rfl)
theorem tw_2088 : (Jvm.Cond.instanceMethod ({ cls := "MarshBellsModel", name := "restore", desc := "()Z" } : Jvm.MethodName)) ∈ lw_tbl := tk_9 (List.mem_of_getElem? (i := 168) rfl)
theorem tw_2089 : (Jvm.Cond.selects "MarshBellsModel" ({ cls := "MarshBellsModel", name := "restore", desc := "()Z" } : Jvm.MethodName) ({ cls := "MarshBellsModel", name := "restore", desc := "()Z" } : Jvm.MethodName)) ∈ lw_tbl := tk_9 (List.mem_of_getElem? (i := 169) rfl)
theorem li_L_247 : kLV RL 247 RX12 yX12_restore cX12_restore 1 (some .boolean) 0 := ⟨tw_2087, tw_2088, tw_2089, tw_2090, tw_13, by decide +kernel⟩
theorem dL_law_1504 : decode cL_law 1504 = .ok (.invokevirtual 247, 3) := by decide +kernel
theorem dL_law_1507 : decode cL_law 1507 = .ok (.pop, 1) := by decide +kernel
theorem dL_law_1508 : decode cL_law 1508 = .ok (.goto 3, 3) := by decide +kernel
