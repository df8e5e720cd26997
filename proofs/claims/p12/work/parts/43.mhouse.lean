theorem tw_1453 : (Jvm.Cond.fieldLink "MarshBellsModel" (293 : Nat) "MarshBellsModel" "newLessons" "I") ∈ lw_tbl := tk_7 (List.mem_of_getElem? (i := 13) rfl)
theorem fl_X12_293 : kFL RX12 293 12 88 30 := ⟨RX12, TX12, rfl, by decide, inWX12, tw_1453⟩
theorem tw_1468 : (Jvm.Cond.fieldLink "MarshBellsModel" (83 : Nat) "MarshBellsModel" "newMany" "[I") ∈ lw_tbl := tk_7 (List.mem_of_getElem? (i := 28) rfl)
theorem fl_X12_83 : kFL RX12 83 12 88 45 := ⟨RX12, TX12, rfl, by decide, inWX12, tw_1468⟩
theorem tw_1466 : (Jvm.Cond.fieldLink "MarshBellsModel" (77 : Nat) "MarshBellsModel" "newSome" "[I") ∈ lw_tbl := tk_7 (List.mem_of_getElem? (i := 26) rfl)
theorem fl_X12_77 : kFL RX12 77 12 88 43 := ⟨RX12, TX12, rfl, by decide, inWX12, tw_1466⟩
theorem tw_1469 : (Jvm.Cond.fieldLink "MarshBellsModel" (86 : Nat) "MarshBellsModel" "newFor" "[I") ∈ lw_tbl := tk_7 (List.mem_of_getElem? (i := 29) rfl)
theorem fl_X12_86 : kFL RX12 86 12 88 46 := ⟨RX12, TX12, rfl, by decide, inWX12, tw_1469⟩
theorem dX12_readsWaits_0 : decode cX12_readsWaits 0 = .ok (.bipush 6, 2) := by decide +kernel
theorem dX12_readsWaits_2 : decode cX12_readsWaits 2 = .ok (.aload_n 0, 1) := by decide +kernel
theorem dX12_readsWaits_3 : decode cX12_readsWaits 3 = .ok (.getfield 293, 3) := by decide +kernel
theorem dX12_readsWaits_6 : decode cX12_readsWaits 6 = .ok (.imul, 1) := by decide +kernel
theorem dX12_readsWaits_7 : decode cX12_readsWaits 7 = .ok (.istore_n 1, 1) := by decide +kernel
theorem dX12_readsWaits_8 : decode cX12_readsWaits 8 = .ok (.iconst 0, 1) := by decide +kernel
theorem dX12_readsWaits_9 : decode cX12_readsWaits 9 = .ok (.istore_n 2, 1) := by decide +kernel
theorem dX12_readsWaits_10 : decode cX12_readsWaits 10 = .ok (.iconst 1, 1) := by decide +kernel
theorem dX12_readsWaits_11 : decode cX12_readsWaits 11 = .ok (.istore_n 3, 1) := by decide +kernel
theorem dX12_readsWaits_12 : decode cX12_readsWaits 12 = .ok (.iload_n 3, 1) := by decide +kernel
theorem dX12_readsWaits_184 : decode cX12_readsWaits 184 = .ok (.aload_n 0, 1) := by decide +kernel
theorem dX12_readsWaits_185 : decode cX12_readsWaits 185 = .ok (.getfield 83, 3) := by decide +kernel
theorem dX12_readsWaits_188 : decode cX12_readsWaits 188 = .ok (.aload_n 0, 1) := by decide +kernel
theorem dX12_readsWaits_189 : decode cX12_readsWaits 189 = .ok (.getfield 293, 3) := by decide +kernel
theorem dX12_readsWaits_192 : decode cX12_readsWaits 192 = .ok (.iload_n 2, 1) := by decide +kernel
theorem dX12_readsWaits_193 : decode cX12_readsWaits 193 = .ok (.iastore, 1) := by decide +kernel
theorem dX12_readsWaits_194 : decode cX12_readsWaits 194 = .ok (.aload_n 0, 1) := by decide +kernel
theorem dX12_readsWaits_195 : decode cX12_readsWaits 195 = .ok (.invokevirtual 236, 3) := by decide +kernel
theorem dX12_readsWaits_220 : decode cX12_readsWaits 220 = .ok (.return_, 1) := by decide +kernel
theorem dX12_readsWaits_198 : decode cX12_readsWaits 198 = .ok (.ifCond .eq 22, 3) := by decide +kernel
theorem dX12_readsWaits_201 : decode cX12_readsWaits 201 = .ok (.aload_n 0, 1) := by decide +kernel
theorem dX12_readsWaits_202 : decode cX12_readsWaits 202 = .ok (.getfield 77, 3) := by decide +kernel
theorem dX12_readsWaits_205 : decode cX12_readsWaits 205 = .ok (.aload_n 0, 1) := by decide +kernel
theorem dX12_readsWaits_206 : decode cX12_readsWaits 206 = .ok (.getfield 293, 3) := by decide +kernel
theorem dX12_readsWaits_209 : decode cX12_readsWaits 209 = .ok (.iaload, 1) := by decide +kernel
theorem dX12_readsWaits_210 : decode cX12_readsWaits 210 = .ok (.iload_n 2, 1) := by decide +kernel
theorem dX12_readsWaits_211 : decode cX12_readsWaits 211 = .ok (.if_icmp .le 9, 3) := by decide +kernel
theorem dX12_readsWaits_214 : decode cX12_readsWaits 214 = .ok (.aload_n 0, 1) := by decide +kernel
theorem dX12_readsWaits_215 : decode cX12_readsWaits 215 = .ok (.bipush 6, 2) := by decide +kernel
theorem dX12_readsWaits_217 : decode cX12_readsWaits 217 = .ok (.invokevirtual 243, 3) := by decide +kernel
theorem dX12_readsWaits_13 : decode cX12_readsWaits 13 = .ok (.ifCond .eq 171, 3) := by decide +kernel
theorem dX12_readsWaits_16 : decode cX12_readsWaits 16 = .ok (.aload_n 0, 1) := by decide +kernel
theorem dX12_readsWaits_17 : decode cX12_readsWaits 17 = .ok (.invokevirtual 236, 3) := by decide +kernel
theorem dX12_readsWaits_20 : decode cX12_readsWaits 20 = .ok (.ifCond .eq 164, 3) := by decide +kernel
theorem dX12_readsWaits_23 : decode cX12_readsWaits 23 = .ok (.aload_n 0, 1) := by decide +kernel
theorem dX12_readsWaits_24 : decode cX12_readsWaits 24 = .ok (.getfield 210, 3) := by decide +kernel
theorem dX12_readsWaits_27 : decode cX12_readsWaits 27 = .ok (.iconst 2, 1) := by decide +kernel
theorem dX12_readsWaits_77 : decode cX12_readsWaits 77 = .ok (.iconst 0, 1) := by decide +kernel
theorem dX12_readsWaits_78 : decode cX12_readsWaits 78 = .ok (.istore 4, 2) := by decide +kernel
theorem dX12_readsWaits_80 : decode cX12_readsWaits 80 = .ok (.iconst 0, 1) := by decide +kernel
theorem dX12_readsWaits_81 : decode cX12_readsWaits 81 = .ok (.istore 5, 2) := by decide +kernel
theorem dX12_readsWaits_83 : decode cX12_readsWaits 83 = .ok (.iload 5, 2) := by decide +kernel
theorem dX12_readsWaits_85 : decode cX12_readsWaits 85 = .ok (.iload_n 2, 1) := by decide +kernel
theorem dX12_readsWaits_86 : decode cX12_readsWaits 86 = .ok (.if_icmp .ge 37, 3) := by decide +kernel
theorem dX12_readsWaits_123 : decode cX12_readsWaits 123 = .ok (.aload_n 0, 1) := by decide +kernel
theorem dX12_readsWaits_124 : decode cX12_readsWaits 124 = .ok (.invokevirtual 236, 3) := by decide +kernel
theorem dX12_readsWaits_140 : decode cX12_readsWaits 140 = .ok (.aload_n 0, 1) := by decide +kernel
theorem dX12_readsWaits_141 : decode cX12_readsWaits 141 = .ok (.invokevirtual 236, 3) := by decide +kernel
theorem dX12_readsWaits_144 : decode cX12_readsWaits 144 = .ok (.ifCond .ne 4, 3) := by decide +kernel
theorem dX12_readsWaits_148 : decode cX12_readsWaits 148 = .ok (.aload_n 0, 1) := by decide +kernel
theorem dX12_readsWaits_149 : decode cX12_readsWaits 149 = .ok (.getfield 86, 3) := by decide +kernel
theorem dX12_readsWaits_152 : decode cX12_readsWaits 152 = .ok (.iload_n 1, 1) := by decide +kernel
theorem dX12_readsWaits_153 : decode cX12_readsWaits 153 = .ok (.iload_n 2, 1) := by decide +kernel
theorem dX12_readsWaits_154 : decode cX12_readsWaits 154 = .ok (.iadd, 1) := by decide +kernel
theorem dX12_readsWaits_155 : decode cX12_readsWaits 155 = .ok (.aload_n 0, 1) := by decide +kernel
theorem dX12_readsWaits_156 : decode cX12_readsWaits 156 = .ok (.getfield 204, 3) := by decide +kernel
theorem dX12_readsWaits_159 : decode cX12_readsWaits 159 = .ok (.iastore, 1) := by decide +kernel
theorem dX12_readsWaits_160 : decode cX12_readsWaits 160 = .ok (.iinc 2 1, 3) := by decide +kernel
theorem dX12_readsWaits_163 : decode cX12_readsWaits 163 = .ok (.aload_n 0, 1) := by decide +kernel
theorem dX12_readsWaits_164 : decode cX12_readsWaits 164 = .ok (.invokevirtual 240, 3) := by decide +kernel
theorem dX12_readsWaits_167 : decode cX12_readsWaits 167 = .ok (.aload_n 0, 1) := by decide +kernel
theorem dX12_readsWaits_168 : decode cX12_readsWaits 168 = .ok (.getfield 210, 3) := by decide +kernel
theorem dX12_readsWaits_171 : decode cX12_readsWaits 171 = .ok (.iconst 2, 1) := by decide +kernel
theorem dX12_readsWaits_180 : decode cX12_readsWaits 180 = .ok (.istore_n 3, 1) := by decide +kernel
theorem dX12_readsWaits_181 : decode cX12_readsWaits 181 = .ok (.goto (-169), 3) := by decide +kernel
theorem dX12_readsWaits_172 : decode cX12_readsWaits 172 = .ok (.if_icmp .ne 7, 3) := by decide +kernel
theorem dX12_readsWaits_179 : decode cX12_readsWaits 179 = .ok (.iconst 0, 1) := by decide +kernel
theorem dX12_readsWaits_175 : decode cX12_readsWaits 175 = .ok (.iconst 1, 1) := by decide +kernel
theorem dX12_readsWaits_176 : decode cX12_readsWaits 176 = .ok (.goto 4, 3) := by decide +kernel
theorem dX12_readsWaits_147 : decode cX12_readsWaits 147 = .ok (.return_, 1) := by decide +kernel
theorem dX12_readsWaits_127 : decode cX12_readsWaits 127 = .ok (.ifCond .eq 13, 3) := by decide +kernel
theorem dX12_readsWaits_130 : decode cX12_readsWaits 130 = .ok (.iload 4, 2) := by decide +kernel
theorem dX12_readsWaits_132 : decode cX12_readsWaits 132 = .ok (.ifCond .eq 8, 3) := by decide +kernel
theorem dX12_readsWaits_135 : decode cX12_readsWaits 135 = .ok (.aload_n 0, 1) := by decide +kernel
theorem dX12_readsWaits_136 : decode cX12_readsWaits 136 = .ok (.iconst 4, 1) := by decide +kernel
theorem dX12_readsWaits_137 : decode cX12_readsWaits 137 = .ok (.invokevirtual 243, 3) := by decide +kernel
theorem dX12_readsWaits_89 : decode cX12_readsWaits 89 = .ok (.iload 4, 2) := by decide +kernel
theorem dX12_readsWaits_115 : decode cX12_readsWaits 115 = .ok (.istore 4, 2) := by decide +kernel
theorem dX12_readsWaits_117 : decode cX12_readsWaits 117 = .ok (.iinc 5 1, 3) := by decide +kernel
theorem dX12_readsWaits_120 : decode cX12_readsWaits 120 = .ok (.goto (-37), 3) := by decide +kernel
theorem dX12_readsWaits_110 : decode cX12_readsWaits 110 = .ok (.iconst 1, 1) := by decide +kernel
theorem dX12_readsWaits_111 : decode cX12_readsWaits 111 = .ok (.goto 4, 3) := by decide +kernel
theorem dX12_readsWaits_91 : decode cX12_readsWaits 91 = .ok (.ifCond .ne 19, 3) := by decide +kernel
theorem dX12_readsWaits_94 : decode cX12_readsWaits 94 = .ok (.aload_n 0, 1) := by decide +kernel
theorem dX12_readsWaits_95 : decode cX12_readsWaits 95 = .ok (.getfield 86, 3) := by decide +kernel
theorem dX12_readsWaits_98 : decode cX12_readsWaits 98 = .ok (.iload_n 1, 1) := by decide +kernel
theorem dX12_readsWaits_99 : decode cX12_readsWaits 99 = .ok (.iload 5, 2) := by decide +kernel
theorem dX12_readsWaits_101 : decode cX12_readsWaits 101 = .ok (.iadd, 1) := by decide +kernel
theorem dX12_readsWaits_102 : decode cX12_readsWaits 102 = .ok (.iaload, 1) := by decide +kernel
theorem dX12_readsWaits_103 : decode cX12_readsWaits 103 = .ok (.aload_n 0, 1) := by decide +kernel
theorem dX12_readsWaits_104 : decode cX12_readsWaits 104 = .ok (.getfield 204, 3) := by decide +kernel
theorem dX12_readsWaits_107 : decode cX12_readsWaits 107 = .ok (.if_icmp .ne 7, 3) := by decide +kernel
theorem dX12_readsWaits_114 : decode cX12_readsWaits 114 = .ok (.iconst 0, 1) := by decide +kernel
theorem dX12_readsWaits_28 : decode cX12_readsWaits 28 = .ok (.if_icmp .eq 11, 3) := by decide +kernel
theorem dX12_readsWaits_39 : decode cX12_readsWaits 39 = .ok (.iload_n 2, 1) := by decide +kernel
theorem dX12_readsWaits_40 : decode cX12_readsWaits 40 = .ok (.bipush 6, 2) := by decide +kernel
theorem dX12_readsWaits_53 : decode cX12_readsWaits 53 = .ok (.aload_n 0, 1) := by decide +kernel
theorem dX12_readsWaits_54 : decode cX12_readsWaits 54 = .ok (.iconst 2, 1) := by decide +kernel
theorem dX12_readsWaits_55 : decode cX12_readsWaits 55 = .ok (.invokevirtual 243, 3) := by decide +kernel
theorem dX12_readsWaits_58 : decode cX12_readsWaits 58 = .ok (.goto 19, 3) := by decide +kernel
theorem dX12_readsWaits_42 : decode cX12_readsWaits 42 = .ok (.if_icmp .eq 11, 3) := by decide +kernel
theorem dX12_readsWaits_45 : decode cX12_readsWaits 45 = .ok (.aload_n 0, 1) := by decide +kernel
theorem dX12_readsWaits_46 : decode cX12_readsWaits 46 = .ok (.getfield 220, 3) := by decide +kernel
theorem dX12_readsWaits_49 : decode cX12_readsWaits 49 = .ok (.iconst 4, 1) := by decide +kernel
theorem dX12_readsWaits_50 : decode cX12_readsWaits 50 = .ok (.if_icmp .le 11, 3) := by decide +kernel
theorem dX12_readsWaits_61 : decode cX12_readsWaits 61 = .ok (.aload_n 0, 1) := by decide +kernel
theorem dX12_readsWaits_62 : decode cX12_readsWaits 62 = .ok (.getfield 204, 3) := by decide +kernel
theorem dX12_readsWaits_65 : decode cX12_readsWaits 65 = .ok (.aload_n 0, 1) := by decide +kernel
theorem dX12_readsWaits_66 : decode cX12_readsWaits 66 = .ok (.getfield 293, 3) := by decide +kernel
theorem dX12_readsWaits_69 : decode cX12_readsWaits 69 = .ok (.if_icmp .lt 8, 3) := by decide +kernel
theorem dX12_readsWaits_72 : decode cX12_readsWaits 72 = .ok (.aload_n 0, 1) := by decide +kernel
theorem dX12_readsWaits_73 : decode cX12_readsWaits 73 = .ok (.iconst 3, 1) := by decide +kernel
theorem dX12_readsWaits_74 : decode cX12_readsWaits 74 = .ok (.invokevirtual 243, 3) := by decide +kernel
theorem dX12_readsWaits_31 : decode cX12_readsWaits 31 = .ok (.aload_n 0, 1) := by decide +kernel
theorem dX12_readsWaits_32 : decode cX12_readsWaits 32 = .ok (.iconst 1, 1) := by decide +kernel
theorem dX12_readsWaits_33 : decode cX12_readsWaits 33 = .ok (.invokevirtual 243, 3) := by decide +kernel
theorem dX12_readsWaits_36 : decode cX12_readsWaits 36 = .ok (.goto 41, 3) := by decide +kernel
theorem dX12_perhaps_0 : decode cX12_perhaps 0 = .ok (.aload_n 0, 1) := by decide +kernel
theorem dX12_perhaps_1 : decode cX12_perhaps 1 = .ok (.invokevirtual 236, 3) := by decide +kernel
theorem dX12_perhaps_15 : decode cX12_perhaps 15 = .ok (.iload_n 2, 1) := by decide +kernel
theorem dX12_perhaps_16 : decode cX12_perhaps 16 = .ok (.ireturn, 1) := by decide +kernel
theorem dX12_perhaps_4 : decode cX12_perhaps 4 = .ok (.ifCond .eq 11, 3) := by decide +kernel
theorem dX12_perhaps_7 : decode cX12_perhaps 7 = .ok (.aload_n 0, 1) := by decide +kernel
theorem dX12_perhaps_8 : decode cX12_perhaps 8 = .ok (.invokevirtual 261, 3) := by decide +kernel
theorem dX12_perhaps_11 : decode cX12_perhaps 11 = .ok (.iload_n 1, 1) := by decide +kernel
theorem dX12_perhaps_12 : decode cX12_perhaps 12 = .ok (.if_icmp .eq 5, 3) := by decide +kernel
theorem dX12_perhaps_17 : decode cX12_perhaps 17 = .ok (.aload_n 0, 1) := by decide +kernel
theorem dX12_perhaps_18 : decode cX12_perhaps 18 = .ok (.invokevirtual 240, 3) := by decide +kernel
theorem dX12_perhaps_21 : decode cX12_perhaps 21 = .ok (.aload_n 0, 1) := by decide +kernel
theorem dX12_perhaps_22 : decode cX12_perhaps 22 = .ok (.iconst 0, 1) := by decide +kernel
theorem dX12_perhaps_23 : decode cX12_perhaps 23 = .ok (.iload_n 3, 1) := by decide +kernel
theorem tw_1749 : (Jvm.Cond.methodLink "MarshBellsModel" (296 : Nat) ({ cls := "MarshBellsModel", name := "number", desc := "(II)I" } : Jvm.MethodName)) ∈ lw_tbl := tk_8 (List.mem_of_getElem? (i := 69) rfl)
theorem tw_1752 : (Jvm.Cond.code ({ cls := "MarshBellsModel", name := "number", desc := "(II)I" } : Jvm.MethodName) prog_14_method_20_code (4 : Nat) (Option.some Jvm.ClassFile.FieldType.int)) ∈ lw_tbl := tk_8 (List.mem_of_getElem? (i := 72) rfl)
theorem tw_1751 : (Jvm.Cond.instanceMethod ({ cls := "MarshBellsModel", name := "number", desc := "(II)I" } : Jvm.MethodName)) ∈ lw_tbl := tk_8 (List.mem_of_getElem? (i := 71) rfl)
theorem se_X12_number : Cond.selects RX12 yX12_number yX12_number ∈ lw_tbl := List.mem_append_left _ (List.mem_of_getElem? (i := 117) rfl)
theorem li_X12_296 : kLV RX12 296 RX12 yX12_number cX12_number 4 (some .int) 2 := ⟨tw_1749, tw_1751, se_X12_number, tw_1752, tw_13, by decide +kernel⟩
theorem dX12_perhaps_24 : decode cX12_perhaps 24 = .ok (.invokevirtual 296, 3) := by decide +kernel
theorem dX12_perhaps_27 : decode cX12_perhaps 27 = .ok (.ireturn, 1) := by decide +kernel
theorem tw_1461 : (Jvm.Cond.fieldLink "MarshBellsModel" (62 : Nat) "MarshBellsModel" "newFrom" "[I") ∈ lw_tbl := tk_7 (List.mem_of_getElem? (i := 21) rfl)
theorem fl_X12_62 : kFL RX12 62 12 88 38 := ⟨RX12, TX12, rfl, by decide, inWX12, tw_1461⟩
theorem tw_1462 : (Jvm.Cond.fieldLink "MarshBellsModel" (65 : Nat) "MarshBellsModel" "newTo" "[I") ∈ lw_tbl := tk_7 (List.mem_of_getElem? (i := 22) rfl)
theorem fl_X12_65 : kFL RX12 65 12 88 39 := ⟨RX12, TX12, rfl, by decide, inWX12, tw_1462⟩
theorem tw_1463 : (Jvm.Cond.fieldLink "MarshBellsModel" (68 : Nat) "MarshBellsModel" "newLeast" "[I") ∈ lw_tbl := tk_7 (List.mem_of_getElem? (i := 23) rfl)
theorem fl_X12_68 : kFL RX12 68 12 88 40 := ⟨RX12, TX12, rfl, by decide, inWX12, tw_1463⟩
theorem tw_1470 : (Jvm.Cond.fieldLink "MarshBellsModel" (89 : Nat) "MarshBellsModel" "newNow" "[I") ∈ lw_tbl := tk_7 (List.mem_of_getElem? (i := 30) rfl)
theorem fl_X12_89 : kFL RX12 89 12 88 47 := ⟨RX12, TX12, rfl, by decide, inWX12, tw_1470⟩
theorem tw_1464 : (Jvm.Cond.fieldLink "MarshBellsModel" (71 : Nat) "MarshBellsModel" "newPeople" "[I") ∈ lw_tbl := tk_7 (List.mem_of_getElem? (i := 24) rfl)
theorem fl_X12_71 : kFL RX12 71 12 88 41 := ⟨RX12, TX12, rfl, by decide, inWX12, tw_1464⟩
theorem tw_1465 : (Jvm.Cond.fieldLink "MarshBellsModel" (74 : Nat) "MarshBellsModel" "newKind" "[I") ∈ lw_tbl := tk_7 (List.mem_of_getElem? (i := 25) rfl)
theorem fl_X12_74 : kFL RX12 74 12 88 42 := ⟨RX12, TX12, rfl, by decide, inWX12, tw_1465⟩
theorem tw_1467 : (Jvm.Cond.fieldLink "MarshBellsModel" (80 : Nat) "MarshBellsModel" "newMaybe" "[I") ∈ lw_tbl := tk_7 (List.mem_of_getElem? (i := 27) rfl)
theorem fl_X12_80 : kFL RX12 80 12 88 44 := ⟨RX12, TX12, rfl, by decide, inWX12, tw_1467⟩
theorem dX12_readsLesson_0 : decode cX12_readsLesson 0 = .ok (.aload_n 0, 1) := by decide +kernel
theorem dX12_readsLesson_1 : decode cX12_readsLesson 1 = .ok (.getfield 293, 3) := by decide +kernel
theorem dX12_readsLesson_4 : decode cX12_readsLesson 4 = .ok (.bipush 12, 2) := by decide +kernel
theorem dX12_readsLesson_14 : decode cX12_readsLesson 14 = .ok (.aload_n 0, 1) := by decide +kernel
theorem dX12_readsLesson_15 : decode cX12_readsLesson 15 = .ok (.invokevirtual 236, 3) := by decide +kernel
theorem dX12_readsLesson_18 : decode cX12_readsLesson 18 = .ok (.ifCond .ne 4, 3) := by decide +kernel
theorem dX12_readsLesson_22 : decode cX12_readsLesson 22 = .ok (.aload_n 0, 1) := by decide +kernel
theorem dX12_readsLesson_23 : decode cX12_readsLesson 23 = .ok (.invokevirtual 240, 3) := by decide +kernel
theorem dX12_readsLesson_26 : decode cX12_readsLesson 26 = .ok (.aload_n 0, 1) := by decide +kernel
theorem dX12_readsLesson_27 : decode cX12_readsLesson 27 = .ok (.getfield 293, 3) := by decide +kernel
theorem dX12_readsLesson_30 : decode cX12_readsLesson 30 = .ok (.istore_n 1, 1) := by decide +kernel
theorem dX12_readsLesson_31 : decode cX12_readsLesson 31 = .ok (.aload_n 0, 1) := by decide +kernel
theorem dX12_readsLesson_32 : decode cX12_readsLesson 32 = .ok (.getfield 62, 3) := by decide +kernel
theorem dX12_readsLesson_35 : decode cX12_readsLesson 35 = .ok (.iload_n 1, 1) := by decide +kernel
theorem dX12_readsLesson_36 : decode cX12_readsLesson 36 = .ok (.aload_n 0, 1) := by decide +kernel
theorem dX12_readsLesson_37 : decode cX12_readsLesson 37 = .ok (.iconst 0, 1) := by decide +kernel
theorem dX12_readsLesson_38 : decode cX12_readsLesson 38 = .ok (.sipush 999, 3) := by decide +kernel
theorem dX12_readsLesson_41 : decode cX12_readsLesson 41 = .ok (.invokevirtual 296, 3) := by decide +kernel
theorem dX12_readsLesson_44 : decode cX12_readsLesson 44 = .ok (.iastore, 1) := by decide +kernel
theorem dX12_readsLesson_45 : decode cX12_readsLesson 45 = .ok (.aload_n 0, 1) := by decide +kernel
theorem dX12_readsLesson_46 : decode cX12_readsLesson 46 = .ok (.getfield 65, 3) := by decide +kernel
theorem dX12_readsLesson_49 : decode cX12_readsLesson 49 = .ok (.iload_n 1, 1) := by decide +kernel
theorem dX12_readsLesson_50 : decode cX12_readsLesson 50 = .ok (.aload_n 0, 1) := by decide +kernel
theorem dX12_readsLesson_51 : decode cX12_readsLesson 51 = .ok (.aload_n 0, 1) := by decide +kernel
theorem dX12_readsLesson_52 : decode cX12_readsLesson 52 = .ok (.getfield 62, 3) := by decide +kernel
theorem dX12_readsLesson_55 : decode cX12_readsLesson 55 = .ok (.iload_n 1, 1) := by decide +kernel
theorem dX12_readsLesson_56 : decode cX12_readsLesson 56 = .ok (.iaload, 1) := by decide +kernel
theorem dX12_readsLesson_57 : decode cX12_readsLesson 57 = .ok (.iconst 1, 1) := by decide +kernel
theorem dX12_readsLesson_58 : decode cX12_readsLesson 58 = .ok (.iadd, 1) := by decide +kernel
theorem dX12_readsLesson_59 : decode cX12_readsLesson 59 = .ok (.sipush 999, 3) := by decide +kernel
theorem dX12_readsLesson_62 : decode cX12_readsLesson 62 = .ok (.invokevirtual 296, 3) := by decide +kernel
theorem dX12_readsLesson_65 : decode cX12_readsLesson 65 = .ok (.iastore, 1) := by decide +kernel
theorem dX12_readsLesson_66 : decode cX12_readsLesson 66 = .ok (.aload_n 0, 1) := by decide +kernel
theorem dX12_readsLesson_67 : decode cX12_readsLesson 67 = .ok (.getfield 68, 3) := by decide +kernel
theorem dX12_readsLesson_70 : decode cX12_readsLesson 70 = .ok (.iload_n 1, 1) := by decide +kernel
theorem dX12_readsLesson_71 : decode cX12_readsLesson 71 = .ok (.aload_n 0, 1) := by decide +kernel
theorem dX12_readsLesson_72 : decode cX12_readsLesson 72 = .ok (.iconst 1, 1) := by decide +kernel
theorem dX12_readsLesson_73 : decode cX12_readsLesson 73 = .ok (.sipush 200, 3) := by decide +kernel
theorem dX12_readsLesson_76 : decode cX12_readsLesson 76 = .ok (.invokevirtual 296, 3) := by decide +kernel
theorem dX12_readsLesson_79 : decode cX12_readsLesson 79 = .ok (.iastore, 1) := by decide +kernel
theorem dX12_readsLesson_80 : decode cX12_readsLesson 80 = .ok (.aload_n 0, 1) := by decide +kernel
theorem dX12_readsLesson_81 : decode cX12_readsLesson 81 = .ok (.getfield 89, 3) := by decide +kernel
theorem dX12_readsLesson_84 : decode cX12_readsLesson 84 = .ok (.iconst 0, 1) := by decide +kernel
theorem dX12_readsLesson_85 : decode cX12_readsLesson 85 = .ok (.iload_n 1, 1) := by decide +kernel
theorem dX12_readsLesson_86 : decode cX12_readsLesson 86 = .ok (.iadd, 1) := by decide +kernel
theorem dX12_readsLesson_87 : decode cX12_readsLesson 87 = .ok (.aload_n 0, 1) := by decide +kernel
theorem dX12_readsLesson_88 : decode cX12_readsLesson 88 = .ok (.iconst 0, 1) := by decide +kernel
theorem dX12_readsLesson_89 : decode cX12_readsLesson 89 = .ok (.bipush 60, 2) := by decide +kernel
theorem dX12_readsLesson_91 : decode cX12_readsLesson 91 = .ok (.invokevirtual 296, 3) := by decide +kernel
theorem dX12_readsLesson_94 : decode cX12_readsLesson 94 = .ok (.iastore, 1) := by decide +kernel
theorem dX12_readsLesson_95 : decode cX12_readsLesson 95 = .ok (.aload_n 0, 1) := by decide +kernel
theorem dX12_readsLesson_96 : decode cX12_readsLesson 96 = .ok (.getfield 89, 3) := by decide +kernel
theorem dX12_readsLesson_99 : decode cX12_readsLesson 99 = .ok (.bipush 24, 2) := by decide +kernel
theorem dX12_readsLesson_101 : decode cX12_readsLesson 101 = .ok (.iload_n 1, 1) := by decide +kernel
theorem dX12_readsLesson_102 : decode cX12_readsLesson 102 = .ok (.iadd, 1) := by decide +kernel
theorem dX12_readsLesson_103 : decode cX12_readsLesson 103 = .ok (.aload_n 0, 1) := by decide +kernel
theorem dX12_readsLesson_104 : decode cX12_readsLesson 104 = .ok (.iconst 0, 1) := by decide +kernel
theorem dX12_readsLesson_105 : decode cX12_readsLesson 105 = .ok (.bipush 9, 2) := by decide +kernel
theorem dX12_readsLesson_107 : decode cX12_readsLesson 107 = .ok (.invokevirtual 296, 3) := by decide +kernel
theorem dX12_readsLesson_110 : decode cX12_readsLesson 110 = .ok (.iastore, 1) := by decide +kernel
theorem dX12_readsLesson_111 : decode cX12_readsLesson 111 = .ok (.aload_n 0, 1) := by decide +kernel
theorem dX12_readsLesson_112 : decode cX12_readsLesson 112 = .ok (.getfield 71, 3) := by decide +kernel
theorem dX12_readsLesson_115 : decode cX12_readsLesson 115 = .ok (.iload_n 1, 1) := by decide +kernel
theorem dX12_readsLesson_116 : decode cX12_readsLesson 116 = .ok (.aload_n 0, 1) := by decide +kernel
theorem dX12_readsLesson_117 : decode cX12_readsLesson 117 = .ok (.iconst 1, 1) := by decide +kernel
theorem dX12_readsLesson_118 : decode cX12_readsLesson 118 = .ok (.bipush 99, 2) := by decide +kernel
theorem dX12_readsLesson_120 : decode cX12_readsLesson 120 = .ok (.invokevirtual 296, 3) := by decide +kernel
theorem dX12_readsLesson_123 : decode cX12_readsLesson 123 = .ok (.iastore, 1) := by decide +kernel
theorem dX12_readsLesson_124 : decode cX12_readsLesson 124 = .ok (.aload_n 0, 1) := by decide +kernel
theorem dX12_readsLesson_125 : decode cX12_readsLesson 125 = .ok (.getfield 74, 3) := by decide +kernel
theorem dX12_readsLesson_128 : decode cX12_readsLesson 128 = .ok (.iload_n 1, 1) := by decide +kernel
theorem dX12_readsLesson_129 : decode cX12_readsLesson 129 = .ok (.iconst 2, 1) := by decide +kernel
theorem dX12_readsLesson_130 : decode cX12_readsLesson 130 = .ok (.iastore, 1) := by decide +kernel
theorem dX12_readsLesson_131 : decode cX12_readsLesson 131 = .ok (.aload_n 0, 1) := by decide +kernel
theorem dX12_readsLesson_132 : decode cX12_readsLesson 132 = .ok (.getfield 77, 3) := by decide +kernel
theorem dX12_readsLesson_135 : decode cX12_readsLesson 135 = .ok (.iload_n 1, 1) := by decide +kernel
theorem dX12_readsLesson_136 : decode cX12_readsLesson 136 = .ok (.iconst 0, 1) := by decide +kernel
theorem dX12_readsLesson_137 : decode cX12_readsLesson 137 = .ok (.iastore, 1) := by decide +kernel
theorem dX12_readsLesson_138 : decode cX12_readsLesson 138 = .ok (.aload_n 0, 1) := by decide +kernel
theorem dX12_readsLesson_139 : decode cX12_readsLesson 139 = .ok (.getfield 83, 3) := by decide +kernel
theorem dX12_readsLesson_142 : decode cX12_readsLesson 142 = .ok (.iload_n 1, 1) := by decide +kernel
theorem dX12_readsLesson_143 : decode cX12_readsLesson 143 = .ok (.iconst 0, 1) := by decide +kernel
theorem dX12_readsLesson_144 : decode cX12_readsLesson 144 = .ok (.iastore, 1) := by decide +kernel
theorem dX12_readsLesson_145 : decode cX12_readsLesson 145 = .ok (.aload_n 0, 1) := by decide +kernel
theorem dX12_readsLesson_146 : decode cX12_readsLesson 146 = .ok (.invokevirtual 236, 3) := by decide +kernel
theorem dX12_readsLesson_160 : decode cX12_readsLesson 160 = .ok (.istore_n 2, 1) := by decide +kernel
theorem dX12_readsLesson_161 : decode cX12_readsLesson 161 = .ok (.iload_n 2, 1) := by decide +kernel
theorem dX12_readsLesson_162 : decode cX12_readsLesson 162 = .ok (.bipush 6, 2) := by decide +kernel
theorem dX12_readsLesson_217 : decode cX12_readsLesson 217 = .ok (.aload_n 0, 1) := by decide +kernel
theorem dX12_readsLesson_218 : decode cX12_readsLesson 218 = .ok (.getfield 89, 3) := by decide +kernel
theorem dX12_readsLesson_221 : decode cX12_readsLesson 221 = .ok (.bipush 36, 2) := by decide +kernel
theorem dX12_readsLesson_223 : decode cX12_readsLesson 223 = .ok (.iload_n 1, 1) := by decide +kernel
theorem dX12_readsLesson_224 : decode cX12_readsLesson 224 = .ok (.iadd, 1) := by decide +kernel
theorem dX12_readsLesson_225 : decode cX12_readsLesson 225 = .ok (.aload_n 0, 1) := by decide +kernel
theorem dX12_readsLesson_226 : decode cX12_readsLesson 226 = .ok (.bipush 8, 2) := by decide +kernel
theorem dX12_readsLesson_228 : decode cX12_readsLesson 228 = .ok (.bipush 99, 2) := by decide +kernel
theorem dX12_readsLesson_230 : decode cX12_readsLesson 230 = .ok (.bipush 99, 2) := by decide +kernel
theorem tw_1757 : (Jvm.Cond.methodLink "MarshBellsModel" (303 : Nat) ({ cls := "MarshBellsModel", name := "perhaps", desc := "(III)I" } : Jvm.MethodName)) ∈ lw_tbl := tk_8 (List.mem_of_getElem? (i := 77) rfl)
theorem tw_1760 : (Jvm.Cond.code ({ cls := "MarshBellsModel", name := "perhaps", desc := "(III)I" } : Jvm.MethodName) prog_14_method_33_code (4 : Nat) (Option.some Jvm.ClassFile.FieldType.int)) ∈ lw_tbl := tk_8 (List.mem_of_getElem? (i := 80) rfl)
theorem tw_1759 : (Jvm.Cond.instanceMethod ({ cls := "MarshBellsModel", name := "perhaps", desc := "(III)I" } : Jvm.MethodName)) ∈ lw_tbl := tk_8 (List.mem_of_getElem? (i := 79) rfl)
theorem se_X12_perhaps : Cond.selects RX12 yX12_perhaps yX12_perhaps ∈ lw_tbl := List.mem_append_left _ (List.mem_of_getElem? (i := 119) rfl)
theorem li_X12_303 : kLV RX12 303 RX12 yX12_perhaps cX12_perhaps 4 (some .int) 3 := ⟨tw_1757, tw_1759, se_X12_perhaps, tw_1760, tw_13, by decide +kernel⟩
theorem dX12_readsLesson_232 : decode cX12_readsLesson 232 = .ok (.invokevirtual 303, 3) := by decide +kernel
theorem dX12_readsLesson_235 : decode cX12_readsLesson 235 = .ok (.iastore, 1) := by decide +kernel
theorem dX12_readsLesson_236 : decode cX12_readsLesson 236 = .ok (.aload_n 0, 1) := by decide +kernel
theorem dX12_readsLesson_237 : decode cX12_readsLesson 237 = .ok (.getfield 80, 3) := by decide +kernel
theorem dX12_readsLesson_240 : decode cX12_readsLesson 240 = .ok (.iload_n 1, 1) := by decide +kernel
theorem dX12_readsLesson_241 : decode cX12_readsLesson 241 = .ok (.aload_n 0, 1) := by decide +kernel
theorem dX12_readsLesson_242 : decode cX12_readsLesson 242 = .ok (.bipush 9, 2) := by decide +kernel
theorem dX12_readsLesson_244 : decode cX12_readsLesson 244 = .ok (.bipush 10, 2) := by decide +kernel
theorem dX12_readsLesson_246 : decode cX12_readsLesson 246 = .ok (.bipush 10, 2) := by decide +kernel
theorem dX12_readsLesson_248 : decode cX12_readsLesson 248 = .ok (.invokevirtual 303, 3) := by decide +kernel
theorem dX12_readsLesson_251 : decode cX12_readsLesson 251 = .ok (.iastore, 1) := by decide +kernel
theorem dX12_readsLesson_252 : decode cX12_readsLesson 252 = .ok (.aload_n 0, 1) := by decide +kernel
theorem dX12_readsLesson_253 : decode cX12_readsLesson 253 = .ok (.getfield 89, 3) := by decide +kernel
theorem dX12_readsLesson_256 : decode cX12_readsLesson 256 = .ok (.bipush 12, 2) := by decide +kernel
theorem dX12_readsLesson_258 : decode cX12_readsLesson 258 = .ok (.iload_n 1, 1) := by decide +kernel
theorem dX12_readsLesson_259 : decode cX12_readsLesson 259 = .ok (.iadd, 1) := by decide +kernel
theorem dX12_readsLesson_260 : decode cX12_readsLesson 260 = .ok (.aload_n 0, 1) := by decide +kernel
theorem dX12_readsLesson_261 : decode cX12_readsLesson 261 = .ok (.bipush 10, 2) := by decide +kernel
theorem dX12_readsLesson_263 : decode cX12_readsLesson 263 = .ok (.iconst 0, 1) := by decide +kernel
theorem dX12_readsLesson_264 : decode cX12_readsLesson 264 = .ok (.bipush 30, 2) := by decide +kernel
theorem dX12_readsLesson_266 : decode cX12_readsLesson 266 = .ok (.invokevirtual 303, 3) := by decide +kernel
theorem dX12_readsLesson_269 : decode cX12_readsLesson 269 = .ok (.iastore, 1) := by decide +kernel
theorem dX12_readsLesson_270 : decode cX12_readsLesson 270 = .ok (.aload_n 0, 1) := by decide +kernel
theorem dX12_readsLesson_271 : decode cX12_readsLesson 271 = .ok (.invokevirtual 236, 3) := by decide +kernel
theorem dX12_readsLesson_287 : decode cX12_readsLesson 287 = .ok (.return_, 1) := by decide +kernel
theorem dX12_readsLesson_274 : decode cX12_readsLesson 274 = .ok (.ifCond .eq 13, 3) := by decide +kernel
theorem dX12_readsLesson_277 : decode cX12_readsLesson 277 = .ok (.aload_n 0, 1) := by decide +kernel
theorem dX12_readsLesson_278 : decode cX12_readsLesson 278 = .ok (.dup, 1) := by decide +kernel
theorem dX12_readsLesson_279 : decode cX12_readsLesson 279 = .ok (.getfield 293, 3) := by decide +kernel
theorem dX12_readsLesson_282 : decode cX12_readsLesson 282 = .ok (.iconst 1, 1) := by decide +kernel
theorem dX12_readsLesson_283 : decode cX12_readsLesson 283 = .ok (.iadd, 1) := by decide +kernel
theorem ft_X12_30 : kFT 12 30 .int false RX12 := ⟨RX12, TX12, 88, tyX12, rfl, tyX12_ok, nmX12, rfl, by decide +kernel, rfl⟩
theorem dX12_readsLesson_284 : decode cX12_readsLesson 284 = .ok (.putfield 293, 3) := by decide +kernel
theorem dX12_readsLesson_173 : decode cX12_readsLesson 173 = .ok (.aload_n 0, 1) := by decide +kernel
theorem dX12_readsLesson_174 : decode cX12_readsLesson 174 = .ok (.getfield 74, 3) := by decide +kernel
theorem dX12_readsLesson_177 : decode cX12_readsLesson 177 = .ok (.iload_n 1, 1) := by decide +kernel
theorem dX12_readsLesson_178 : decode cX12_readsLesson 178 = .ok (.iload_n 2, 1) := by decide +kernel
theorem dX12_readsLesson_179 : decode cX12_readsLesson 179 = .ok (.bipush 6, 2) := by decide +kernel
theorem dX12_readsLesson_189 : decode cX12_readsLesson 189 = .ok (.iastore, 1) := by decide +kernel
theorem dX12_readsLesson_190 : decode cX12_readsLesson 190 = .ok (.aload_n 0, 1) := by decide +kernel
theorem dX12_readsLesson_191 : decode cX12_readsLesson 191 = .ok (.invokevirtual 240, 3) := by decide +kernel
theorem dX12_readsLesson_194 : decode cX12_readsLesson 194 = .ok (.iload_n 2, 1) := by decide +kernel
theorem dX12_readsLesson_195 : decode cX12_readsLesson 195 = .ok (.bipush 7, 2) := by decide +kernel
theorem dX12_readsLesson_213 : decode cX12_readsLesson 213 = .ok (.aload_n 0, 1) := by decide +kernel
theorem tw_1753 : (Jvm.Cond.methodLink "MarshBellsModel" (300 : Nat) ({ cls := "MarshBellsModel", name := "readsWaits", desc := "()V" } : Jvm.MethodName)) ∈ lw_tbl := tk_8 (List.mem_of_getElem? (i := 73) rfl)
theorem tw_1756 : (Jvm.Cond.code ({ cls := "MarshBellsModel", name := "readsWaits", desc := "()V" } : Jvm.MethodName) prog_14_method_32_code (6 : Nat) (Option.none : Option Jvm.ClassFile.FieldType)) ∈ lw_tbl := tk_8 (List.mem_of_getElem? (i := 76) rfl)
theorem tw_1755 : (Jvm.Cond.instanceMethod ({ cls := "MarshBellsModel", name := "readsWaits", desc := "()V" } : Jvm.MethodName)) ∈ lw_tbl := tk_8 (List.mem_of_getElem? (i := 75) rfl)
theorem se_X12_readsWaits : Cond.selects RX12 yX12_readsWaits yX12_readsWaits ∈ lw_tbl := List.mem_append_left _ (List.mem_of_getElem? (i := 118) rfl)
theorem li_X12_300 : kLV RX12 300 RX12 yX12_readsWaits cX12_readsWaits 6 none 0 := ⟨tw_1753, tw_1755, se_X12_readsWaits, tw_1756, tw_13, by decide +kernel⟩
theorem dX12_readsLesson_214 : decode cX12_readsLesson 214 = .ok (.invokevirtual 300, 3) := by decide +kernel
theorem dX12_readsLesson_197 : decode cX12_readsLesson 197 = .ok (.if_icmp .ne 16, 3) := by decide +kernel
theorem dX12_readsLesson_200 : decode cX12_readsLesson 200 = .ok (.aload_n 0, 1) := by decide +kernel
theorem dX12_readsLesson_201 : decode cX12_readsLesson 201 = .ok (.getfield 77, 3) := by decide +kernel
theorem dX12_readsLesson_204 : decode cX12_readsLesson 204 = .ok (.iload_n 1, 1) := by decide +kernel
theorem dX12_readsLesson_205 : decode cX12_readsLesson 205 = .ok (.aload_n 0, 1) := by decide +kernel
theorem dX12_readsLesson_206 : decode cX12_readsLesson 206 = .ok (.iconst 1, 1) := by decide +kernel
theorem dX12_readsLesson_207 : decode cX12_readsLesson 207 = .ok (.bipush 6, 2) := by decide +kernel
theorem dX12_readsLesson_209 : decode cX12_readsLesson 209 = .ok (.invokevirtual 296, 3) := by decide +kernel
theorem dX12_readsLesson_212 : decode cX12_readsLesson 212 = .ok (.iastore, 1) := by decide +kernel
theorem dX12_readsLesson_181 : decode cX12_readsLesson 181 = .ok (.if_icmp .ne 7, 3) := by decide +kernel
theorem dX12_readsLesson_188 : decode cX12_readsLesson 188 = .ok (.iconst 1, 1) := by decide +kernel
theorem dX12_readsLesson_184 : decode cX12_readsLesson 184 = .ok (.iconst 0, 1) := by decide +kernel
theorem dX12_readsLesson_185 : decode cX12_readsLesson 185 = .ok (.goto 4, 3) := by decide +kernel
theorem dX12_readsLesson_164 : decode cX12_readsLesson 164 = .ok (.if_icmp .eq 9, 3) := by decide +kernel
theorem dX12_readsLesson_167 : decode cX12_readsLesson 167 = .ok (.iload_n 2, 1) := by decide +kernel
theorem dX12_readsLesson_168 : decode cX12_readsLesson 168 = .ok (.bipush 7, 2) := by decide +kernel
theorem dX12_readsLesson_170 : decode cX12_readsLesson 170 = .ok (.if_icmp .ne 47, 3) := by decide +kernel
theorem dX12_readsLesson_149 : decode cX12_readsLesson 149 = .ok (.ifCond .eq 10, 3) := by decide +kernel
theorem dX12_readsLesson_159 : decode cX12_readsLesson 159 = .ok (.iconst (-1), 1) := by decide +kernel
theorem dX12_readsLesson_152 : decode cX12_readsLesson 152 = .ok (.aload_n 0, 1) := by decide +kernel
theorem dX12_readsLesson_153 : decode cX12_readsLesson 153 = .ok (.invokevirtual 261, 3) := by decide +kernel
theorem dX12_readsLesson_156 : decode cX12_readsLesson 156 = .ok (.goto 4, 3) := by decide +kernel
theorem dX12_readsLesson_21 : decode cX12_readsLesson 21 = .ok (.return_, 1) := by decide +kernel
theorem dX12_readsLesson_6 : decode cX12_readsLesson 6 = .ok (.if_icmp .ne 8, 3) := by decide +kernel
theorem dX12_readsLesson_9 : decode cX12_readsLesson 9 = .ok (.aload_n 0, 1) := by decide +kernel
theorem dX12_readsLesson_10 : decode cX12_readsLesson 10 = .ok (.iconst 2, 1) := by decide +kernel
theorem dX12_readsLesson_11 : decode cX12_readsLesson 11 = .ok (.invokevirtual 243, 3) := by decide +kernel
theorem tw_1457 : (Jvm.Cond.fieldLink "MarshBellsModel" (310 : Nat) "MarshBellsModel" "toldOnce" "I") ∈ lw_tbl := tk_7 (List.mem_of_getElem? (i := 17) rfl)
theorem fl_X12_310 : kFL RX12 310 12 88 34 := ⟨RX12, TX12, rfl, by decide, inWX12, tw_1457⟩
theorem tw_1454 : (Jvm.Cond.fieldLink "MarshBellsModel" (319 : Nat) "MarshBellsModel" "newRules" "I") ∈ lw_tbl := tk_7 (List.mem_of_getElem? (i := 14) rfl)
theorem fl_X12_319 : kFL RX12 319 12 88 31 := ⟨RX12, TX12, rfl, by decide, inWX12, tw_1454⟩
theorem tw_1471 : (Jvm.Cond.fieldLink "MarshBellsModel" (92 : Nat) "MarshBellsModel" "newRuleAt" "[I") ∈ lw_tbl := tk_7 (List.mem_of_getElem? (i := 31) rfl)
theorem fl_X12_92 : kFL RX12 92 12 88 48 := ⟨RX12, TX12, rfl, by decide, inWX12, tw_1471⟩
theorem dX12_line_0 : decode cX12_line 0 = .ok (.aload_n 0, 1) := by decide +kernel
theorem dX12_line_1 : decode cX12_line 1 = .ok (.invokevirtual 261, 3) := by decide +kernel
theorem dX12_line_4 : decode cX12_line 4 = .ok (.istore_n 1, 1) := by decide +kernel
theorem dX12_line_5 : decode cX12_line 5 = .ok (.iload_n 1, 1) := by decide +kernel
theorem dX12_line_6 : decode cX12_line 6 = .ok (.iconst 5, 1) := by decide +kernel
theorem dX12_line_170 : decode cX12_line 170 = .ok (.aload_n 0, 1) := by decide +kernel
theorem dX12_line_171 : decode cX12_line 171 = .ok (.aload_n 0, 1) := by decide +kernel
theorem dX12_line_172 : decode cX12_line 172 = .ok (.bipush 59, 2) := by decide +kernel
theorem dX12_line_174 : decode cX12_line 174 = .ok (.invokevirtual 268, 3) := by decide +kernel
theorem tw_1807 : (Jvm.Cond.methodLink "MarshBellsModel" (325 : Nat) ({ cls := "MarshBellsModel", name := "need", desc := "(Z)V" } : Jvm.MethodName)) ∈ lw_tbl := tk_8 (List.mem_of_getElem? (i := 127) rfl)
theorem tw_1810 : (Jvm.Cond.code ({ cls := "MarshBellsModel", name := "need", desc := "(Z)V" } : Jvm.MethodName) prog_14_method_19_code (2 : Nat) (Option.none : Option Jvm.ClassFile.FieldType)) ∈ lw_tbl := tk_8 (List.mem_of_getElem? (i := 130) rfl)
theorem tw_1809 : (Jvm.Cond.instanceMethod ({ cls := "MarshBellsModel", name := "need", desc := "(Z)V" } : Jvm.MethodName)) ∈ lw_tbl := tk_8 (List.mem_of_getElem? (i := 129) rfl)
theorem se_X12_need : Cond.selects RX12 yX12_need yX12_need ∈ lw_tbl := List.mem_append_left _ (List.mem_of_getElem? (i := 130) rfl)
theorem li_X12_325 : kLV RX12 325 RX12 yX12_need cX12_need 2 none 1 := ⟨tw_1807, tw_1809, se_X12_need, tw_1810, tw_13, by decide +kernel⟩
theorem dX12_line_177 : decode cX12_line 177 = .ok (.invokevirtual 325, 3) := by decide +kernel
theorem dX12_line_180 : decode cX12_line 180 = .ok (.return_, 1) := by decide +kernel
theorem dX12_line_7 : decode cX12_line 7 = .ok (.if_icmp .ne 10, 3) := by decide +kernel
theorem dX12_line_17 : decode cX12_line 17 = .ok (.iload_n 1, 1) := by decide +kernel
theorem dX12_line_18 : decode cX12_line 18 = .ok (.bipush 11, 2) := by decide +kernel
theorem dX12_line_29 : decode cX12_line 29 = .ok (.aload_n 0, 1) := by decide +kernel
theorem dX12_line_30 : decode cX12_line 30 = .ok (.getfield 310, 3) := by decide +kernel
theorem dX12_line_33 : decode cX12_line 33 = .ok (.iload_n 1, 1) := by decide +kernel
theorem dX12_line_34 : decode cX12_line 34 = .ok (.ishr, 1) := by decide +kernel
theorem dX12_line_35 : decode cX12_line 35 = .ok (.iconst 1, 1) := by decide +kernel
theorem dX12_line_36 : decode cX12_line 36 = .ok (.iand, 1) := by decide +kernel
theorem dX12_line_37 : decode cX12_line 37 = .ok (.iconst 1, 1) := by decide +kernel
theorem dX12_line_46 : decode cX12_line 46 = .ok (.aload_n 0, 1) := by decide +kernel
theorem dX12_line_47 : decode cX12_line 47 = .ok (.invokevirtual 236, 3) := by decide +kernel
theorem dX12_line_50 : decode cX12_line 50 = .ok (.ifCond .ne 4, 3) := by decide +kernel
theorem dX12_line_54 : decode cX12_line 54 = .ok (.aload_n 0, 1) := by decide +kernel
theorem dX12_line_55 : decode cX12_line 55 = .ok (.dup, 1) := by decide +kernel
theorem dX12_line_56 : decode cX12_line 56 = .ok (.getfield 310, 3) := by decide +kernel
theorem dX12_line_59 : decode cX12_line 59 = .ok (.iconst 1, 1) := by decide +kernel
theorem dX12_line_60 : decode cX12_line 60 = .ok (.iload_n 1, 1) := by decide +kernel
theorem dX12_line_61 : decode cX12_line 61 = .ok (.ishl, 1) := by decide +kernel
theorem dX12_line_62 : decode cX12_line 62 = .ok (.ior, 1) := by decide +kernel
theorem ft_X12_34 : kFT 12 34 .int false RX12 := ⟨RX12, TX12, 88, tyX12, rfl, tyX12_ok, nmX12, rfl, by decide +kernel, rfl⟩
theorem dX12_line_63 : decode cX12_line 63 = .ok (.putfield 310, 3) := by decide +kernel
theorem dX12_line_66 : decode cX12_line 66 = .ok (.aload_n 0, 1) := by decide +kernel
theorem dX12_line_67 : decode cX12_line 67 = .ok (.invokevirtual 240, 3) := by decide +kernel
theorem dX12_line_70 : decode cX12_line 70 = .ok (.iload_n 1, 1) := by decide +kernel
theorem dX12_line_71 : decode cX12_line 71 = .ok (.bipush 11, 2) := by decide +kernel
theorem dX12_line_73 : decode cX12_line 73 = .ok (.if_icmp .ne 17, 3) := by decide +kernel
theorem dX12_line_90 : decode cX12_line 90 = .ok (.aload_n 0, 1) := by decide +kernel
theorem dX12_line_91 : decode cX12_line 91 = .ok (.aload_n 0, 1) := by decide +kernel
theorem dX12_line_92 : decode cX12_line 92 = .ok (.iconst 1, 1) := by decide +kernel
theorem dX12_line_93 : decode cX12_line 93 = .ok (.bipush 99, 2) := by decide +kernel
theorem dX12_line_95 : decode cX12_line 95 = .ok (.invokevirtual 296, 3) := by decide +kernel
theorem tw_1456 : (Jvm.Cond.fieldLink "MarshBellsModel" (316 : Nat) "MarshBellsModel" "newStair" "I") ∈ lw_tbl := tk_7 (List.mem_of_getElem? (i := 16) rfl)
theorem fl_X12_316 : kFL RX12 316 12 88 33 := ⟨RX12, TX12, rfl, by decide, inWX12, tw_1456⟩
theorem ft_X12_33 : kFT 12 33 .int false RX12 := ⟨RX12, TX12, 88, tyX12, rfl, tyX12_ok, nmX12, rfl, by decide +kernel, rfl⟩
theorem dX12_line_98 : decode cX12_line 98 = .ok (.putfield 316, 3) := by decide +kernel
theorem dX12_line_101 : decode cX12_line 101 = .ok (.goto 69, 3) := by decide +kernel
theorem dX12_line_76 : decode cX12_line 76 = .ok (.aload_n 0, 1) := by decide +kernel
theorem dX12_line_77 : decode cX12_line 77 = .ok (.aload_n 0, 1) := by decide +kernel
theorem dX12_line_78 : decode cX12_line 78 = .ok (.iconst 0, 1) := by decide +kernel
theorem dX12_line_79 : decode cX12_line 79 = .ok (.bipush 9, 2) := by decide +kernel
theorem dX12_line_81 : decode cX12_line 81 = .ok (.invokevirtual 296, 3) := by decide +kernel
theorem tw_1455 : (Jvm.Cond.fieldLink "MarshBellsModel" (313 : Nat) "MarshBellsModel" "newWalk" "I") ∈ lw_tbl := tk_7 (List.mem_of_getElem? (i := 15) rfl)
theorem fl_X12_313 : kFL RX12 313 12 88 32 := ⟨RX12, TX12, rfl, by decide, inWX12, tw_1455⟩
theorem ft_X12_32 : kFT 12 32 .int false RX12 := ⟨RX12, TX12, 88, tyX12, rfl, tyX12_ok, nmX12, rfl, by decide +kernel, rfl⟩
theorem dX12_line_84 : decode cX12_line 84 = .ok (.putfield 313, 3) := by decide +kernel
theorem dX12_line_87 : decode cX12_line 87 = .ok (.goto 83, 3) := by decide +kernel
theorem dX12_line_53 : decode cX12_line 53 = .ok (.return_, 1) := by decide +kernel
theorem dX12_line_38 : decode cX12_line 38 = .ok (.if_icmp .ne 8, 3) := by decide +kernel
theorem dX12_line_41 : decode cX12_line 41 = .ok (.aload_n 0, 1) := by decide +kernel
theorem dX12_line_42 : decode cX12_line 42 = .ok (.iconst 5, 1) := by decide +kernel
theorem dX12_line_43 : decode cX12_line 43 = .ok (.invokevirtual 243, 3) := by decide +kernel
theorem dX12_line_20 : decode cX12_line 20 = .ok (.if_icmp .eq 9, 3) := by decide +kernel
theorem dX12_line_23 : decode cX12_line 23 = .ok (.iload_n 1, 1) := by decide +kernel
theorem dX12_line_24 : decode cX12_line 24 = .ok (.bipush 12, 2) := by decide +kernel
theorem dX12_line_26 : decode cX12_line 26 = .ok (.if_icmp .ne 78, 3) := by decide +kernel
theorem dX12_line_104 : decode cX12_line 104 = .ok (.iload_n 1, 1) := by decide +kernel
theorem dX12_line_105 : decode cX12_line 105 = .ok (.bipush 13, 2) := by decide +kernel
theorem dX12_line_107 : decode cX12_line 107 = .ok (.if_icmp .ne 58, 3) := by decide +kernel
theorem dX12_line_165 : decode cX12_line 165 = .ok (.aload_n 0, 1) := by decide +kernel
theorem dX12_line_166 : decode cX12_line 166 = .ok (.iconst 1, 1) := by decide +kernel
theorem dX12_line_167 : decode cX12_line 167 = .ok (.invokevirtual 243, 3) := by decide +kernel
theorem dX12_line_110 : decode cX12_line 110 = .ok (.aload_n 0, 1) := by decide +kernel
theorem dX12_line_111 : decode cX12_line 111 = .ok (.getfield 319, 3) := by decide +kernel
theorem dX12_line_114 : decode cX12_line 114 = .ok (.iconst 4, 1) := by decide +kernel
theorem dX12_line_123 : decode cX12_line 123 = .ok (.aload_n 0, 1) := by decide +kernel
theorem dX12_line_124 : decode cX12_line 124 = .ok (.invokevirtual 236, 3) := by decide +kernel
theorem dX12_line_127 : decode cX12_line 127 = .ok (.ifCond .ne 4, 3) := by decide +kernel
theorem dX12_line_131 : decode cX12_line 131 = .ok (.aload_n 0, 1) := by decide +kernel
theorem dX12_line_132 : decode cX12_line 132 = .ok (.invokevirtual 240, 3) := by decide +kernel
theorem dX12_line_135 : decode cX12_line 135 = .ok (.aload_n 0, 1) := by decide +kernel
theorem dX12_line_136 : decode cX12_line 136 = .ok (.getfield 92, 3) := by decide +kernel
theorem dX12_line_139 : decode cX12_line 139 = .ok (.aload_n 0, 1) := by decide +kernel
theorem dX12_line_140 : decode cX12_line 140 = .ok (.getfield 319, 3) := by decide +kernel
theorem dX12_line_143 : decode cX12_line 143 = .ok (.aload_n 0, 1) := by decide +kernel
theorem dX12_line_144 : decode cX12_line 144 = .ok (.getfield 246, 3) := by decide +kernel
theorem dX12_line_147 : decode cX12_line 147 = .ok (.iastore, 1) := by decide +kernel
theorem dX12_line_148 : decode cX12_line 148 = .ok (.aload_n 0, 1) := by decide +kernel
theorem dX12_line_149 : decode cX12_line 149 = .ok (.dup, 1) := by decide +kernel
theorem dX12_line_150 : decode cX12_line 150 = .ok (.getfield 319, 3) := by decide +kernel
theorem dX12_line_153 : decode cX12_line 153 = .ok (.iconst 1, 1) := by decide +kernel
theorem dX12_line_154 : decode cX12_line 154 = .ok (.iadd, 1) := by decide +kernel
theorem ft_X12_31 : kFT 12 31 .int false RX12 := ⟨RX12, TX12, 88, tyX12, rfl, tyX12_ok, nmX12, rfl, by decide +kernel, rfl⟩
theorem dX12_line_155 : decode cX12_line 155 = .ok (.putfield 319, 3) := by decide +kernel
theorem dX12_line_158 : decode cX12_line 158 = .ok (.aload_n 0, 1) := by decide +kernel
theorem tw_1761 : (Jvm.Cond.methodLink "MarshBellsModel" (322 : Nat) ({ cls := "MarshBellsModel", name := "expression", desc := "()V" } : Jvm.MethodName)) ∈ lw_tbl := tk_8 (List.mem_of_getElem? (i := 81) rfl)
theorem tw_1764 : (Jvm.Cond.code ({ cls := "MarshBellsModel", name := "expression", desc := "()V" } : Jvm.MethodName) prog_14_method_31_code (3 : Nat) (Option.none : Option Jvm.ClassFile.FieldType)) ∈ lw_tbl := tk_8 (List.mem_of_getElem? (i := 84) rfl)
theorem tw_1763 : (Jvm.Cond.instanceMethod ({ cls := "MarshBellsModel", name := "expression", desc := "()V" } : Jvm.MethodName)) ∈ lw_tbl := tk_8 (List.mem_of_getElem? (i := 83) rfl)
theorem se_X12_expression : Cond.selects RX12 yX12_expression yX12_expression ∈ lw_tbl := List.mem_append_left _ (List.mem_of_getElem? (i := 120) rfl)
theorem li_X12_322 : kLV RX12 322 RX12 yX12_expression cX12_expression 3 none 0 := ⟨tw_1761, tw_1763, se_X12_expression, tw_1764, tw_13, by decide +kernel⟩
theorem dX12_line_159 : decode cX12_line 159 = .ok (.invokevirtual 322, 3) := by decide +kernel
theorem dX12_line_162 : decode cX12_line 162 = .ok (.goto 8, 3) := by decide +kernel
theorem dX12_line_130 : decode cX12_line 130 = .ok (.return_, 1) := by decide +kernel
theorem dX12_line_115 : decode cX12_line 115 = .ok (.if_icmp .ne 8, 3) := by decide +kernel
theorem dX12_line_118 : decode cX12_line 118 = .ok (.aload_n 0, 1) := by decide +kernel
theorem dX12_line_119 : decode cX12_line 119 = .ok (.iconst 2, 1) := by decide +kernel
theorem dX12_line_120 : decode cX12_line 120 = .ok (.invokevirtual 243, 3) := by decide +kernel
theorem dX12_line_10 : decode cX12_line 10 = .ok (.aload_n 0, 1) := by decide +kernel
theorem tw_1741 : (Jvm.Cond.methodLink "MarshBellsModel" (307 : Nat) ({ cls := "MarshBellsModel", name := "readsLesson", desc := "()V" } : Jvm.MethodName)) ∈ lw_tbl := tk_8 (List.mem_of_getElem? (i := 61) rfl)
theorem tw_1744 : (Jvm.Cond.code ({ cls := "MarshBellsModel", name := "readsLesson", desc := "()V" } : Jvm.MethodName) prog_14_method_34_code (3 : Nat) (Option.none : Option Jvm.ClassFile.FieldType)) ∈ lw_tbl := tk_8 (List.mem_of_getElem? (i := 64) rfl)
theorem tw_1743 : (Jvm.Cond.instanceMethod ({ cls := "MarshBellsModel", name := "readsLesson", desc := "()V" } : Jvm.MethodName)) ∈ lw_tbl := tk_8 (List.mem_of_getElem? (i := 63) rfl)
theorem se_X12_readsLesson : Cond.selects RX12 yX12_readsLesson yX12_readsLesson ∈ lw_tbl := List.mem_append_left _ (List.mem_of_getElem? (i := 115) rfl)
theorem li_X12_307 : kLV RX12 307 RX12 yX12_readsLesson cX12_readsLesson 3 none 0 := ⟨tw_1741, tw_1743, se_X12_readsLesson, tw_1744, tw_13, by decide +kernel⟩
theorem dX12_line_11 : decode cX12_line 11 = .ok (.invokevirtual 307, 3) := by decide +kernel
theorem dX12_line_14 : decode cX12_line 14 = .ok (.goto 156, 3) := by decide +kernel
theorem tw_1441 : (Jvm.Cond.fieldLink "MarshBellsModel" (180 : Nat) "MarshBellsModel" "taped" "I") ∈ lw_tbl := tk_7 (List.mem_of_getElem? (i := 1) rfl)
theorem fl_X12_180 : kFL RX12 180 12 88 18 := ⟨RX12, TX12, rfl, by decide, inWX12, tw_1441⟩
theorem tw_1423 : (Jvm.Cond.fieldLink "MarshBellsModel" (177 : Nat) "MarshBellsModel" "thrown" "I") ∈ lw_tbl := tk_6 (List.mem_of_getElem? (i := 223) rfl)
theorem fl_X12_177 : kFL RX12 177 12 88 0 := ⟨RX12, TX12, rfl, by decide, inWX12, tw_1423⟩
theorem dX12_right_0 : decode cX12_right 0 = .ok (.aload_n 0, 1) := by decide +kernel
theorem dX12_right_1 : decode cX12_right 1 = .ok (.getfield 177, 3) := by decide +kernel
theorem dX12_right_16 : decode cX12_right 16 = .ok (.aload_n 0, 1) := by decide +kernel
theorem dX12_right_17 : decode cX12_right 17 = .ok (.getfield 177, 3) := by decide +kernel
theorem dX12_right_28 : decode cX12_right 28 = .ok (.ireturn, 1) := by decide +kernel
theorem dX12_right_20 : decode cX12_right 20 = .ok (.ifCond .ne 7, 3) := by decide +kernel
theorem dX12_right_27 : decode cX12_right 27 = .ok (.iconst 0, 1) := by decide +kernel
theorem dX12_right_23 : decode cX12_right 23 = .ok (.iconst 1, 1) := by decide +kernel
theorem dX12_right_24 : decode cX12_right 24 = .ok (.goto 4, 3) := by decide +kernel
theorem dX12_right_4 : decode cX12_right 4 = .ok (.ifCond .ne 12, 3) := by decide +kernel
theorem dX12_right_7 : decode cX12_right 7 = .ok (.iload_n 1, 1) := by decide +kernel
theorem dX12_right_8 : decode cX12_right 8 = .ok (.ifCond .ne 8, 3) := by decide +kernel
theorem dX12_right_11 : decode cX12_right 11 = .ok (.aload_n 0, 1) := by decide +kernel
theorem dX12_right_12 : decode cX12_right 12 = .ok (.iload_n 2, 1) := by decide +kernel
theorem ft_X12_0 : kFT 12 0 .int false RX12 := ⟨RX12, TX12, 88, tyX12, rfl, tyX12_ok, nmX12, rfl, by decide +kernel, rfl⟩
theorem dX12_right_13 : decode cX12_right 13 = .ok (.putfield 177, 3) := by decide +kernel
theorem tw_1444 : (Jvm.Cond.fieldLink "MarshBellsModel" (59 : Nat) "MarshBellsModel" "refused" "[I") ∈ lw_tbl := tk_7 (List.mem_of_getElem? (i := 4) rfl)
theorem fl_X12_59 : kFL RX12 59 12 88 21 := ⟨RX12, TX12, rfl, by decide, inWX12, tw_1444⟩
theorem tw_1428 : (Jvm.Cond.fieldLink "MarshBellsModel" (16 : Nat) "MarshBellsModel" "from" "[I") ∈ lw_tbl := tk_6 (List.mem_of_getElem? (i := 228) rfl)
theorem fl_X12_16 : kFL RX12 16 12 88 5 := ⟨RX12, TX12, rfl, by decide, inWX12, tw_1428⟩
theorem dX12_copies_0 : decode cX12_copies 0 = .ok (.iconst 0, 1) := by decide +kernel
theorem dX12_copies_1 : decode cX12_copies 1 = .ok (.istore_n 3, 1) := by decide +kernel
theorem dX12_copies_2 : decode cX12_copies 2 = .ok (.iload_n 3, 1) := by decide +kernel
theorem dX12_copies_3 : decode cX12_copies 3 = .ok (.aload_n 1, 1) := by decide +kernel
theorem dX12_copies_4 : decode cX12_copies 4 = .ok (.arraylength, 1) := by decide +kernel
theorem dX12_copies_5 : decode cX12_copies 5 = .ok (.if_icmp .ge 15, 3) := by decide +kernel
theorem dX12_copies_20 : decode cX12_copies 20 = .ok (.return_, 1) := by decide +kernel
theorem dX12_copies_8 : decode cX12_copies 8 = .ok (.aload_n 2, 1) := by decide +kernel
theorem dX12_copies_9 : decode cX12_copies 9 = .ok (.iload_n 3, 1) := by decide +kernel
theorem dX12_copies_10 : decode cX12_copies 10 = .ok (.aload_n 1, 1) := by decide +kernel
theorem dX12_copies_11 : decode cX12_copies 11 = .ok (.iload_n 3, 1) := by decide +kernel
theorem dX12_copies_12 : decode cX12_copies 12 = .ok (.iaload, 1) := by decide +kernel
theorem dX12_copies_13 : decode cX12_copies 13 = .ok (.iastore, 1) := by decide +kernel
theorem dX12_copies_14 : decode cX12_copies 14 = .ok (.iinc 3 1, 3) := by decide +kernel
theorem dX12_copies_17 : decode cX12_copies 17 = .ok (.goto (-15), 3) := by decide +kernel
theorem tw_1429 : (Jvm.Cond.fieldLink "MarshBellsModel" (20 : Nat) "MarshBellsModel" "to" "[I") ∈ lw_tbl := tk_6 (List.mem_of_getElem? (i := 229) rfl)
theorem fl_X12_20 : kFL RX12 20 12 88 6 := ⟨RX12, TX12, rfl, by decide, inWX12, tw_1429⟩
theorem tw_1430 : (Jvm.Cond.fieldLink "MarshBellsModel" (23 : Nat) "MarshBellsModel" "least" "[I") ∈ lw_tbl := tk_6 (List.mem_of_getElem? (i := 230) rfl)
theorem fl_X12_23 : kFL RX12 23 12 88 7 := ⟨RX12, TX12, rfl, by decide, inWX12, tw_1430⟩
theorem tw_1431 : (Jvm.Cond.fieldLink "MarshBellsModel" (26 : Nat) "MarshBellsModel" "people" "[I") ∈ lw_tbl := tk_6 (List.mem_of_getElem? (i := 231) rfl)
theorem fl_X12_26 : kFL RX12 26 12 88 8 := ⟨RX12, TX12, rfl, by decide, inWX12, tw_1431⟩
theorem tw_1432 : (Jvm.Cond.fieldLink "MarshBellsModel" (29 : Nat) "MarshBellsModel" "kind" "[I") ∈ lw_tbl := tk_6 (List.mem_of_getElem? (i := 232) rfl)
theorem fl_X12_29 : kFL RX12 29 12 88 9 := ⟨RX12, TX12, rfl, by decide, inWX12, tw_1432⟩
theorem tw_1433 : (Jvm.Cond.fieldLink "MarshBellsModel" (32 : Nat) "MarshBellsModel" "some" "[I") ∈ lw_tbl := tk_6 (List.mem_of_getElem? (i := 233) rfl)
theorem fl_X12_32 : kFL RX12 32 12 88 10 := ⟨RX12, TX12, rfl, by decide, inWX12, tw_1433⟩
theorem tw_1434 : (Jvm.Cond.fieldLink "MarshBellsModel" (35 : Nat) "MarshBellsModel" "maybe" "[I") ∈ lw_tbl := tk_6 (List.mem_of_getElem? (i := 234) rfl)
theorem fl_X12_35 : kFL RX12 35 12 88 11 := ⟨RX12, TX12, rfl, by decide, inWX12, tw_1434⟩
theorem tw_1435 : (Jvm.Cond.fieldLink "MarshBellsModel" (38 : Nat) "MarshBellsModel" "waitsMany" "[I") ∈ lw_tbl := tk_6 (List.mem_of_getElem? (i := 235) rfl)
theorem fl_X12_38 : kFL RX12 38 12 88 12 := ⟨RX12, TX12, rfl, by decide, inWX12, tw_1435⟩
theorem tw_1436 : (Jvm.Cond.fieldLink "MarshBellsModel" (41 : Nat) "MarshBellsModel" "waitsFor0" "[I") ∈ lw_tbl := tk_6 (List.mem_of_getElem? (i := 236) rfl)
theorem fl_X12_41 : kFL RX12 41 12 88 13 := ⟨RX12, TX12, rfl, by decide, inWX12, tw_1436⟩
theorem tw_1439 : (Jvm.Cond.fieldLink "MarshBellsModel" (50 : Nat) "MarshBellsModel" "now" "[I") ∈ lw_tbl := tk_6 (List.mem_of_getElem? (i := 239) rfl)
theorem fl_X12_50 : kFL RX12 50 12 88 16 := ⟨RX12, TX12, rfl, by decide, inWX12, tw_1439⟩
theorem tw_1437 : (Jvm.Cond.fieldLink "MarshBellsModel" (44 : Nat) "MarshBellsModel" "ruleAt" "[I") ∈ lw_tbl := tk_6 (List.mem_of_getElem? (i := 237) rfl)
theorem fl_X12_44 : kFL RX12 44 12 88 14 := ⟨RX12, TX12, rfl, by decide, inWX12, tw_1437⟩
theorem tw_1438 : (Jvm.Cond.fieldLink "MarshBellsModel" (47 : Nat) "MarshBellsModel" "code" "[I") ∈ lw_tbl := tk_6 (List.mem_of_getElem? (i := 238) rfl)
theorem fl_X12_47 : kFL RX12 47 12 88 15 := ⟨RX12, TX12, rfl, by decide, inWX12, tw_1438⟩
theorem dX12_house_0 : decode cX12_house 0 = .ok (.aload_n 0, 1) := by decide +kernel
theorem dX12_house_1 : decode cX12_house 1 = .ok (.iconst 0, 1) := by decide +kernel
theorem dX12_house_2 : decode cX12_house 2 = .ok (.putfield 177, 3) := by decide +kernel
theorem dX12_house_5 : decode cX12_house 5 = .ok (.aload_n 0, 1) := by decide +kernel
theorem dX12_house_6 : decode cX12_house 6 = .ok (.iload_n 1, 1) := by decide +kernel
theorem dX12_house_23 : decode cX12_house 23 = .ok (.iconst 1, 1) := by decide +kernel
theorem tw_1704 : (Jvm.Cond.methodLink "MarshBellsModel" (328 : Nat) ({ cls := "MarshBellsModel", name := "right", desc := "(ZI)Z" } : Jvm.MethodName)) ∈ lw_tbl := tk_8 (List.mem_of_getElem? (i := 24) rfl)
theorem tw_1707 : (Jvm.Cond.code ({ cls := "MarshBellsModel", name := "right", desc := "(ZI)Z" } : Jvm.MethodName) prog_14_method_3_code (3 : Nat) (Option.some Jvm.ClassFile.FieldType.boolean)) ∈ lw_tbl := tk_8 (List.mem_of_getElem? (i := 27) rfl)
theorem tw_1706 : (Jvm.Cond.instanceMethod ({ cls := "MarshBellsModel", name := "right", desc := "(ZI)Z" } : Jvm.MethodName)) ∈ lw_tbl := tk_8 (List.mem_of_getElem? (i := 26) rfl)
theorem se_X12_right : Cond.selects RX12 yX12_right yX12_right ∈ lw_tbl := List.mem_append_left _ (List.mem_of_getElem? (i := 109) rfl)
theorem li_X12_328 : kLV RX12 328 RX12 yX12_right cX12_right 3 (some .boolean) 2 := ⟨tw_1704, tw_1706, se_X12_right, tw_1707, tw_13, by decide +kernel⟩
theorem dX12_house_24 : decode cX12_house 24 = .ok (.invokevirtual 328, 3) := by decide +kernel
theorem dX12_house_27 : decode cX12_house 27 = .ok (.ifCond .ne 5, 3) := by decide +kernel
theorem dX12_house_32 : decode cX12_house 32 = .ok (.aload_n 0, 1) := by decide +kernel
theorem dX12_house_33 : decode cX12_house 33 = .ok (.iconst 0, 1) := by decide +kernel
theorem ft_X12_18 : kFT 12 18 .int false RX12 := ⟨RX12, TX12, 88, tyX12, rfl, tyX12_ok, nmX12, rfl, by decide +kernel, rfl⟩
theorem dX12_house_34 : decode cX12_house 34 = .ok (.putfield 180, 3) := by decide +kernel
theorem dX12_house_37 : decode cX12_house 37 = .ok (.aload_n 0, 1) := by decide +kernel
theorem dX12_house_38 : decode cX12_house 38 = .ok (.iconst (-1), 1) := by decide +kernel
theorem dX12_house_39 : decode cX12_house 39 = .ok (.putfield 56, 3) := by decide +kernel
theorem dX12_house_42 : decode cX12_house 42 = .ok (.aload_n 0, 1) := by decide +kernel
theorem dX12_house_43 : decode cX12_house 43 = .ok (.iconst 0, 1) := by decide +kernel
theorem dX12_house_44 : decode cX12_house 44 = .ok (.putfield 233, 3) := by decide +kernel
theorem dX12_house_47 : decode cX12_house 47 = .ok (.aload_n 0, 1) := by decide +kernel
theorem dX12_house_48 : decode cX12_house 48 = .ok (.iload_n 1, 1) := by decide +kernel
theorem ft_X12_22 : kFT 12 22 .int false RX12 := ⟨RX12, TX12, 88, tyX12, rfl, tyX12_ok, nmX12, rfl, by decide +kernel, rfl⟩
theorem dX12_house_49 : decode cX12_house 49 = .ok (.putfield 187, 3) := by decide +kernel
theorem dX12_house_52 : decode cX12_house 52 = .ok (.aload_n 0, 1) := by decide +kernel
theorem dX12_house_53 : decode cX12_house 53 = .ok (.iconst 0, 1) := by decide +kernel
theorem dX12_house_54 : decode cX12_house 54 = .ok (.putfield 190, 3) := by decide +kernel
theorem dX12_house_57 : decode cX12_house 57 = .ok (.aload_n 0, 1) := by decide +kernel
theorem dX12_house_58 : decode cX12_house 58 = .ok (.iconst 0, 1) := by decide +kernel
theorem dX12_house_59 : decode cX12_house 59 = .ok (.putfield 293, 3) := by decide +kernel
theorem dX12_house_62 : decode cX12_house 62 = .ok (.aload_n 0, 1) := by decide +kernel
theorem dX12_house_63 : decode cX12_house 63 = .ok (.iconst 0, 1) := by decide +kernel
theorem dX12_house_64 : decode cX12_house 64 = .ok (.putfield 319, 3) := by decide +kernel
theorem dX12_house_67 : decode cX12_house 67 = .ok (.aload_n 0, 1) := by decide +kernel
theorem dX12_house_68 : decode cX12_house 68 = .ok (.iconst 1, 1) := by decide +kernel
theorem dX12_house_69 : decode cX12_house 69 = .ok (.putfield 313, 3) := by decide +kernel
theorem dX12_house_72 : decode cX12_house 72 = .ok (.aload_n 0, 1) := by decide +kernel
theorem dX12_house_73 : decode cX12_house 73 = .ok (.bipush 99, 2) := by decide +kernel
theorem dX12_house_75 : decode cX12_house 75 = .ok (.putfield 316, 3) := by decide +kernel
theorem dX12_house_78 : decode cX12_house 78 = .ok (.aload_n 0, 1) := by decide +kernel
theorem dX12_house_79 : decode cX12_house 79 = .ok (.iconst 0, 1) := by decide +kernel
theorem dX12_house_80 : decode cX12_house 80 = .ok (.putfield 310, 3) := by decide +kernel
theorem dX12_house_83 : decode cX12_house 83 = .ok (.aload_n 0, 1) := by decide +kernel
theorem dX12_house_84 : decode cX12_house 84 = .ok (.iconst 0, 1) := by decide +kernel
theorem dX12_house_85 : decode cX12_house 85 = .ok (.putfield 246, 3) := by decide +kernel
theorem dX12_house_88 : decode cX12_house 88 = .ok (.aload_n 0, 1) := by decide +kernel
theorem dX12_house_89 : decode cX12_house 89 = .ok (.invokevirtual 240, 3) := by decide +kernel
theorem dX12_house_92 : decode cX12_house 92 = .ok (.aload_n 0, 1) := by decide +kernel
theorem dX12_house_93 : decode cX12_house 93 = .ok (.invokevirtual 236, 3) := by decide +kernel
theorem dX12_house_113 : decode cX12_house 113 = .ok (.aload_n 0, 1) := by decide +kernel
theorem dX12_house_114 : decode cX12_house 114 = .ok (.invokevirtual 236, 3) := by decide +kernel
theorem dX12_house_117 : decode cX12_house 117 = .ok (.ifCond .ne 18, 3) := by decide +kernel
theorem dX12_house_135 : decode cX12_house 135 = .ok (.aload_n 0, 1) := by decide +kernel
theorem dX12_house_136 : decode cX12_house 136 = .ok (.aload_n 0, 1) := by decide +kernel
theorem dX12_house_137 : decode cX12_house 137 = .ok (.getfield 293, 3) := by decide +kernel
theorem tw_1424 : (Jvm.Cond.fieldLink "MarshBellsModel" (335 : Nat) "MarshBellsModel" "lessons" "I") ∈ lw_tbl := tk_6 (List.mem_of_getElem? (i := 224) rfl)
theorem fl_X12_335 : kFL RX12 335 12 88 1 := ⟨RX12, TX12, rfl, by decide, inWX12, tw_1424⟩
theorem ft_X12_1 : kFT 12 1 .int false RX12 := ⟨RX12, TX12, 88, tyX12, rfl, tyX12_ok, nmX12, rfl, by decide +kernel, rfl⟩
theorem dX12_house_140 : decode cX12_house 140 = .ok (.putfield 335, 3) := by decide +kernel
theorem dX12_house_143 : decode cX12_house 143 = .ok (.aload_n 0, 1) := by decide +kernel
theorem dX12_house_144 : decode cX12_house 144 = .ok (.aload_n 0, 1) := by decide +kernel
theorem dX12_house_145 : decode cX12_house 145 = .ok (.getfield 319, 3) := by decide +kernel
theorem tw_1425 : (Jvm.Cond.fieldLink "MarshBellsModel" (338 : Nat) "MarshBellsModel" "rules" "I") ∈ lw_tbl := tk_6 (List.mem_of_getElem? (i := 225) rfl)
theorem fl_X12_338 : kFL RX12 338 12 88 2 := ⟨RX12, TX12, rfl, by decide, inWX12, tw_1425⟩
theorem ft_X12_2 : kFT 12 2 .int false RX12 := ⟨RX12, TX12, 88, tyX12, rfl, tyX12_ok, nmX12, rfl, by decide +kernel, rfl⟩
theorem dX12_house_148 : decode cX12_house 148 = .ok (.putfield 338, 3) := by decide +kernel
theorem dX12_house_151 : decode cX12_house 151 = .ok (.aload_n 0, 1) := by decide +kernel
theorem dX12_house_152 : decode cX12_house 152 = .ok (.aload_n 0, 1) := by decide +kernel
theorem dX12_house_153 : decode cX12_house 153 = .ok (.getfield 313, 3) := by decide +kernel
theorem tw_1426 : (Jvm.Cond.fieldLink "MarshBellsModel" (7 : Nat) "MarshBellsModel" "walk" "I") ∈ lw_tbl := tk_6 (List.mem_of_getElem? (i := 226) rfl)
theorem fl_X12_7 : kFL RX12 7 12 88 3 := ⟨RX12, TX12, rfl, by decide, inWX12, tw_1426⟩
theorem ft_X12_3 : kFT 12 3 .int false RX12 := ⟨RX12, TX12, 88, tyX12, rfl, tyX12_ok, nmX12, rfl, by decide +kernel, rfl⟩
theorem dX12_house_156 : decode cX12_house 156 = .ok (.putfield 7, 3) := by decide +kernel
theorem dX12_house_159 : decode cX12_house 159 = .ok (.aload_n 0, 1) := by decide +kernel
theorem dX12_house_160 : decode cX12_house 160 = .ok (.aload_n 0, 1) := by decide +kernel
theorem dX12_house_161 : decode cX12_house 161 = .ok (.getfield 316, 3) := by decide +kernel
theorem tw_1427 : (Jvm.Cond.fieldLink "MarshBellsModel" (13 : Nat) "MarshBellsModel" "stair" "I") ∈ lw_tbl := tk_6 (List.mem_of_getElem? (i := 227) rfl)
theorem fl_X12_13 : kFL RX12 13 12 88 4 := ⟨RX12, TX12, rfl, by decide, inWX12, tw_1427⟩
theorem ft_X12_4 : kFT 12 4 .int false RX12 := ⟨RX12, TX12, 88, tyX12, rfl, tyX12_ok, nmX12, rfl, by decide +kernel, rfl⟩
theorem dX12_house_164 : decode cX12_house 164 = .ok (.putfield 13, 3) := by decide +kernel
theorem dX12_house_167 : decode cX12_house 167 = .ok (.aload_n 0, 1) := by decide +kernel
theorem dX12_house_168 : decode cX12_house 168 = .ok (.aload_n 0, 1) := by decide +kernel
theorem dX12_house_169 : decode cX12_house 169 = .ok (.getfield 62, 3) := by decide +kernel
theorem dX12_house_172 : decode cX12_house 172 = .ok (.aload_n 0, 1) := by decide +kernel
theorem dX12_house_173 : decode cX12_house 173 = .ok (.getfield 16, 3) := by decide +kernel
theorem tw_1811 : (Jvm.Cond.methodLink "MarshBellsModel" (341 : Nat) ({ cls := "MarshBellsModel", name := "copies", desc := "([I[I)V" } : Jvm.MethodName)) ∈ lw_tbl := tk_8 (List.mem_of_getElem? (i := 131) rfl)
theorem tw_1814 : (Jvm.Cond.code ({ cls := "MarshBellsModel", name := "copies", desc := "([I[I)V" } : Jvm.MethodName) prog_14_method_6_code (4 : Nat) (Option.none : Option Jvm.ClassFile.FieldType)) ∈ lw_tbl := tk_8 (List.mem_of_getElem? (i := 134) rfl)
theorem tw_1813 : (Jvm.Cond.instanceMethod ({ cls := "MarshBellsModel", name := "copies", desc := "([I[I)V" } : Jvm.MethodName)) ∈ lw_tbl := tk_8 (List.mem_of_getElem? (i := 133) rfl)
theorem se_X12_copies : Cond.selects RX12 yX12_copies yX12_copies ∈ lw_tbl := List.mem_append_left _ (List.mem_of_getElem? (i := 131) rfl)
theorem li_X12_341 : kLV RX12 341 RX12 yX12_copies cX12_copies 4 none 2 := ⟨tw_1811, tw_1813, se_X12_copies, tw_1814, tw_13, by decide +kernel⟩
theorem dX12_house_176 : decode cX12_house 176 = .ok (.invokevirtual 341, 3) := by decide +kernel
theorem dX12_house_179 : decode cX12_house 179 = .ok (.aload_n 0, 1) := by decide +kernel
theorem dX12_house_180 : decode cX12_house 180 = .ok (.aload_n 0, 1) := by decide +kernel
theorem dX12_house_181 : decode cX12_house 181 = .ok (.getfield 65, 3) := by decide +kernel
theorem dX12_house_184 : decode cX12_house 184 = .ok (.aload_n 0, 1) := by decide +kernel
theorem dX12_house_185 : decode cX12_house 185 = .ok (.getfield 20, 3) := by decide +kernel
theorem dX12_house_188 : decode cX12_house 188 = .ok (.invokevirtual 341, 3) := by decide +kernel
theorem dX12_house_191 : decode cX12_house 191 = .ok (.aload_n 0, 1) := by decide +kernel
theorem dX12_house_192 : decode cX12_house 192 = .ok (.aload_n 0, 1) := by decide +kernel
theorem dX12_house_193 : decode cX12_house 193 = .ok (.getfield 68, 3) := by decide +kernel
theorem dX12_house_196 : decode cX12_house 196 = .ok (.aload_n 0, 1) := by decide +kernel
theorem dX12_house_197 : decode cX12_house 197 = .ok (.getfield 23, 3) := by decide +kernel
theorem dX12_house_200 : decode cX12_house 200 = .ok (.invokevirtual 341, 3) := by decide +kernel
theorem dX12_house_203 : decode cX12_house 203 = .ok (.aload_n 0, 1) := by decide +kernel
theorem dX12_house_204 : decode cX12_house 204 = .ok (.aload_n 0, 1) := by decide +kernel
theorem dX12_house_205 : decode cX12_house 205 = .ok (.getfield 71, 3) := by decide +kernel
theorem dX12_house_208 : decode cX12_house 208 = .ok (.aload_n 0, 1) := by decide +kernel
theorem dX12_house_209 : decode cX12_house 209 = .ok (.getfield 26, 3) := by decide +kernel
theorem dX12_house_212 : decode cX12_house 212 = .ok (.invokevirtual 341, 3) := by decide +kernel
theorem dX12_house_215 : decode cX12_house 215 = .ok (.aload_n 0, 1) := by decide +kernel
theorem dX12_house_216 : decode cX12_house 216 = .ok (.aload_n 0, 1) := by decide +kernel
theorem dX12_house_217 : decode cX12_house 217 = .ok (.getfield 74, 3) := by decide +kernel
theorem dX12_house_220 : decode cX12_house 220 = .ok (.aload_n 0, 1) := by decide +kernel
theorem dX12_house_221 : decode cX12_house 221 = .ok (.getfield 29, 3) := by decide +kernel
theorem dX12_house_224 : decode cX12_house 224 = .ok (.invokevirtual 341, 3) := by decide +kernel
theorem dX12_house_227 : decode cX12_house 227 = .ok (.aload_n 0, 1) := by decide +kernel
theorem dX12_house_228 : decode cX12_house 228 = .ok (.aload_n 0, 1) := by decide +kernel
theorem dX12_house_229 : decode cX12_house 229 = .ok (.getfield 77, 3) := by decide +kernel
theorem dX12_house_232 : decode cX12_house 232 = .ok (.aload_n 0, 1) := by decide +kernel
theorem dX12_house_233 : decode cX12_house 233 = .ok (.getfield 32, 3) := by decide +kernel
theorem dX12_house_236 : decode cX12_house 236 = .ok (.invokevirtual 341, 3) := by decide +kernel
theorem dX12_house_239 : decode cX12_house 239 = .ok (.aload_n 0, 1) := by decide +kernel
theorem dX12_house_240 : decode cX12_house 240 = .ok (.aload_n 0, 1) := by decide +kernel
theorem dX12_house_241 : decode cX12_house 241 = .ok (.getfield 80, 3) := by decide +kernel
theorem dX12_house_244 : decode cX12_house 244 = .ok (.aload_n 0, 1) := by decide +kernel
theorem dX12_house_245 : decode cX12_house 245 = .ok (.getfield 35, 3) := by decide +kernel
theorem dX12_house_248 : decode cX12_house 248 = .ok (.invokevirtual 341, 3) := by decide +kernel
theorem dX12_house_251 : decode cX12_house 251 = .ok (.aload_n 0, 1) := by decide +kernel
theorem dX12_house_252 : decode cX12_house 252 = .ok (.aload_n 0, 1) := by decide +kernel
theorem dX12_house_253 : decode cX12_house 253 = .ok (.getfield 83, 3) := by decide +kernel
theorem dX12_house_256 : decode cX12_house 256 = .ok (.aload_n 0, 1) := by decide +kernel
theorem dX12_house_257 : decode cX12_house 257 = .ok (.getfield 38, 3) := by decide +kernel
theorem dX12_house_260 : decode cX12_house 260 = .ok (.invokevirtual 341, 3) := by decide +kernel
theorem dX12_house_263 : decode cX12_house 263 = .ok (.aload_n 0, 1) := by decide +kernel
theorem dX12_house_264 : decode cX12_house 264 = .ok (.aload_n 0, 1) := by decide +kernel
theorem dX12_house_265 : decode cX12_house 265 = .ok (.getfield 86, 3) := by decide +kernel
theorem dX12_house_268 : decode cX12_house 268 = .ok (.aload_n 0, 1) := by decide +kernel
theorem dX12_house_269 : decode cX12_house 269 = .ok (.getfield 41, 3) := by decide +kernel
theorem dX12_house_272 : decode cX12_house 272 = .ok (.invokevirtual 341, 3) := by decide +kernel
theorem dX12_house_275 : decode cX12_house 275 = .ok (.aload_n 0, 1) := by decide +kernel
theorem dX12_house_276 : decode cX12_house 276 = .ok (.aload_n 0, 1) := by decide +kernel
theorem dX12_house_277 : decode cX12_house 277 = .ok (.getfield 89, 3) := by decide +kernel
theorem dX12_house_280 : decode cX12_house 280 = .ok (.aload_n 0, 1) := by decide +kernel
theorem dX12_house_281 : decode cX12_house 281 = .ok (.getfield 50, 3) := by decide +kernel
theorem dX12_house_284 : decode cX12_house 284 = .ok (.invokevirtual 341, 3) := by decide +kernel
theorem dX12_house_287 : decode cX12_house 287 = .ok (.aload_n 0, 1) := by decide +kernel
theorem dX12_house_288 : decode cX12_house 288 = .ok (.aload_n 0, 1) := by decide +kernel
theorem dX12_house_289 : decode cX12_house 289 = .ok (.getfield 92, 3) := by decide +kernel
theorem dX12_house_292 : decode cX12_house 292 = .ok (.aload_n 0, 1) := by decide +kernel
theorem dX12_house_293 : decode cX12_house 293 = .ok (.getfield 44, 3) := by decide +kernel
theorem dX12_house_296 : decode cX12_house 296 = .ok (.invokevirtual 341, 3) := by decide +kernel
theorem dX12_house_299 : decode cX12_house 299 = .ok (.aload_n 0, 1) := by decide +kernel
theorem dX12_house_300 : decode cX12_house 300 = .ok (.aload_n 0, 1) := by decide +kernel
theorem dX12_house_301 : decode cX12_house 301 = .ok (.getfield 95, 3) := by decide +kernel
theorem dX12_house_304 : decode cX12_house 304 = .ok (.aload_n 0, 1) := by decide +kernel
theorem dX12_house_305 : decode cX12_house 305 = .ok (.getfield 47, 3) := by decide +kernel
theorem dX12_house_308 : decode cX12_house 308 = .ok (.invokevirtual 341, 3) := by decide +kernel
theorem dX12_house_311 : decode cX12_house 311 = .ok (.aload_n 0, 1) := by decide +kernel
theorem dX12_house_312 : decode cX12_house 312 = .ok (.iconst (-1), 1) := by decide +kernel
theorem tw_1475 : (Jvm.Cond.fieldLink "MarshBellsModel" (105 : Nat) "MarshBellsModel" "inForce" "I") ∈ lw_tbl := tk_7 (List.mem_of_getElem? (i := 35) rfl)
theorem fl_X12_105 : kFL RX12 105 12 88 52 := ⟨RX12, TX12, rfl, by decide, inWX12, tw_1475⟩
theorem ft_X12_52 : kFT 12 52 .int false RX12 := ⟨RX12, TX12, 88, tyX12, rfl, tyX12_ok, nmX12, rfl, by decide +kernel, rfl⟩
theorem dX12_house_313 : decode cX12_house 313 = .ok (.putfield 105, 3) := by decide +kernel
theorem dX12_house_316 : decode cX12_house 316 = .ok (.aload_n 0, 1) := by decide +kernel
theorem dX12_house_317 : decode cX12_house 317 = .ok (.iconst 0, 1) := by decide +kernel
theorem tw_1485 : (Jvm.Cond.fieldLink "MarshBellsModel" (345 : Nat) "MarshBellsModel" "acts" "I") ∈ lw_tbl := tk_7 (List.mem_of_getElem? (i := 45) rfl)
theorem fl_X12_345 : kFL RX12 345 12 88 62 := ⟨RX12, TX12, rfl, by decide, inWX12, tw_1485⟩
theorem ft_X12_62 : kFT 12 62 .int false RX12 := ⟨RX12, TX12, 88, tyX12, rfl, tyX12_ok, nmX12, rfl, by decide +kernel, rfl⟩
theorem dX12_house_318 : decode cX12_house 318 = .ok (.putfield 345, 3) := by decide +kernel
theorem dX12_house_321 : decode cX12_house 321 = .ok (.aload_n 0, 1) := by decide +kernel
theorem dX12_house_322 : decode cX12_house 322 = .ok (.iconst 0, 1) := by decide +kernel
theorem tw_1496 : (Jvm.Cond.fieldLink "MarshBellsModel" (348 : Nat) "MarshBellsModel" "seenMany" "I") ∈ lw_tbl := tk_7 (List.mem_of_getElem? (i := 56) rfl)
theorem fl_X12_348 : kFL RX12 348 12 88 73 := ⟨RX12, TX12, rfl, by decide, inWX12, tw_1496⟩
theorem ft_X12_73 : kFT 12 73 .int false RX12 := ⟨RX12, TX12, 88, tyX12, rfl, tyX12_ok, nmX12, rfl, by decide +kernel, rfl⟩
theorem dX12_house_323 : decode cX12_house 323 = .ok (.putfield 348, 3) := by decide +kernel
theorem dX12_house_326 : decode cX12_house 326 = .ok (.aload_n 0, 1) := by decide +kernel
theorem dX12_house_327 : decode cX12_house 327 = .ok (.iconst 0, 1) := by decide +kernel
theorem tw_1488 : (Jvm.Cond.fieldLink "MarshBellsModel" (351 : Nat) "MarshBellsModel" "hasGaps" "Z") ∈ lw_tbl := tk_7 (List.mem_of_getElem? (i := 48) rfl)
theorem fl_X12_351 : kFL RX12 351 12 88 65 := ⟨RX12, TX12, rfl, by decide, inWX12, tw_1488⟩
theorem ft_X12_65 : kFT 12 65 .boolean false RX12 := ⟨RX12, TX12, 88, tyX12, rfl, tyX12_ok, nmX12, rfl, by decide +kernel, rfl⟩
theorem dX12_house_328 : decode cX12_house 328 = .ok (.putfield 351, 3) := by decide +kernel
theorem dX12_house_331 : decode cX12_house 331 = .ok (.aload_n 0, 1) := by decide +kernel
theorem dX12_house_332 : decode cX12_house 332 = .ok (.iconst 0, 1) := by decide +kernel
theorem tw_1504 : (Jvm.Cond.fieldLink "MarshBellsModel" (355 : Nat) "MarshBellsModel" "hasImage" "Z") ∈ lw_tbl := tk_7 (List.mem_of_getElem? (i := 64) rfl)
theorem fl_X12_355 : kFL RX12 355 12 88 81 := ⟨RX12, TX12, rfl, by decide, inWX12, tw_1504⟩
theorem ft_X12_81 : kFT 12 81 .boolean false RX12 := ⟨RX12, TX12, 88, tyX12, rfl, tyX12_ok, nmX12, rfl, by decide +kernel, rfl⟩
theorem dX12_house_333 : decode cX12_house 333 = .ok (.putfield 355, 3) := by decide +kernel
theorem dX12_house_336 : decode cX12_house 336 = .ok (.iconst 0, 1) := by decide +kernel
theorem dX12_house_337 : decode cX12_house 337 = .ok (.ireturn, 1) := by decide +kernel
theorem dX12_house_120 : decode cX12_house 120 = .ok (.aload_n 0, 1) := by decide +kernel
theorem dX12_house_121 : decode cX12_house 121 = .ok (.getfield 59, 3) := by decide +kernel
theorem dX12_house_124 : decode cX12_house 124 = .ok (.iconst 0, 1) := by decide +kernel
theorem dX12_house_125 : decode cX12_house 125 = .ok (.dup2, 1) := by decide +kernel
theorem dX12_house_126 : decode cX12_house 126 = .ok (.iaload, 1) := by decide +kernel
theorem dX12_house_127 : decode cX12_house 127 = .ok (.iconst 1, 1) := by decide +kernel
theorem dX12_house_128 : decode cX12_house 128 = .ok (.iadd, 1) := by decide +kernel
theorem dX12_house_129 : decode cX12_house 129 = .ok (.iastore, 1) := by decide +kernel
theorem dX12_house_130 : decode cX12_house 130 = .ok (.aload_n 0, 1) := by decide +kernel
theorem dX12_house_131 : decode cX12_house 131 = .ok (.getfield 233, 3) := by decide +kernel
theorem dX12_house_134 : decode cX12_house 134 = .ok (.ireturn, 1) := by decide +kernel
theorem dX12_house_96 : decode cX12_house 96 = .ok (.ifCond .eq 17, 3) := by decide +kernel
theorem dX12_house_99 : decode cX12_house 99 = .ok (.aload_n 0, 1) := by decide +kernel
theorem dX12_house_100 : decode cX12_house 100 = .ok (.getfield 210, 3) := by decide +kernel
theorem dX12_house_103 : decode cX12_house 103 = .ok (.ifCond .eq 10, 3) := by decide +kernel
theorem dX12_house_106 : decode cX12_house 106 = .ok (.aload_n 0, 1) := by decide +kernel
theorem tw_1726 : (Jvm.Cond.methodLink "MarshBellsModel" (332 : Nat) ({ cls := "MarshBellsModel", name := "line", desc := "()V" } : Jvm.MethodName)) ∈ lw_tbl := tk_8 (List.mem_of_getElem? (i := 46) rfl)
theorem tw_1729 : (Jvm.Cond.code ({ cls := "MarshBellsModel", name := "line", desc := "()V" } : Jvm.MethodName) prog_14_method_35_code (2 : Nat) (Option.none : Option Jvm.ClassFile.FieldType)) ∈ lw_tbl := tk_8 (List.mem_of_getElem? (i := 49) rfl)
theorem tw_1728 : (Jvm.Cond.instanceMethod ({ cls := "MarshBellsModel", name := "line", desc := "()V" } : Jvm.MethodName)) ∈ lw_tbl := tk_8 (List.mem_of_getElem? (i := 48) rfl)
theorem se_X12_line : Cond.selects RX12 yX12_line yX12_line ∈ lw_tbl := List.mem_append_left _ (List.mem_of_getElem? (i := 113) rfl)
theorem li_X12_332 : kLV RX12 332 RX12 yX12_line cX12_line 2 none 0 := ⟨tw_1726, tw_1728, se_X12_line, tw_1729, tw_13, by decide +kernel⟩
theorem dX12_house_107 : decode cX12_house 107 = .ok (.invokevirtual 332, 3) := by decide +kernel
theorem dX12_house_110 : decode cX12_house 110 = .ok (.goto (-18), 3) := by decide +kernel
theorem dX12_house_30 : decode cX12_house 30 = .ok (.iconst 0, 1) := by decide +kernel
theorem dX12_house_31 : decode cX12_house 31 = .ok (.ireturn, 1) := by decide +kernel
theorem dX12_house_22 : decode cX12_house 22 = .ok (.iconst 0, 1) := by decide +kernel
theorem dX12_house_7 : decode cX12_house 7 = .ok (.ifCond .lt 15, 3) := by decide +kernel
theorem dX12_house_10 : decode cX12_house 10 = .ok (.iload_n 1, 1) := by decide +kernel
theorem dX12_house_11 : decode cX12_house 11 = .ok (.aload_n 0, 1) := by decide +kernel
theorem dX12_house_12 : decode cX12_house 12 = .ok (.getfield 180, 3) := by decide +kernel
theorem dX12_house_15 : decode cX12_house 15 = .ok (.if_icmp .gt 7, 3) := by decide +kernel
theorem dX12_house_18 : decode cX12_house 18 = .ok (.iconst 1, 1) := by decide +kernel
theorem dX12_house_19 : decode cX12_house 19 = .ok (.goto 4, 3) := by decide +kernel
theorem dX12_fault_0 : decode cX12_fault 0 = .ok (.aload_n 0, 1) := by decide +kernel
theorem dX12_fault_1 : decode cX12_fault 1 = .ok (.iconst 0, 1) := by decide +kernel
theorem dX12_fault_2 : decode cX12_fault 2 = .ok (.putfield 177, 3) := by decide +kernel
theorem dX12_fault_5 : decode cX12_fault 5 = .ok (.aload_n 0, 1) := by decide +kernel
theorem dX12_fault_6 : decode cX12_fault 6 = .ok (.getfield 56, 3) := by decide +kernel
theorem dX12_fault_9 : decode cX12_fault 9 = .ok (.ireturn, 1) := by decide +kernel
def fX12_readsWaits_p220 (fu : Nat) (g : Nat → Nat → Int32) (L : Nat → Nat → Int64) : Option ((Unit) × zS) :=
  some ((), (g, L))
def fX12_readsWaits_p184 (fu : Nat) (v2 : Int32) (g : Nat → Nat → Int32) (L : Nat → Nat → Int64) : Option ((Unit) × zS) :=
  ck (g 0 30) 12 (sti g 22 (Int32.toNatClampNeg (g 0 30)) v2 (fun g2 =>
  cb (fX12_isGood fu g2 L) (fun x3 g4 L5 =>
  if x3 = 0 then fX12_readsWaits_p220 fu g4 L5
  else ck (g4 0 30) 12 (
  if (g4 20 (Int32.toNatClampNeg (g4 0 30))) ≤ v2 then fX12_readsWaits_p220 fu g4 L5
  else cb (fX12_wrong fu 6 g4 L5) (fun x9 g10 L11 =>
  fX12_readsWaits_p220 fu g10 L11)))))
def fX12_readsWaits_p180 (fu : Nat) (k12 : Int32 × Int32 × (Nat → Nat → Int32) × (Nat → Nat → Int64) → Option ((Unit) × zS)) (v1 : Int32) (v2 : Int32) (t0 : Int32) (g : Nat → Nat → Int32) (L : Nat → Nat → Int64) : Option ((Unit) × zS) :=
  k12 (v2, t0, g, L)
def fX12_readsWaits_p140 (fu : Nat) (k12 : Int32 × Int32 × (Nat → Nat → Int32) × (Nat → Nat → Int64) → Option ((Unit) × zS)) (v1 : Int32) (v2 : Int32) (g : Nat → Nat → Int32) (L : Nat → Nat → Int64) : Option ((Unit) × zS) :=
  cb (fX12_isGood fu g L) (fun x24 g25 L26 =>
  if x24 = 0 then some ((), (g25, L26))
  else ck (v1 + v2) 72 (sti g25 23 (Int32.toNatClampNeg (v1 + v2)) (g25 0 27) (fun g29 =>
  cb (fX12_goes fu g29 L26) (fun x30 g31 L32 =>
  if (g31 0 24) = 2 then fX12_readsWaits_p180 fu k12 v1 (v2 + 1) 1 g31 L32
  else fX12_readsWaits_p180 fu k12 v1 (v2 + 1) 0 g31 L32))))
def fX12_readsWaits_p115 (fu : Nat) (k12 : Int32 × Int32 × (Nat → Nat → Int32) × (Nat → Nat → Int64) → Option ((Unit) × zS)) (k83 : Int32 × Int32 × (Nat → Nat → Int32) × (Nat → Nat → Int64) → Option ((Unit) × zS)) (v1 : Int32) (v2 : Int32) (v5 : Int32) (t0 : Int32) (g : Nat → Nat → Int32) (L : Nat → Nat → Int64) : Option ((Unit) × zS) :=
  k83 (t0, (v5 + 1), g, L)
def fX12_readsWaits_p110 (fu : Nat) (k12 : Int32 × Int32 × (Nat → Nat → Int32) × (Nat → Nat → Int64) → Option ((Unit) × zS)) (k83 : Int32 × Int32 × (Nat → Nat → Int32) × (Nat → Nat → Int64) → Option ((Unit) × zS)) (v1 : Int32) (v2 : Int32) (v5 : Int32) (g : Nat → Nat → Int32) (L : Nat → Nat → Int64) : Option ((Unit) × zS) :=
  fX12_readsWaits_p115 fu k12 k83 v1 v2 v5 1 g L
def fX12_readsWaits_s83 (fu : Nat) (k12 : Int32 × Int32 × (Nat → Nat → Int32) × (Nat → Nat → Int64) → Option ((Unit) × zS)) (v1 : Int32) (v2 : Int32) (k83 : Int32 × Int32 × (Nat → Nat → Int32) × (Nat → Nat → Int64) → Option ((Unit) × zS)) (v4 : Int32) (v5 : Int32) (g : Nat → Nat → Int32) (L : Nat → Nat → Int64) : Option ((Unit) × zS) :=
  if v2 ≤ (v5 : Int32) then cb (fX12_isGood fu g L) (fun x20 g21 L22 =>
  if x20 = 0 then fX12_readsWaits_p140 fu k12 v1 v2 g21 L22
  else if v4 = 0 then fX12_readsWaits_p140 fu k12 v1 v2 g21 L22
  else cb (fX12_wrong fu 4 g21 L22) (fun x37 g38 L39 =>
  fX12_readsWaits_p140 fu k12 v1 v2 g38 L39))
  else if v4 = 0 then ck (v1 + v5) 72 (
  if (g 23 (Int32.toNatClampNeg (v1 + v5))) = (g 0 27) then fX12_readsWaits_p110 fu k12 k83 v1 v2 v5 g L
  else fX12_readsWaits_p115 fu k12 k83 v1 v2 v5 0 g L)
  else fX12_readsWaits_p110 fu k12 k83 v1 v2 v5 g L
def fX12_readsWaits_l83 (fu : Nat) (k12 : Int32 × Int32 × (Nat → Nat → Int32) × (Nat → Nat → Int64) → Option ((Unit) × zS)) (v1 : Int32) (v2 : Int32) (v4 : Int32) (v5 : Int32) (g : Nat → Nat → Int32) (L : Nat → Nat → Int64) : Option ((Unit) × zS) :=
  whileK (fun k v => fX12_readsWaits_s83 fu k12 v1 v2 k v.1 v.2.1 v.2.2.1 v.2.2.2) fu (v4, v5, g, L)
def fX12_readsWaits_p77 (fu : Nat) (k12 : Int32 × Int32 × (Nat → Nat → Int32) × (Nat → Nat → Int64) → Option ((Unit) × zS)) (v1 : Int32) (v2 : Int32) (g : Nat → Nat → Int32) (L : Nat → Nat → Int64) : Option ((Unit) × zS) :=
  fX12_readsWaits_l83 fu k12 v1 v2 0 0 g L
def fX12_readsWaits_p53 (fu : Nat) (k12 : Int32 × Int32 × (Nat → Nat → Int32) × (Nat → Nat → Int64) → Option ((Unit) × zS)) (v1 : Int32) (v2 : Int32) (g : Nat → Nat → Int32) (L : Nat → Nat → Int64) : Option ((Unit) × zS) :=
  cb (fX12_wrong fu 2 g L) (fun x44 g45 L46 =>
  fX12_readsWaits_p77 fu k12 v1 v2 g45 L46)
def fX12_readsWaits_s12 (fu : Nat) (v1 : Int32) (k12 : Int32 × Int32 × (Nat → Nat → Int32) × (Nat → Nat → Int64) → Option ((Unit) × zS)) (v2 : Int32) (v3 : Int32) (g : Nat → Nat → Int32) (L : Nat → Nat → Int64) : Option ((Unit) × zS) :=
  if v3 = 0 then fX12_readsWaits_p184 fu v2 g L
  else cb (fX12_isGood fu g L) (fun x14 g15 L16 =>
  if x14 = 0 then fX12_readsWaits_p184 fu v2 g15 L16
  else if (g15 0 24) = 2 then (if (v2 : Int32) = 6 then fX12_readsWaits_p53 fu k12 v1 v2 g15 L16
  else if (g15 0 26) ≤ 4 then (if (g15 0 27) < (g15 0 30) then fX12_readsWaits_p77 fu k12 v1 v2 g15 L16
  else cb (fX12_wrong fu 3 g15 L16) (fun x51 g52 L53 =>
  fX12_readsWaits_p77 fu k12 v1 v2 g52 L53))
  else fX12_readsWaits_p53 fu k12 v1 v2 g15 L16)
  else cb (fX12_wrong fu 1 g15 L16) (fun x55 g56 L57 =>
  fX12_readsWaits_p77 fu k12 v1 v2 g56 L57))
def fX12_readsWaits_l12 (fu : Nat) (v1 : Int32) (v2 : Int32) (v3 : Int32) (g : Nat → Nat → Int32) (L : Nat → Nat → Int64) : Option ((Unit) × zS) :=
  whileK (fun k v => fX12_readsWaits_s12 fu v1 k v.1 v.2.1 v.2.2.1 v.2.2.2) fu (v2, v3, g, L)
def fX12_readsWaits (fu : Nat) (g : Nat → Nat → Int32) (L : Nat → Nat → Int64) : Option ((Unit) × zS) :=
  lti (6 * (g 0 30)) (fun x1 =>
  fX12_readsWaits_l12 fu x1 0 1 g L)
set_option maxHeartbeats 4000000 in
set_option maxRecDepth 100000 in
theorem rX12_readsWaits (l : Launch) (G : kG) (sz : Nat) (a : Nat → Nat) (fu : Nat) (g : Nat → Nat → Int32) (L : Nat → Nat → Int64) (res : Unit) (s9 : zS) (h : fX12_readsWaits fu g L = some (res, s9)) : kM l yX12_readsWaits cX12_readsWaits 6 none { frames := 8, cells := 0, slots := 0, locals := 152 } G [.ref (a 0)] (zw G MS 51 a g L) sz (kQv G (S := Unit) (fun _ => True) (fun _ => zw G MS 51 a s9.1 s9.2)) := by
  refine kM.of (by decide) (Nat.le_of_ble_eq_true rfl) ?_
  intro p e s m below meth c A ls H C hr hlk hnm hP hD hS hl
  have C : kC G p s m c cX12_readsWaits 6 RX12 A := C
  have hx := C.1
  have hb := C.2.1
  have hl : lv_has ls 6 [(0, .ref (a 0))] := hl
  obtain ⟨locs, hlocs⟩ : ∃ q : List Loc, q = [] := ⟨_, rfl⟩
  rw [← hlocs] at hS
  rw [← hlocs]
  unfold fX12_readsWaits at h
  refine lv_bipush (v := 6) hx hb dX12_readsWaits_0 (by decide) ?_
  refine lv_aload_n hx hb dX12_readsWaits_2 rfl (lv_at hl 0 rfl) ?_
  refine x_getv (v := .int (g 0 30)) (Or.inl fl_X12_293) C hP (by decide) ms_0 rfl dX12_readsWaits_3 ?_
  refine lv_imul hx hb dX12_readsWaits_6 ?_
  refine y_let h (fun x1 h => ?_)
  refine lv_istore_n (lv' := [(1, .int x1), (0, .ref (a 0))]) hx hb dX12_readsWaits_7 rfl hl (by decide) rfl (fun ls hl => ?_)
  refine lv_iconst (v := 0) hx hb dX12_readsWaits_8 (by decide) ?_
  refine lv_istore_n (lv' := [(2, .int 0), (1, .int x1), (0, .ref (a 0))]) hx hb dX12_readsWaits_9 rfl hl (by decide) rfl (fun ls hl => ?_)
  refine lv_iconst (v := 1) hx hb dX12_readsWaits_10 (by decide) ?_
  refine lv_istore_n (lv' := [(3, .int 1), (2, .int 0), (1, .int x1), (0, .ref (a 0))]) hx hb dX12_readsWaits_11 rfl hl (by decide) rfl (fun ls hl => ?_)
  have lp12 : ∀ (v1 : Int32), ∀ (n : Nat) (v : Int32 × Int32 × (Nat → Nat → Int32) × (Nat → Nat → Int64)), whileK (fun k v => fX12_readsWaits_s12 fu v1 k v.1 v.2.1 v.2.2.1 v.2.2.2) n v = some (res, s9) → ∀ (H : Heap) (locs : List Loc) (ls : Array Slot), va_P G.1 vwCl (zw G MS 51 a (v.2.2.1) (v.2.2.2)) H → va_D A (zw G MS 51 a (v.2.2.1) (v.2.2.2)) → va_S A s.heap H locs → lv_has ls 6 [(0, .ref (a 0)), (1, .int v1), (2, .int (v.1)), (3, .int (v.2.1))] → W p l e { frames := 8, cells := 0, slots := 0, locals := 152 } s m [.ref (a 0)].toArray below meth c H locs 0 0 (MQ below ((kQv G (S := Unit) (fun _ => True) (fun _ => zw G MS 51 a s9.1 s9.2)) A) [.ref (a 0)].toArray s 0 0 A) (F0 m 12 ls []) := by
    intro v1
    refine while_ind (fun k12 ih12 v h => ?_)
    obtain ⟨v2, v3, g, L⟩ := v
    intro H locs ls hP hD hS hl
    have h : fX12_readsWaits_s12 fu v1 k12 v2 v3 g L = some (res, s9) := h
    have hP : va_P G.1 vwCl (zw G MS 51 a g L) H := hP
    have hD : va_D A (zw G MS 51 a g L) := hD
    have hl : lv_has ls 6 [(0, .ref (a 0)), (1, .int v1), (2, .int v2), (3, .int v3)] := hl
    show W p l e { frames := 8, cells := 0, slots := 0, locals := 152 } s m [.ref (a 0)].toArray below meth c H locs 0 0 (MQ below ((kQv G (S := Unit) (fun _ => True) (fun _ => zw G MS 51 a s9.1 s9.2)) A) [.ref (a 0)].toArray s 0 0 A) (F0 m 12 ls [])
    unfold fX12_readsWaits_s12 at h
    refine lv_iload_n hx hb dX12_readsWaits_12 rfl (lv_at hl 3 rfl) ?_
    have J184 : ∀ (v2 : Int32) (g : Nat → Nat → Int32) (L : Nat → Nat → Int64) (H : Heap) (locs : List Loc) (ls : Array Slot), fX12_readsWaits_p184 fu v2 g L = some (res, s9) → va_P G.1 vwCl (zw G MS 51 a g L) H → va_D A (zw G MS 51 a g L) → va_S A s.heap H locs → lv_has ls 6 [(0, .ref (a 0)), (2, .int v2)] → W p l e { frames := 8, cells := 0, slots := 0, locals := 152 } s m [.ref (a 0)].toArray below meth c H locs 0 0 (MQ below ((kQv G (S := Unit) (fun _ => True) (fun _ => zw G MS 51 a s9.1 s9.2)) A) [.ref (a 0)].toArray s 0 0 A) (F0 m 184 ls []) := by
      intro v2 g L H locs ls h hP hD hS hl
      unfold fX12_readsWaits_p184 at h
      refine lv_aload_n hx hb dX12_readsWaits_184 rfl (lv_at hl 0 rfl) ?_
      refine x_getr (Or.inl fl_X12_83) C hP (by decide) ms_0 rfl dX12_readsWaits_185 ?_
      refine lv_aload_n hx hb dX12_readsWaits_188 rfl (lv_at hl 0 rfl) ?_
      refine x_getv (v := .int (g 0 30)) (Or.inl fl_X12_293) C hP (by decide) ms_0 rfl dX12_readsWaits_189 ?_
      refine lv_iload_n hx hb dX12_readsWaits_192 rfl (lv_at hl 1 rfl) ?_
      refine y_ast C hP hD hS (by decide) ms_22 dX12_readsWaits_193 h (fun g2 H locs h hP hD hS => ?_)
      refine lv_aload_n hx hb dX12_readsWaits_194 rfl (lv_at hl 0 rfl) ?_
      obtain ⟨z_, g4, L5, hf6, h⟩ := cb_some h
      refine x_callVi (rest := []) li_X12_236 C (rX12_isGood l G H.size a fu g2 L z_ (g4, L5) hf6) (kR rfl) hP hD hS 0 12 rfl (zat (by decide) ms_0) rfl hl.1 rfl (Nat.le_of_ble_eq_true rfl) dX12_readsWaits_195 (fun x3 u_ H locs e_ hP hD hS => ?_)
      have e_ : x3 = z_ := e_
      subst e_
      have hP : va_P G.1 vwCl (zw G MS 51 a g4 L5) H := hP
      have hD : va_D A (zw G MS 51 a g4 L5) := hD
      have J220 : ∀ (g : Nat → Nat → Int32) (L : Nat → Nat → Int64) (H : Heap) (locs : List Loc) (ls : Array Slot), fX12_readsWaits_p220 fu g L = some (res, s9) → va_P G.1 vwCl (zw G MS 51 a g L) H → va_D A (zw G MS 51 a g L) → va_S A s.heap H locs → lv_has ls 6 [] → W p l e { frames := 8, cells := 0, slots := 0, locals := 152 } s m [.ref (a 0)].toArray below meth c H locs 0 0 (MQ below ((kQv G (S := Unit) (fun _ => True) (fun _ => zw G MS 51 a s9.1 s9.2)) A) [.ref (a 0)].toArray s 0 0 A) (F0 m 220 ls []) := by
        intro g L H locs ls h hP hD hS hl
        unfold fX12_readsWaits_p220 at h
        exact y_vret C hr hlk hP hD hS h (Nat.le_of_ble_eq_true rfl) (Nat.le_of_ble_eq_true rfl) dX12_readsWaits_220
      refine lv_if_eq (x := x3) (tgt := 220) hx hb dX12_readsWaits_198 (by decide) (fun c7 => ?_) (fun c7 => ?_)
      ·
        have h := ite_t c7 h
        exact J220 g4 L5 H locs ls h hP hD hS (lv_sub hl [] rfl)
      ·
        have h := ite_e c7 h
        refine lv_aload_n hx hb dX12_readsWaits_201 rfl (lv_at hl 0 rfl) ?_
        refine x_getr (Or.inl fl_X12_77) C hP (by decide) ms_0 rfl dX12_readsWaits_202 ?_
        refine lv_aload_n hx hb dX12_readsWaits_205 rfl (lv_at hl 0 rfl) ?_
        refine x_getv (v := .int (g4 0 30)) (Or.inl fl_X12_293) C hP (by decide) ms_0 rfl dX12_readsWaits_206 ?_
        refine y_ald C hP (by decide) ms_20 dX12_readsWaits_209 h (fun h => ?_)
        refine lv_iload_n hx hb dX12_readsWaits_210 rfl (lv_at hl 1 rfl) ?_
        refine lv_icmp_le (x := (g4 20 (Int32.toNatClampNeg (g4 0 30)))) (y := v2) (tgt := 220) hx hb dX12_readsWaits_211 (by decide) (fun c8 => ?_) (fun c8 => ?_)
        ·
          have h := ite_t c8 h
          exact J220 g4 L5 H locs ls h hP hD hS (lv_sub hl [] rfl)
        ·
          have h := ite_e c8 h
          refine lv_aload_n hx hb dX12_readsWaits_214 rfl (lv_at hl 0 rfl) ?_
          refine lv_bipush (v := 6) hx hb dX12_readsWaits_215 (by decide) ?_
          obtain ⟨z_, g10, L11, hf12, h⟩ := cb_some h
          refine x_callVv (rest := []) li_X12_243 C (rX12_wrong l G H.size a fu g4 L5 6 z_ (g10, L11) hf12) (kR rfl) hP hD hS 0 12 rfl (zat (by decide) ms_0) rfl hl.1 rfl (Nat.le_of_ble_eq_true rfl) dX12_readsWaits_217 (fun u_ H locs e_ hP hD hS => ?_)
          have hP : va_P G.1 vwCl (zw G MS 51 a g10 L11) H := hP
          have hD : va_D A (zw G MS 51 a g10 L11) := hD
          exact J220 g10 L11 H locs ls h hP hD hS (lv_sub hl [] rfl)
    refine lv_if_eq (x := v3) (tgt := 184) hx hb dX12_readsWaits_13 (by decide) (fun c13 => ?_) (fun c13 => ?_)
    ·
      have h := ite_t c13 h
      exact J184 v2 g L H locs ls h hP hD hS (lv_sub hl [0, 2] rfl)
    ·
      have h := ite_e c13 h
      refine lv_aload_n hx hb dX12_readsWaits_16 rfl (lv_at hl 0 rfl) ?_
      obtain ⟨z_, g15, L16, hf17, h⟩ := cb_some h
      refine x_callVi (rest := []) li_X12_236 C (rX12_isGood l G H.size a fu g L z_ (g15, L16) hf17) (kR rfl) hP hD hS 0 12 rfl (zat (by decide) ms_0) rfl hl.1 rfl (Nat.le_of_ble_eq_true rfl) dX12_readsWaits_17 (fun x14 u_ H locs e_ hP hD hS => ?_)
      have e_ : x14 = z_ := e_
      subst e_
      have hP : va_P G.1 vwCl (zw G MS 51 a g15 L16) H := hP
      have hD : va_D A (zw G MS 51 a g15 L16) := hD
      refine lv_if_eq (x := x14) (tgt := 184) hx hb dX12_readsWaits_20 (by decide) (fun c18 => ?_) (fun c18 => ?_)
      ·
        have h := ite_t c18 h
        exact J184 v2 g15 L16 H locs ls h hP hD hS (lv_sub hl [0, 2] rfl)
      ·
        have h := ite_e c18 h
        refine lv_aload_n hx hb dX12_readsWaits_23 rfl (lv_at hl 0 rfl) ?_
        refine x_getv (v := .int (g15 0 24)) (Or.inl fl_X12_210) C hP (by decide) ms_0 rfl dX12_readsWaits_24 ?_
        refine lv_iconst (v := 2) hx hb dX12_readsWaits_27 (by decide) ?_
        have J77 : ∀ (v2 : Int32) (g : Nat → Nat → Int32) (L : Nat → Nat → Int64) (H : Heap) (locs : List Loc) (ls : Array Slot), fX12_readsWaits_p77 fu k12 v1 v2 g L = some (res, s9) → va_P G.1 vwCl (zw G MS 51 a g L) H → va_D A (zw G MS 51 a g L) → va_S A s.heap H locs → lv_has ls 6 [(0, .ref (a 0)), (1, .int v1), (2, .int v2)] → W p l e { frames := 8, cells := 0, slots := 0, locals := 152 } s m [.ref (a 0)].toArray below meth c H locs 0 0 (MQ below ((kQv G (S := Unit) (fun _ => True) (fun _ => zw G MS 51 a s9.1 s9.2)) A) [.ref (a 0)].toArray s 0 0 A) (F0 m 77 ls []) := by
          intro v2 g L H locs ls h hP hD hS hl
          unfold fX12_readsWaits_p77 at h
          refine lv_iconst (v := 0) hx hb dX12_readsWaits_77 (by decide) ?_
          refine lv_istore (lv' := [(4, .int 0), (0, .ref (a 0)), (1, .int v1), (2, .int v2)]) hx hb dX12_readsWaits_78 hl (by decide) rfl (fun ls hl => ?_)
          refine lv_iconst (v := 0) hx hb dX12_readsWaits_80 (by decide) ?_
          refine lv_istore (lv' := [(5, .int 0), (4, .int 0), (0, .ref (a 0)), (1, .int v1), (2, .int v2)]) hx hb dX12_readsWaits_81 hl (by decide) rfl (fun ls hl => ?_)
          have lp83 : ∀ (v2 : Int32), ∀ (n : Nat) (v : Int32 × Int32 × (Nat → Nat → Int32) × (Nat → Nat → Int64)), whileK (fun k v => fX12_readsWaits_s83 fu k12 v1 v2 k v.1 v.2.1 v.2.2.1 v.2.2.2) n v = some (res, s9) → ∀ (H : Heap) (locs : List Loc) (ls : Array Slot), va_P G.1 vwCl (zw G MS 51 a (v.2.2.1) (v.2.2.2)) H → va_D A (zw G MS 51 a (v.2.2.1) (v.2.2.2)) → va_S A s.heap H locs → lv_has ls 6 [(0, .ref (a 0)), (1, .int v1), (2, .int v2), (4, .int (v.1)), (5, .int (v.2.1))] → W p l e { frames := 8, cells := 0, slots := 0, locals := 152 } s m [.ref (a 0)].toArray below meth c H locs 0 0 (MQ below ((kQv G (S := Unit) (fun _ => True) (fun _ => zw G MS 51 a s9.1 s9.2)) A) [.ref (a 0)].toArray s 0 0 A) (F0 m 83 ls []) := by
            intro v2
            refine while_ind (fun k83 ih83 v h => ?_)
            obtain ⟨v4, v5, g, L⟩ := v
            intro H locs ls hP hD hS hl
            have h : fX12_readsWaits_s83 fu k12 v1 v2 k83 v4 v5 g L = some (res, s9) := h
            have hP : va_P G.1 vwCl (zw G MS 51 a g L) H := hP
            have hD : va_D A (zw G MS 51 a g L) := hD
            have hl : lv_has ls 6 [(0, .ref (a 0)), (1, .int v1), (2, .int v2), (4, .int v4), (5, .int v5)] := hl
            show W p l e { frames := 8, cells := 0, slots := 0, locals := 152 } s m [.ref (a 0)].toArray below meth c H locs 0 0 (MQ below ((kQv G (S := Unit) (fun _ => True) (fun _ => zw G MS 51 a s9.1 s9.2)) A) [.ref (a 0)].toArray s 0 0 A) (F0 m 83 ls [])
            unfold fX12_readsWaits_s83 at h
            refine lv_iload hx hb dX12_readsWaits_83 (lv_at hl 4 rfl) ?_
            refine lv_iload_n hx hb dX12_readsWaits_85 rfl (lv_at hl 2 rfl) ?_
            refine lv_icmp_ge (x := v5) (y := v2) (tgt := 123) hx hb dX12_readsWaits_86 (by decide) (fun c19 => ?_) (fun c19 => ?_)
            ·
              have h := ite_t c19 h
              refine lv_aload_n hx hb dX12_readsWaits_123 rfl (lv_at hl 0 rfl) ?_
              obtain ⟨z_, g21, L22, hf23, h⟩ := cb_some h
              refine x_callVi (rest := []) li_X12_236 C (rX12_isGood l G H.size a fu g L z_ (g21, L22) hf23) (kR rfl) hP hD hS 0 12 rfl (zat (by decide) ms_0) rfl hl.1 rfl (Nat.le_of_ble_eq_true rfl) dX12_readsWaits_124 (fun x20 u_ H locs e_ hP hD hS => ?_)
              have e_ : x20 = z_ := e_
              subst e_
              have hP : va_P G.1 vwCl (zw G MS 51 a g21 L22) H := hP
              have hD : va_D A (zw G MS 51 a g21 L22) := hD
              have J140 : ∀ (v2 : Int32) (g : Nat → Nat → Int32) (L : Nat → Nat → Int64) (H : Heap) (locs : List Loc) (ls : Array Slot), fX12_readsWaits_p140 fu k12 v1 v2 g L = some (res, s9) → va_P G.1 vwCl (zw G MS 51 a g L) H → va_D A (zw G MS 51 a g L) → va_S A s.heap H locs → lv_has ls 6 [(0, .ref (a 0)), (1, .int v1), (2, .int v2)] → W p l e { frames := 8, cells := 0, slots := 0, locals := 152 } s m [.ref (a 0)].toArray below meth c H locs 0 0 (MQ below ((kQv G (S := Unit) (fun _ => True) (fun _ => zw G MS 51 a s9.1 s9.2)) A) [.ref (a 0)].toArray s 0 0 A) (F0 m 140 ls []) := by
                intro v2 g L H locs ls h hP hD hS hl
                unfold fX12_readsWaits_p140 at h
                refine lv_aload_n hx hb dX12_readsWaits_140 rfl (lv_at hl 0 rfl) ?_
                obtain ⟨z_, g25, L26, hf27, h⟩ := cb_some h
                refine x_callVi (rest := []) li_X12_236 C (rX12_isGood l G H.size a fu g L z_ (g25, L26) hf27) (kR rfl) hP hD hS 0 12 rfl (zat (by decide) ms_0) rfl hl.1 rfl (Nat.le_of_ble_eq_true rfl) dX12_readsWaits_141 (fun x24 u_ H locs e_ hP hD hS => ?_)
                have e_ : x24 = z_ := e_
                subst e_
                have hP : va_P G.1 vwCl (zw G MS 51 a g25 L26) H := hP
                have hD : va_D A (zw G MS 51 a g25 L26) := hD
                refine lv_if_ne (x := x24) (tgt := 148) hx hb dX12_readsWaits_144 (by decide) (fun c28 => ?_) (fun c28 => ?_)
                ·
                  have h := ite_e c28 h
                  refine lv_aload_n hx hb dX12_readsWaits_148 rfl (lv_at hl 0 rfl) ?_
                  refine x_getr (Or.inl fl_X12_86) C hP (by decide) ms_0 rfl dX12_readsWaits_149 ?_
                  refine lv_iload_n hx hb dX12_readsWaits_152 rfl (lv_at hl 1 rfl) ?_
                  refine lv_iload_n hx hb dX12_readsWaits_153 rfl (lv_at hl 2 rfl) ?_
                  refine lv_iadd hx hb dX12_readsWaits_154 ?_
                  refine lv_aload_n hx hb dX12_readsWaits_155 rfl (lv_at hl 0 rfl) ?_
                  refine x_getv (v := .int (g25 0 27)) (Or.inl fl_X12_204) C hP (by decide) ms_0 rfl dX12_readsWaits_156 ?_
                  refine y_ast C hP hD hS (by decide) ms_23 dX12_readsWaits_159 h (fun g29 H locs h hP hD hS => ?_)
                  refine lv_iinc (v := (v2 + 1)) (lv' := [(2, .int (v2 + 1)), (0, .ref (a 0)), (1, .int v1)]) hx hb dX12_readsWaits_160 hl (k := 2) rfl rfl (by decide) rfl (fun ls hl => ?_)
                  refine lv_aload_n hx hb dX12_readsWaits_163 rfl (lv_at hl 1 rfl) ?_
                  obtain ⟨z_, g31, L32, hf33, h⟩ := cb_some h
                  refine x_callVv (rest := []) li_X12_240 C (rX12_goes l G H.size a fu g29 L26 z_ (g31, L32) hf33) (kR rfl) hP hD hS 0 12 rfl (zat (by decide) ms_0) rfl hl.1 rfl (Nat.le_of_ble_eq_true rfl) dX12_readsWaits_164 (fun u_ H locs e_ hP hD hS => ?_)
                  have hP : va_P G.1 vwCl (zw G MS 51 a g31 L32) H := hP
                  have hD : va_D A (zw G MS 51 a g31 L32) := hD
                  refine lv_aload_n hx hb dX12_readsWaits_167 rfl (lv_at hl 1 rfl) ?_
                  refine x_getv (v := .int (g31 0 24)) (Or.inl fl_X12_210) C hP (by decide) ms_0 rfl dX12_readsWaits_168 ?_
                  refine lv_iconst (v := 2) hx hb dX12_readsWaits_171 (by decide) ?_
                  have J180 : ∀ (v2 : Int32) (t0 : Int32) (g : Nat → Nat → Int32) (L : Nat → Nat → Int64) (H : Heap) (locs : List Loc) (ls : Array Slot), fX12_readsWaits_p180 fu k12 v1 v2 t0 g L = some (res, s9) → va_P G.1 vwCl (zw G MS 51 a g L) H → va_D A (zw G MS 51 a g L) → va_S A s.heap H locs → lv_has ls 6 [(0, .ref (a 0)), (1, .int v1), (2, .int v2)] → W p l e { frames := 8, cells := 0, slots := 0, locals := 152 } s m [.ref (a 0)].toArray below meth c H locs 0 0 (MQ below ((kQv G (S := Unit) (fun _ => True) (fun _ => zw G MS 51 a s9.1 s9.2)) A) [.ref (a 0)].toArray s 0 0 A) (F0 m 180 ls [.int t0]) := by
                    intro v2 t0 g L H locs ls h hP hD hS hl
                    unfold fX12_readsWaits_p180 at h
                    refine lv_istore_n (lv' := [(3, .int t0), (0, .ref (a 0)), (1, .int v1), (2, .int v2)]) hx hb dX12_readsWaits_180 rfl hl (by decide) rfl (fun ls hl => ?_)
                    refine lv_goto (tgt := 12) hx hb dX12_readsWaits_181 (by decide) ?_
                    exact ih12 (v2, t0, g, L) h H locs ls hP hD hS (lv_sub hl [1, 2, 3, 0] rfl)
                  refine lv_icmp_ne (x := (g31 0 24)) (y := 2) (tgt := 179) hx hb dX12_readsWaits_172 (by decide) (fun c34 => ?_) (fun c34 => ?_)
                  ·
                    have h := ite_e c34 h
                    refine lv_iconst (v := 0) hx hb dX12_readsWaits_179 (by decide) ?_
                    exact J180 (v2 + 1) 0 g31 L32 H locs ls h hP hD hS (lv_sub hl [1, 2, 0] rfl)
                  ·
                    have h := ite_t c34 h
                    refine lv_iconst (v := 1) hx hb dX12_readsWaits_175 (by decide) ?_
                    refine lv_goto (tgt := 180) hx hb dX12_readsWaits_176 (by decide) ?_
                    exact J180 (v2 + 1) 1 g31 L32 H locs ls h hP hD hS (lv_sub hl [1, 2, 0] rfl)
                ·
                  have h := ite_t c28 h
                  exact y_vret C hr hlk hP hD hS h (Nat.le_of_ble_eq_true rfl) (Nat.le_of_ble_eq_true rfl) dX12_readsWaits_147
              refine lv_if_eq (x := x20) (tgt := 140) hx hb dX12_readsWaits_127 (by decide) (fun c35 => ?_) (fun c35 => ?_)
              ·
                have h := ite_t c35 h
                exact J140 v2 g21 L22 H locs ls h hP hD hS (lv_sub hl [0, 1, 2] rfl)
              ·
                have h := ite_e c35 h
                refine lv_iload hx hb dX12_readsWaits_130 (lv_at hl 3 rfl) ?_
                refine lv_if_eq (x := v4) (tgt := 140) hx hb dX12_readsWaits_132 (by decide) (fun c36 => ?_) (fun c36 => ?_)
                ·
                  have h := ite_t c36 h
                  exact J140 v2 g21 L22 H locs ls h hP hD hS (lv_sub hl [0, 1, 2] rfl)
                ·
                  have h := ite_e c36 h
                  refine lv_aload_n hx hb dX12_readsWaits_135 rfl (lv_at hl 0 rfl) ?_
                  refine lv_iconst (v := 4) hx hb dX12_readsWaits_136 (by decide) ?_
                  obtain ⟨z_, g38, L39, hf40, h⟩ := cb_some h
                  refine x_callVv (rest := []) li_X12_243 C (rX12_wrong l G H.size a fu g21 L22 4 z_ (g38, L39) hf40) (kR rfl) hP hD hS 0 12 rfl (zat (by decide) ms_0) rfl hl.1 rfl (Nat.le_of_ble_eq_true rfl) dX12_readsWaits_137 (fun u_ H locs e_ hP hD hS => ?_)
                  have hP : va_P G.1 vwCl (zw G MS 51 a g38 L39) H := hP
                  have hD : va_D A (zw G MS 51 a g38 L39) := hD
                  exact J140 v2 g38 L39 H locs ls h hP hD hS (lv_sub hl [0, 1, 2] rfl)
            ·
              have h := ite_e c19 h
              refine lv_iload hx hb dX12_readsWaits_89 (lv_at hl 3 rfl) ?_
              have J115 : ∀ (v5 : Int32) (t0 : Int32) (g : Nat → Nat → Int32) (L : Nat → Nat → Int64) (H : Heap) (locs : List Loc) (ls : Array Slot), fX12_readsWaits_p115 fu k12 k83 v1 v2 v5 t0 g L = some (res, s9) → va_P G.1 vwCl (zw G MS 51 a g L) H → va_D A (zw G MS 51 a g L) → va_S A s.heap H locs → lv_has ls 6 [(0, .ref (a 0)), (1, .int v1), (2, .int v2), (5, .int v5)] → W p l e { frames := 8, cells := 0, slots := 0, locals := 152 } s m [.ref (a 0)].toArray below meth c H locs 0 0 (MQ below ((kQv G (S := Unit) (fun _ => True) (fun _ => zw G MS 51 a s9.1 s9.2)) A) [.ref (a 0)].toArray s 0 0 A) (F0 m 115 ls [.int t0]) := by
                intro v5 t0 g L H locs ls h hP hD hS hl
                unfold fX12_readsWaits_p115 at h
                refine lv_istore (lv' := [(4, .int t0), (0, .ref (a 0)), (1, .int v1), (2, .int v2), (5, .int v5)]) hx hb dX12_readsWaits_115 hl (by decide) rfl (fun ls hl => ?_)
                refine lv_iinc (v := (v5 + 1)) (lv' := [(5, .int (v5 + 1)), (4, .int t0), (0, .ref (a 0)), (1, .int v1), (2, .int v2)]) hx hb dX12_readsWaits_117 hl (k := 4) rfl rfl (by decide) rfl (fun ls hl => ?_)
                refine lv_goto (tgt := 83) hx hb dX12_readsWaits_120 (by decide) ?_
                exact ih83 (t0, (v5 + 1), g, L) h H locs ls hP hD hS (lv_sub hl [2, 3, 4, 1, 0] rfl)
              have J110 : ∀ (v5 : Int32) (g : Nat → Nat → Int32) (L : Nat → Nat → Int64) (H : Heap) (locs : List Loc) (ls : Array Slot), fX12_readsWaits_p110 fu k12 k83 v1 v2 v5 g L = some (res, s9) → va_P G.1 vwCl (zw G MS 51 a g L) H → va_D A (zw G MS 51 a g L) → va_S A s.heap H locs → lv_has ls 6 [(0, .ref (a 0)), (1, .int v1), (2, .int v2), (5, .int v5)] → W p l e { frames := 8, cells := 0, slots := 0, locals := 152 } s m [.ref (a 0)].toArray below meth c H locs 0 0 (MQ below ((kQv G (S := Unit) (fun _ => True) (fun _ => zw G MS 51 a s9.1 s9.2)) A) [.ref (a 0)].toArray s 0 0 A) (F0 m 110 ls []) := by
                intro v5 g L H locs ls h hP hD hS hl
                unfold fX12_readsWaits_p110 at h
                refine lv_iconst (v := 1) hx hb dX12_readsWaits_110 (by decide) ?_
                refine lv_goto (tgt := 115) hx hb dX12_readsWaits_111 (by decide) ?_
                exact J115 v5 1 g L H locs ls h hP hD hS (lv_sub hl [0, 1, 2, 3] rfl)
              refine lv_if_ne (x := v4) (tgt := 110) hx hb dX12_readsWaits_91 (by decide) (fun c41 => ?_) (fun c41 => ?_)
              ·
                have h := ite_e c41 h
                exact J110 v5 g L H locs ls h hP hD hS (lv_sub hl [0, 1, 2, 4] rfl)
              ·
                have h := ite_t c41 h
                refine lv_aload_n hx hb dX12_readsWaits_94 rfl (lv_at hl 0 rfl) ?_
                refine x_getr (Or.inl fl_X12_86) C hP (by decide) ms_0 rfl dX12_readsWaits_95 ?_
                refine lv_iload_n hx hb dX12_readsWaits_98 rfl (lv_at hl 1 rfl) ?_
                refine lv_iload hx hb dX12_readsWaits_99 (lv_at hl 4 rfl) ?_
                refine lv_iadd hx hb dX12_readsWaits_101 ?_
                refine y_ald C hP (by decide) ms_23 dX12_readsWaits_102 h (fun h => ?_)
                refine lv_aload_n hx hb dX12_readsWaits_103 rfl (lv_at hl 0 rfl) ?_
                refine x_getv (v := .int (g 0 27)) (Or.inl fl_X12_204) C hP (by decide) ms_0 rfl dX12_readsWaits_104 ?_
                refine lv_icmp_ne (x := (g 23 (Int32.toNatClampNeg (v1 + v5)))) (y := (g 0 27)) (tgt := 114) hx hb dX12_readsWaits_107 (by decide) (fun c42 => ?_) (fun c42 => ?_)
                ·
                  have h := ite_e c42 h
                  refine lv_iconst (v := 0) hx hb dX12_readsWaits_114 (by decide) ?_
                  exact J115 v5 0 g L H locs ls h hP hD hS (lv_sub hl [0, 1, 2, 4] rfl)
                ·
                  have h := ite_t c42 h
                  exact J110 v5 g L H locs ls h hP hD hS (lv_sub hl [0, 1, 2, 4] rfl)
          exact lp83 v2 fu (0, 0, g, L) h H locs ls hP hD hS (lv_sub hl [2, 3, 4, 1, 0] rfl)
        refine lv_icmp_eq (x := (g15 0 24)) (y := 2) (tgt := 39) hx hb dX12_readsWaits_28 (by decide) (fun c43 => ?_) (fun c43 => ?_)
        ·
          have h := ite_t c43 h
          refine lv_iload_n hx hb dX12_readsWaits_39 rfl (lv_at hl 2 rfl) ?_
          refine lv_bipush (v := 6) hx hb dX12_readsWaits_40 (by decide) ?_
          have J53 : ∀ (v2 : Int32) (g : Nat → Nat → Int32) (L : Nat → Nat → Int64) (H : Heap) (locs : List Loc) (ls : Array Slot), fX12_readsWaits_p53 fu k12 v1 v2 g L = some (res, s9) → va_P G.1 vwCl (zw G MS 51 a g L) H → va_D A (zw G MS 51 a g L) → va_S A s.heap H locs → lv_has ls 6 [(0, .ref (a 0)), (1, .int v1), (2, .int v2)] → W p l e { frames := 8, cells := 0, slots := 0, locals := 152 } s m [.ref (a 0)].toArray below meth c H locs 0 0 (MQ below ((kQv G (S := Unit) (fun _ => True) (fun _ => zw G MS 51 a s9.1 s9.2)) A) [.ref (a 0)].toArray s 0 0 A) (F0 m 53 ls []) := by
            intro v2 g L H locs ls h hP hD hS hl
            unfold fX12_readsWaits_p53 at h
            refine lv_aload_n hx hb dX12_readsWaits_53 rfl (lv_at hl 0 rfl) ?_
            refine lv_iconst (v := 2) hx hb dX12_readsWaits_54 (by decide) ?_
            obtain ⟨z_, g45, L46, hf47, h⟩ := cb_some h
            refine x_callVv (rest := []) li_X12_243 C (rX12_wrong l G H.size a fu g L 2 z_ (g45, L46) hf47) (kR rfl) hP hD hS 0 12 rfl (zat (by decide) ms_0) rfl hl.1 rfl (Nat.le_of_ble_eq_true rfl) dX12_readsWaits_55 (fun u_ H locs e_ hP hD hS => ?_)
            have hP : va_P G.1 vwCl (zw G MS 51 a g45 L46) H := hP
            have hD : va_D A (zw G MS 51 a g45 L46) := hD
            refine lv_goto (tgt := 77) hx hb dX12_readsWaits_58 (by decide) ?_
            exact J77 v2 g45 L46 H locs ls h hP hD hS (lv_sub hl [0, 1, 2] rfl)
          refine lv_icmp_eq (x := v2) (y := 6) (tgt := 53) hx hb dX12_readsWaits_42 (by decide) (fun c48 => ?_) (fun c48 => ?_)
          ·
            have h := ite_t c48 h
            exact J53 v2 g15 L16 H locs ls h hP hD hS (lv_sub hl [0, 1, 2] rfl)
          ·
            have h := ite_e c48 h
            refine lv_aload_n hx hb dX12_readsWaits_45 rfl (lv_at hl 0 rfl) ?_
            refine x_getv (v := .int (g15 0 26)) (Or.inl fl_X12_220) C hP (by decide) ms_0 rfl dX12_readsWaits_46 ?_
            refine lv_iconst (v := 4) hx hb dX12_readsWaits_49 (by decide) ?_
            refine lv_icmp_le (x := (g15 0 26)) (y := 4) (tgt := 61) hx hb dX12_readsWaits_50 (by decide) (fun c49 => ?_) (fun c49 => ?_)
            ·
              have h := ite_t c49 h
              refine lv_aload_n hx hb dX12_readsWaits_61 rfl (lv_at hl 0 rfl) ?_
              refine x_getv (v := .int (g15 0 27)) (Or.inl fl_X12_204) C hP (by decide) ms_0 rfl dX12_readsWaits_62 ?_
              refine lv_aload_n hx hb dX12_readsWaits_65 rfl (lv_at hl 0 rfl) ?_
              refine x_getv (v := .int (g15 0 30)) (Or.inl fl_X12_293) C hP (by decide) ms_0 rfl dX12_readsWaits_66 ?_
              refine lv_icmp_lt (x := (g15 0 27)) (y := (g15 0 30)) (tgt := 77) hx hb dX12_readsWaits_69 (by decide) (fun c50 => ?_) (fun c50 => ?_)
              ·
                have h := ite_t c50 h
                exact J77 v2 g15 L16 H locs ls h hP hD hS (lv_sub hl [0, 1, 2] rfl)
              ·
                have h := ite_e c50 h
                refine lv_aload_n hx hb dX12_readsWaits_72 rfl (lv_at hl 0 rfl) ?_
                refine lv_iconst (v := 3) hx hb dX12_readsWaits_73 (by decide) ?_
                obtain ⟨z_, g52, L53, hf54, h⟩ := cb_some h
                refine x_callVv (rest := []) li_X12_243 C (rX12_wrong l G H.size a fu g15 L16 3 z_ (g52, L53) hf54) (kR rfl) hP hD hS 0 12 rfl (zat (by decide) ms_0) rfl hl.1 rfl (Nat.le_of_ble_eq_true rfl) dX12_readsWaits_74 (fun u_ H locs e_ hP hD hS => ?_)
                have hP : va_P G.1 vwCl (zw G MS 51 a g52 L53) H := hP
                have hD : va_D A (zw G MS 51 a g52 L53) := hD
                exact J77 v2 g52 L53 H locs ls h hP hD hS (lv_sub hl [0, 1, 2] rfl)
            ·
              have h := ite_e c49 h
              exact J53 v2 g15 L16 H locs ls h hP hD hS (lv_sub hl [0, 1, 2] rfl)
        ·
          have h := ite_e c43 h
          refine lv_aload_n hx hb dX12_readsWaits_31 rfl (lv_at hl 0 rfl) ?_
          refine lv_iconst (v := 1) hx hb dX12_readsWaits_32 (by decide) ?_
          obtain ⟨z_, g56, L57, hf58, h⟩ := cb_some h
          refine x_callVv (rest := []) li_X12_243 C (rX12_wrong l G H.size a fu g15 L16 1 z_ (g56, L57) hf58) (kR rfl) hP hD hS 0 12 rfl (zat (by decide) ms_0) rfl hl.1 rfl (Nat.le_of_ble_eq_true rfl) dX12_readsWaits_33 (fun u_ H locs e_ hP hD hS => ?_)
          have hP : va_P G.1 vwCl (zw G MS 51 a g56 L57) H := hP
          have hD : va_D A (zw G MS 51 a g56 L57) := hD
          refine lv_goto (tgt := 77) hx hb dX12_readsWaits_36 (by decide) ?_
          exact J77 v2 g56 L57 H locs ls h hP hD hS (lv_sub hl [0, 1, 2] rfl)
  exact lp12 x1 fu (0, 1, g, L) h H locs ls hP hD hS (lv_sub hl [3, 2, 1, 0] rfl)
def fX12_perhaps_p15 (fu : Nat) (v2 : Int32) (g : Nat → Nat → Int32) (L : Nat → Nat → Int64) : Option ((Int32) × zS) :=
  some (v2, (g, L))
def fX12_perhaps (fu : Nat) (p1 : Int32) (p2 : Int32) (p3 : Int32) (g : Nat → Nat → Int32) (L : Nat → Nat → Int64) : Option ((Int32) × zS) :=
  cb (fX12_isGood fu g L) (fun x1 g2 L3 =>
  if x1 = 0 then fX12_perhaps_p15 fu p2 g2 L3
  else cb (fX12_knownWord fu g2 L3) (fun x6 g7 L8 =>
  if (x6 : Int32) = p1 then cb (fX12_goes fu g7 L8) (fun x11 g12 L13 =>
  cb (fX12_number fu 0 p3 g12 L13) (fun x15 g16 L17 =>
  some (x15, (g16, L17))))
  else fX12_perhaps_p15 fu p2 g7 L8))
set_option maxHeartbeats 4000000 in
set_option maxRecDepth 100000 in
theorem rX12_perhaps (l : Launch) (G : kG) (sz : Nat) (a : Nat → Nat) (fu : Nat) (g : Nat → Nat → Int32) (L : Nat → Nat → Int64) (p1 : Int32) (p2 : Int32) (p3 : Int32) (res : Int32) (s9 : zS) (h : fX12_perhaps fu p1 p2 p3 g L = some (res, s9)) : kM l yX12_perhaps cX12_perhaps 4 (some .int) { frames := 9, cells := 0, slots := 0, locals := 178 } G [.ref (a 0), .int p1, .int p2, .int p3] (zw G MS 51 a g L) sz (kQi G (S := Unit) (fun r' _ => r' = res) (fun _ => zw G MS 51 a s9.1 s9.2)) := by
  refine kM.of (by decide) (Nat.le_of_ble_eq_true rfl) ?_
  intro p e s m below meth c A ls H C hr hlk hnm hP hD hS hl
  have C : kC G p s m c cX12_perhaps 4 RX12 A := C
  have hx := C.1
  have hb := C.2.1
  have hl : lv_has ls 4 [(0, .ref (a 0)), (1, .int p1), (2, .int p2), (3, .int p3)] := hl
  obtain ⟨locs, hlocs⟩ : ∃ q : List Loc, q = [] := ⟨_, rfl⟩
  rw [← hlocs] at hS
  rw [← hlocs]
  unfold fX12_perhaps at h
  refine lv_aload_n hx hb dX12_perhaps_0 rfl (lv_at hl 0 rfl) ?_
  obtain ⟨z_, g2, L3, hf4, h⟩ := cb_some h
  refine x_callVi (rest := []) li_X12_236 C (rX12_isGood l G H.size a fu g L z_ (g2, L3) hf4) (kR rfl) hP hD hS 0 12 rfl (zat (by decide) ms_0) rfl hl.1 rfl (Nat.le_of_ble_eq_true rfl) dX12_perhaps_1 (fun x1 u_ H locs e_ hP hD hS => ?_)
  have e_ : x1 = z_ := e_
  subst e_
  have hP : va_P G.1 vwCl (zw G MS 51 a g2 L3) H := hP
  have hD : va_D A (zw G MS 51 a g2 L3) := hD
  have J15 : ∀ (v2 : Int32) (g : Nat → Nat → Int32) (L : Nat → Nat → Int64) (H : Heap) (locs : List Loc) (ls : Array Slot), fX12_perhaps_p15 fu v2 g L = some (res, s9) → va_P G.1 vwCl (zw G MS 51 a g L) H → va_D A (zw G MS 51 a g L) → va_S A s.heap H locs → lv_has ls 4 [(2, .int v2)] → W p l e { frames := 9, cells := 0, slots := 0, locals := 178 } s m [.ref (a 0), .int p1, .int p2, .int p3].toArray below meth c H locs 0 0 (MQ below ((kQi G (S := Unit) (fun r' _ => r' = res) (fun _ => zw G MS 51 a s9.1 s9.2)) A) [.ref (a 0), .int p1, .int p2, .int p3].toArray s 0 0 A) (F0 m 15 ls []) := by
    intro v2 g L H locs ls h hP hD hS hl
    unfold fX12_perhaps_p15 at h
    refine lv_iload_n hx hb dX12_perhaps_15 rfl (lv_at hl 0 rfl) ?_
    exact y_iret C hr hlk hP hD hS h (Nat.le_of_ble_eq_true rfl) (Nat.le_of_ble_eq_true rfl) dX12_perhaps_16
  refine lv_if_eq (x := x1) (tgt := 15) hx hb dX12_perhaps_4 (by decide) (fun c5 => ?_) (fun c5 => ?_)
  ·
    have h := ite_t c5 h
    exact J15 p2 g2 L3 H locs ls h hP hD hS (lv_sub hl [2] rfl)
  ·
    have h := ite_e c5 h
    refine lv_aload_n hx hb dX12_perhaps_7 rfl (lv_at hl 0 rfl) ?_
    obtain ⟨z_, g7, L8, hf9, h⟩ := cb_some h
    refine x_callVi (rest := []) li_X12_261 C (rX12_knownWord l G H.size a fu g2 L3 z_ (g7, L8) hf9) (kR rfl) hP hD hS 0 12 rfl (zat (by decide) ms_0) rfl hl.1 rfl (Nat.le_of_ble_eq_true rfl) dX12_perhaps_8 (fun x6 u_ H locs e_ hP hD hS => ?_)
    have e_ : x6 = z_ := e_
    subst e_
    have hP : va_P G.1 vwCl (zw G MS 51 a g7 L8) H := hP
    have hD : va_D A (zw G MS 51 a g7 L8) := hD
    refine lv_iload_n hx hb dX12_perhaps_11 rfl (lv_at hl 1 rfl) ?_
    refine lv_icmp_eq (x := x6) (y := p1) (tgt := 17) hx hb dX12_perhaps_12 (by decide) (fun c10 => ?_) (fun c10 => ?_)
    ·
      have h := ite_t c10 h
      refine lv_aload_n hx hb dX12_perhaps_17 rfl (lv_at hl 0 rfl) ?_
      obtain ⟨z_, g12, L13, hf14, h⟩ := cb_some h
      refine x_callVv (rest := []) li_X12_240 C (rX12_goes l G H.size a fu g7 L8 z_ (g12, L13) hf14) (kR rfl) hP hD hS 0 12 rfl (zat (by decide) ms_0) rfl hl.1 rfl (Nat.le_of_ble_eq_true rfl) dX12_perhaps_18 (fun u_ H locs e_ hP hD hS => ?_)
      have hP : va_P G.1 vwCl (zw G MS 51 a g12 L13) H := hP
      have hD : va_D A (zw G MS 51 a g12 L13) := hD
      refine lv_aload_n hx hb dX12_perhaps_21 rfl (lv_at hl 0 rfl) ?_
      refine lv_iconst (v := 0) hx hb dX12_perhaps_22 (by decide) ?_
      refine lv_iload_n hx hb dX12_perhaps_23 rfl (lv_at hl 3 rfl) ?_
      obtain ⟨z_, g16, L17, hf18, h⟩ := cb_some h
      refine x_callVi (rest := []) li_X12_296 C (rX12_number l G H.size a fu g12 L13 0 p3 z_ (g16, L17) hf18) (kR rfl) hP hD hS 0 12 rfl (zat (by decide) ms_0) rfl hl.1 rfl (Nat.le_of_ble_eq_true rfl) dX12_perhaps_24 (fun x15 u_ H locs e_ hP hD hS => ?_)
      have e_ : x15 = z_ := e_
      subst e_
      have hP : va_P G.1 vwCl (zw G MS 51 a g16 L17) H := hP
      have hD : va_D A (zw G MS 51 a g16 L17) := hD
      exact y_iret C hr hlk hP hD hS h (Nat.le_of_ble_eq_true rfl) (Nat.le_of_ble_eq_true rfl) dX12_perhaps_27
    ·
      have h := ite_e c10 h
      exact J15 p2 g7 L8 H locs ls h hP hD hS (lv_sub hl [2] rfl)
def fX12_readsLesson_p287 (fu : Nat) (g : Nat → Nat → Int32) (L : Nat → Nat → Int64) : Option ((Unit) × zS) :=
  some ((), (g, L))
def fX12_readsLesson_p217 (fu : Nat) (v1 : Int32) (g : Nat → Nat → Int32) (L : Nat → Nat → Int64) : Option ((Unit) × zS) :=
  cb (fX12_perhaps fu 8 99 99 g L) (fun x48 g49 L50 =>
  ck (36 + v1) 48 (sti g49 24 (Int32.toNatClampNeg (36 + v1)) x48 (fun g52 =>
  cb (fX12_perhaps fu 9 10 10 g52 L50) (fun x53 g54 L55 =>
  ck v1 12 (sti g54 21 (Int32.toNatClampNeg v1) x53 (fun g57 =>
  cb (fX12_perhaps fu 10 0 30 g57 L55) (fun x58 g59 L60 =>
  ck (12 + v1) 48 (sti g59 24 (Int32.toNatClampNeg (12 + v1)) x58 (fun g62 =>
  cb (fX12_isGood fu g62 L60) (fun x63 g64 L65 =>
  if x63 = 0 then fX12_readsLesson_p287 fu g64 L65
  else sti g64 0 30 ((g64 0 30) + 1) (fun g68 =>
  fX12_readsLesson_p287 fu g68 L65)))))))))))
def fX12_readsLesson_p213 (fu : Nat) (v1 : Int32) (g : Nat → Nat → Int32) (L : Nat → Nat → Int64) : Option ((Unit) × zS) :=
  cb (fX12_readsWaits fu g L) (fun x74 g75 L76 =>
  fX12_readsLesson_p217 fu v1 g75 L76)
def fX12_readsLesson_p189 (fu : Nat) (v1 : Int32) (v2 : Int32) (t0 : Int32) (t1 : Int32) (g : Nat → Nat → Int32) (L : Nat → Nat → Int64) : Option ((Unit) × zS) :=
  ck t1 12 (sti g 19 (Int32.toNatClampNeg t1) t0 (fun g69 =>
  cb (fX12_goes fu g69 L) (fun x70 g71 L72 =>
  if (v2 : Int32) = 7 then cb (fX12_number fu 1 6 g71 L72) (fun x79 g80 L81 =>
  ck v1 12 (sti g80 20 (Int32.toNatClampNeg v1) x79 (fun g83 =>
  fX12_readsLesson_p213 fu v1 g83 L81)))
  else fX12_readsLesson_p213 fu v1 g71 L72)))
def fX12_readsLesson_p173 (fu : Nat) (v1 : Int32) (v2 : Int32) (g : Nat → Nat → Int32) (L : Nat → Nat → Int64) : Option ((Unit) × zS) :=
  if (v2 : Int32) = 6 then fX12_readsLesson_p189 fu v1 v2 0 v1 g L
  else fX12_readsLesson_p189 fu v1 v2 1 v1 g L
def fX12_readsLesson_p160 (fu : Nat) (v1 : Int32) (t0 : Int32) (g : Nat → Nat → Int32) (L : Nat → Nat → Int64) : Option ((Unit) × zS) :=
  if (t0 : Int32) = 6 then fX12_readsLesson_p173 fu v1 t0 g L
  else if (t0 : Int32) = 7 then fX12_readsLesson_p173 fu v1 t0 g L
  else fX12_readsLesson_p217 fu v1 g L
def fX12_readsLesson_p14 (fu : Nat) (g : Nat → Nat → Int32) (L : Nat → Nat → Int64) : Option ((Unit) × zS) :=
  cb (fX12_isGood fu g L) (fun x1 g2 L3 =>
  if x1 = 0 then some ((), (g2, L3))
  else cb (fX12_goes fu g2 L3) (fun x6 g7 L8 =>
  lti (g7 0 30) (fun x10 =>
  cb (fX12_number fu 0 999 g7 L8) (fun x11 g12 L13 =>
  ck x10 12 (sti g12 15 (Int32.toNatClampNeg x10) x11 (fun g15 =>
  ck x10 12 (
  cb (fX12_number fu ((g15 15 (Int32.toNatClampNeg x10)) + 1) 999 g15 L13) (fun x16 g17 L18 =>
  ck x10 12 (sti g17 16 (Int32.toNatClampNeg x10) x16 (fun g20 =>
  cb (fX12_number fu 1 200 g20 L18) (fun x21 g22 L23 =>
  ck x10 12 (sti g22 17 (Int32.toNatClampNeg x10) x21 (fun g25 =>
  cb (fX12_number fu 0 60 g25 L23) (fun x26 g27 L28 =>
  ck (0 + x10) 48 (sti g27 24 (Int32.toNatClampNeg (0 + x10)) x26 (fun g30 =>
  cb (fX12_number fu 0 9 g30 L28) (fun x31 g32 L33 =>
  ck (24 + x10) 48 (sti g32 24 (Int32.toNatClampNeg (24 + x10)) x31 (fun g35 =>
  cb (fX12_number fu 1 99 g35 L33) (fun x36 g37 L38 =>
  ck x10 12 (sti g37 18 (Int32.toNatClampNeg x10) x36 (fun g40 =>
  ck x10 12 (sti g40 19 (Int32.toNatClampNeg x10) 2 (fun g41 =>
  ck x10 12 (sti g41 20 (Int32.toNatClampNeg x10) 0 (fun g42 =>
  ck x10 12 (sti g42 22 (Int32.toNatClampNeg x10) 0 (fun g43 =>
  cb (fX12_isGood fu g43 L38) (fun x44 g45 L46 =>
  if x44 = 0 then fX12_readsLesson_p160 fu x10 (-1) g45 L46
  else cb (fX12_knownWord fu g45 L46) (fun x88 g89 L90 =>
  fX12_readsLesson_p160 fu x10 x88 g89 L90))))))))))))))))))))))))))))))
def fX12_readsLesson (fu : Nat) (g : Nat → Nat → Int32) (L : Nat → Nat → Int64) : Option ((Unit) × zS) :=
  if (g 0 30) = 12 then cb (fX12_wrong fu 2 g L) (fun x93 g94 L95 =>
  fX12_readsLesson_p14 fu g94 L95)
  else fX12_readsLesson_p14 fu g L
set_option maxHeartbeats 4000000 in
set_option maxRecDepth 100000 in
theorem rX12_readsLesson (l : Launch) (G : kG) (sz : Nat) (a : Nat → Nat) (fu : Nat) (g : Nat → Nat → Int32) (L : Nat → Nat → Int64) (res : Unit) (s9 : zS) (h : fX12_readsLesson fu g L = some (res, s9)) : kM l yX12_readsLesson cX12_readsLesson 3 none { frames := 10, cells := 0, slots := 0, locals := 201 } G [.ref (a 0)] (zw G MS 51 a g L) sz (kQv G (S := Unit) (fun _ => True) (fun _ => zw G MS 51 a s9.1 s9.2)) := by
  refine kM.of (by decide) (Nat.le_of_ble_eq_true rfl) ?_
  intro p e s m below meth c A ls H C hr hlk hnm hP hD hS hl
  have C : kC G p s m c cX12_readsLesson 3 RX12 A := C
  have hx := C.1
  have hb := C.2.1
  have hl : lv_has ls 3 [(0, .ref (a 0))] := hl
  obtain ⟨locs, hlocs⟩ : ∃ q : List Loc, q = [] := ⟨_, rfl⟩
  rw [← hlocs] at hS
  rw [← hlocs]
  unfold fX12_readsLesson at h
  refine lv_aload_n hx hb dX12_readsLesson_0 rfl (lv_at hl 0 rfl) ?_
  refine x_getv (v := .int (g 0 30)) (Or.inl fl_X12_293) C hP (by decide) ms_0 rfl dX12_readsLesson_1 ?_
  refine lv_bipush (v := 12) hx hb dX12_readsLesson_4 (by decide) ?_
  have J14 : ∀ (g : Nat → Nat → Int32) (L : Nat → Nat → Int64) (H : Heap) (locs : List Loc) (ls : Array Slot), fX12_readsLesson_p14 fu g L = some (res, s9) → va_P G.1 vwCl (zw G MS 51 a g L) H → va_D A (zw G MS 51 a g L) → va_S A s.heap H locs → lv_has ls 3 [(0, .ref (a 0))] → W p l e { frames := 10, cells := 0, slots := 0, locals := 201 } s m [.ref (a 0)].toArray below meth c H locs 0 0 (MQ below ((kQv G (S := Unit) (fun _ => True) (fun _ => zw G MS 51 a s9.1 s9.2)) A) [.ref (a 0)].toArray s 0 0 A) (F0 m 14 ls []) := by
    intro g L H locs ls h hP hD hS hl
    unfold fX12_readsLesson_p14 at h
    refine lv_aload_n hx hb dX12_readsLesson_14 rfl (lv_at hl 0 rfl) ?_
    obtain ⟨z_, g2, L3, hf4, h⟩ := cb_some h
    refine x_callVi (rest := []) li_X12_236 C (rX12_isGood l G H.size a fu g L z_ (g2, L3) hf4) (kR rfl) hP hD hS 0 12 rfl (zat (by decide) ms_0) rfl hl.1 rfl (Nat.le_of_ble_eq_true rfl) dX12_readsLesson_15 (fun x1 u_ H locs e_ hP hD hS => ?_)
    have e_ : x1 = z_ := e_
    subst e_
    have hP : va_P G.1 vwCl (zw G MS 51 a g2 L3) H := hP
    have hD : va_D A (zw G MS 51 a g2 L3) := hD
    refine lv_if_ne (x := x1) (tgt := 22) hx hb dX12_readsLesson_18 (by decide) (fun c5 => ?_) (fun c5 => ?_)
    ·
      have h := ite_e c5 h
      refine lv_aload_n hx hb dX12_readsLesson_22 rfl (lv_at hl 0 rfl) ?_
      obtain ⟨z_, g7, L8, hf9, h⟩ := cb_some h
      refine x_callVv (rest := []) li_X12_240 C (rX12_goes l G H.size a fu g2 L3 z_ (g7, L8) hf9) (kR rfl) hP hD hS 0 12 rfl (zat (by decide) ms_0) rfl hl.1 rfl (Nat.le_of_ble_eq_true rfl) dX12_readsLesson_23 (fun u_ H locs e_ hP hD hS => ?_)
      have hP : va_P G.1 vwCl (zw G MS 51 a g7 L8) H := hP
      have hD : va_D A (zw G MS 51 a g7 L8) := hD
      refine lv_aload_n hx hb dX12_readsLesson_26 rfl (lv_at hl 0 rfl) ?_
      refine x_getv (v := .int (g7 0 30)) (Or.inl fl_X12_293) C hP (by decide) ms_0 rfl dX12_readsLesson_27 ?_
      refine y_let h (fun x10 h => ?_)
      refine lv_istore_n (lv' := [(1, .int x10), (0, .ref (a 0))]) hx hb dX12_readsLesson_30 rfl hl (by decide) rfl (fun ls hl => ?_)
      refine lv_aload_n hx hb dX12_readsLesson_31 rfl (lv_at hl 1 rfl) ?_
      refine x_getr (Or.inl fl_X12_62) C hP (by decide) ms_0 rfl dX12_readsLesson_32 ?_
      refine lv_iload_n hx hb dX12_readsLesson_35 rfl (lv_at hl 0 rfl) ?_
      refine lv_aload_n hx hb dX12_readsLesson_36 rfl (lv_at hl 1 rfl) ?_
      refine lv_iconst (v := 0) hx hb dX12_readsLesson_37 (by decide) ?_
      refine lv_sipush (v := 999) hx hb dX12_readsLesson_38 (by decide) ?_
      obtain ⟨z_, g12, L13, hf14, h⟩ := cb_some h
      refine x_callVi (rest := [.int x10, .ref (a 15)]) li_X12_296 C (rX12_number l G H.size a fu g7 L8 0 999 z_ (g12, L13) hf14) (kR rfl) hP hD hS 0 12 rfl (zat (by decide) ms_0) rfl hl.1 rfl (Nat.le_of_ble_eq_true rfl) dX12_readsLesson_41 (fun x11 u_ H locs e_ hP hD hS => ?_)
      have e_ : x11 = z_ := e_
      subst e_
      have hP : va_P G.1 vwCl (zw G MS 51 a g12 L13) H := hP
      have hD : va_D A (zw G MS 51 a g12 L13) := hD
      refine y_ast C hP hD hS (by decide) ms_15 dX12_readsLesson_44 h (fun g15 H locs h hP hD hS => ?_)
      refine lv_aload_n hx hb dX12_readsLesson_45 rfl (lv_at hl 1 rfl) ?_
      refine x_getr (Or.inl fl_X12_65) C hP (by decide) ms_0 rfl dX12_readsLesson_46 ?_
      refine lv_iload_n hx hb dX12_readsLesson_49 rfl (lv_at hl 0 rfl) ?_
      refine lv_aload_n hx hb dX12_readsLesson_50 rfl (lv_at hl 1 rfl) ?_
      refine lv_aload_n hx hb dX12_readsLesson_51 rfl (lv_at hl 1 rfl) ?_
      refine x_getr (Or.inl fl_X12_62) C hP (by decide) ms_0 rfl dX12_readsLesson_52 ?_
      refine lv_iload_n hx hb dX12_readsLesson_55 rfl (lv_at hl 0 rfl) ?_
      refine y_ald C hP (by decide) ms_15 dX12_readsLesson_56 h (fun h => ?_)
      refine lv_iconst (v := 1) hx hb dX12_readsLesson_57 (by decide) ?_
      refine lv_iadd hx hb dX12_readsLesson_58 ?_
      refine lv_sipush (v := 999) hx hb dX12_readsLesson_59 (by decide) ?_
      obtain ⟨z_, g17, L18, hf19, h⟩ := cb_some h
      refine x_callVi (rest := [.int x10, .ref (a 16)]) li_X12_296 C (rX12_number l G H.size a fu g15 L13 ((g15 15 (Int32.toNatClampNeg x10)) + 1) 999 z_ (g17, L18) hf19) (kR rfl) hP hD hS 0 12 rfl (zat (by decide) ms_0) rfl hl.1 rfl (Nat.le_of_ble_eq_true rfl) dX12_readsLesson_62 (fun x16 u_ H locs e_ hP hD hS => ?_)
      have e_ : x16 = z_ := e_
      subst e_
      have hP : va_P G.1 vwCl (zw G MS 51 a g17 L18) H := hP
      have hD : va_D A (zw G MS 51 a g17 L18) := hD
      refine y_ast C hP hD hS (by decide) ms_16 dX12_readsLesson_65 h (fun g20 H locs h hP hD hS => ?_)
      refine lv_aload_n hx hb dX12_readsLesson_66 rfl (lv_at hl 1 rfl) ?_
      refine x_getr (Or.inl fl_X12_68) C hP (by decide) ms_0 rfl dX12_readsLesson_67 ?_
      refine lv_iload_n hx hb dX12_readsLesson_70 rfl (lv_at hl 0 rfl) ?_
      refine lv_aload_n hx hb dX12_readsLesson_71 rfl (lv_at hl 1 rfl) ?_
      refine lv_iconst (v := 1) hx hb dX12_readsLesson_72 (by decide) ?_
      refine lv_sipush (v := 200) hx hb dX12_readsLesson_73 (by decide) ?_
      obtain ⟨z_, g22, L23, hf24, h⟩ := cb_some h
      refine x_callVi (rest := [.int x10, .ref (a 17)]) li_X12_296 C (rX12_number l G H.size a fu g20 L18 1 200 z_ (g22, L23) hf24) (kR rfl) hP hD hS 0 12 rfl (zat (by decide) ms_0) rfl hl.1 rfl (Nat.le_of_ble_eq_true rfl) dX12_readsLesson_76 (fun x21 u_ H locs e_ hP hD hS => ?_)
      have e_ : x21 = z_ := e_
      subst e_
      have hP : va_P G.1 vwCl (zw G MS 51 a g22 L23) H := hP
      have hD : va_D A (zw G MS 51 a g22 L23) := hD
      refine y_ast C hP hD hS (by decide) ms_17 dX12_readsLesson_79 h (fun g25 H locs h hP hD hS => ?_)
      refine lv_aload_n hx hb dX12_readsLesson_80 rfl (lv_at hl 1 rfl) ?_
      refine x_getr (Or.inl fl_X12_89) C hP (by decide) ms_0 rfl dX12_readsLesson_81 ?_
      refine lv_iconst (v := 0) hx hb dX12_readsLesson_84 (by decide) ?_
      refine lv_iload_n hx hb dX12_readsLesson_85 rfl (lv_at hl 0 rfl) ?_
      refine lv_iadd hx hb dX12_readsLesson_86 ?_
      refine lv_aload_n hx hb dX12_readsLesson_87 rfl (lv_at hl 1 rfl) ?_
      refine lv_iconst (v := 0) hx hb dX12_readsLesson_88 (by decide) ?_
      refine lv_bipush (v := 60) hx hb dX12_readsLesson_89 (by decide) ?_
      obtain ⟨z_, g27, L28, hf29, h⟩ := cb_some h
      refine x_callVi (rest := [.int (0 + x10), .ref (a 24)]) li_X12_296 C (rX12_number l G H.size a fu g25 L23 0 60 z_ (g27, L28) hf29) (kR rfl) hP hD hS 0 12 rfl (zat (by decide) ms_0) rfl hl.1 rfl (Nat.le_of_ble_eq_true rfl) dX12_readsLesson_91 (fun x26 u_ H locs e_ hP hD hS => ?_)
      have e_ : x26 = z_ := e_
      subst e_
      have hP : va_P G.1 vwCl (zw G MS 51 a g27 L28) H := hP
      have hD : va_D A (zw G MS 51 a g27 L28) := hD
      refine y_ast C hP hD hS (by decide) ms_24 dX12_readsLesson_94 h (fun g30 H locs h hP hD hS => ?_)
      refine lv_aload_n hx hb dX12_readsLesson_95 rfl (lv_at hl 1 rfl) ?_
      refine x_getr (Or.inl fl_X12_89) C hP (by decide) ms_0 rfl dX12_readsLesson_96 ?_
      refine lv_bipush (v := 24) hx hb dX12_readsLesson_99 (by decide) ?_
      refine lv_iload_n hx hb dX12_readsLesson_101 rfl (lv_at hl 0 rfl) ?_
      refine lv_iadd hx hb dX12_readsLesson_102 ?_
      refine lv_aload_n hx hb dX12_readsLesson_103 rfl (lv_at hl 1 rfl) ?_
      refine lv_iconst (v := 0) hx hb dX12_readsLesson_104 (by decide) ?_
      refine lv_bipush (v := 9) hx hb dX12_readsLesson_105 (by decide) ?_
      obtain ⟨z_, g32, L33, hf34, h⟩ := cb_some h
      refine x_callVi (rest := [.int (24 + x10), .ref (a 24)]) li_X12_296 C (rX12_number l G H.size a fu g30 L28 0 9 z_ (g32, L33) hf34) (kR rfl) hP hD hS 0 12 rfl (zat (by decide) ms_0) rfl hl.1 rfl (Nat.le_of_ble_eq_true rfl) dX12_readsLesson_107 (fun x31 u_ H locs e_ hP hD hS => ?_)
      have e_ : x31 = z_ := e_
      subst e_
      have hP : va_P G.1 vwCl (zw G MS 51 a g32 L33) H := hP
      have hD : va_D A (zw G MS 51 a g32 L33) := hD
      refine y_ast C hP hD hS (by decide) ms_24 dX12_readsLesson_110 h (fun g35 H locs h hP hD hS => ?_)
      refine lv_aload_n hx hb dX12_readsLesson_111 rfl (lv_at hl 1 rfl) ?_
      refine x_getr (Or.inl fl_X12_71) C hP (by decide) ms_0 rfl dX12_readsLesson_112 ?_
      refine lv_iload_n hx hb dX12_readsLesson_115 rfl (lv_at hl 0 rfl) ?_
      refine lv_aload_n hx hb dX12_readsLesson_116 rfl (lv_at hl 1 rfl) ?_
      refine lv_iconst (v := 1) hx hb dX12_readsLesson_117 (by decide) ?_
      refine lv_bipush (v := 99) hx hb dX12_readsLesson_118 (by decide) ?_
      obtain ⟨z_, g37, L38, hf39, h⟩ := cb_some h
      refine x_callVi (rest := [.int x10, .ref (a 18)]) li_X12_296 C (rX12_number l G H.size a fu g35 L33 1 99 z_ (g37, L38) hf39) (kR rfl) hP hD hS 0 12 rfl (zat (by decide) ms_0) rfl hl.1 rfl (Nat.le_of_ble_eq_true rfl) dX12_readsLesson_120 (fun x36 u_ H locs e_ hP hD hS => ?_)
      have e_ : x36 = z_ := e_
      subst e_
      have hP : va_P G.1 vwCl (zw G MS 51 a g37 L38) H := hP
      have hD : va_D A (zw G MS 51 a g37 L38) := hD
      refine y_ast C hP hD hS (by decide) ms_18 dX12_readsLesson_123 h (fun g40 H locs h hP hD hS => ?_)
      refine lv_aload_n hx hb dX12_readsLesson_124 rfl (lv_at hl 1 rfl) ?_
      refine x_getr (Or.inl fl_X12_74) C hP (by decide) ms_0 rfl dX12_readsLesson_125 ?_
      refine lv_iload_n hx hb dX12_readsLesson_128 rfl (lv_at hl 0 rfl) ?_
      refine lv_iconst (v := 2) hx hb dX12_readsLesson_129 (by decide) ?_
      refine y_ast C hP hD hS (by decide) ms_19 dX12_readsLesson_130 h (fun g41 H locs h hP hD hS => ?_)
      refine lv_aload_n hx hb dX12_readsLesson_131 rfl (lv_at hl 1 rfl) ?_
      refine x_getr (Or.inl fl_X12_77) C hP (by decide) ms_0 rfl dX12_readsLesson_132 ?_
      refine lv_iload_n hx hb dX12_readsLesson_135 rfl (lv_at hl 0 rfl) ?_
      refine lv_iconst (v := 0) hx hb dX12_readsLesson_136 (by decide) ?_
      refine y_ast C hP hD hS (by decide) ms_20 dX12_readsLesson_137 h (fun g42 H locs h hP hD hS => ?_)
      refine lv_aload_n hx hb dX12_readsLesson_138 rfl (lv_at hl 1 rfl) ?_
      refine x_getr (Or.inl fl_X12_83) C hP (by decide) ms_0 rfl dX12_readsLesson_139 ?_
      refine lv_iload_n hx hb dX12_readsLesson_142 rfl (lv_at hl 0 rfl) ?_
      refine lv_iconst (v := 0) hx hb dX12_readsLesson_143 (by decide) ?_
      refine y_ast C hP hD hS (by decide) ms_22 dX12_readsLesson_144 h (fun g43 H locs h hP hD hS => ?_)
      refine lv_aload_n hx hb dX12_readsLesson_145 rfl (lv_at hl 1 rfl) ?_
      obtain ⟨z_, g45, L46, hf47, h⟩ := cb_some h
      refine x_callVi (rest := []) li_X12_236 C (rX12_isGood l G H.size a fu g43 L38 z_ (g45, L46) hf47) (kR rfl) hP hD hS 0 12 rfl (zat (by decide) ms_0) rfl hl.1 rfl (Nat.le_of_ble_eq_true rfl) dX12_readsLesson_146 (fun x44 u_ H locs e_ hP hD hS => ?_)
      have e_ : x44 = z_ := e_
      subst e_
      have hP : va_P G.1 vwCl (zw G MS 51 a g45 L46) H := hP
      have hD : va_D A (zw G MS 51 a g45 L46) := hD
      have J160 : ∀ (v1 : Int32) (t0 : Int32) (g : Nat → Nat → Int32) (L : Nat → Nat → Int64) (H : Heap) (locs : List Loc) (ls : Array Slot), fX12_readsLesson_p160 fu v1 t0 g L = some (res, s9) → va_P G.1 vwCl (zw G MS 51 a g L) H → va_D A (zw G MS 51 a g L) → va_S A s.heap H locs → lv_has ls 3 [(0, .ref (a 0)), (1, .int v1)] → W p l e { frames := 10, cells := 0, slots := 0, locals := 201 } s m [.ref (a 0)].toArray below meth c H locs 0 0 (MQ below ((kQv G (S := Unit) (fun _ => True) (fun _ => zw G MS 51 a s9.1 s9.2)) A) [.ref (a 0)].toArray s 0 0 A) (F0 m 160 ls [.int t0]) := by
        intro v1 t0 g L H locs ls h hP hD hS hl
        unfold fX12_readsLesson_p160 at h
        refine lv_istore_n (lv' := [(2, .int t0), (0, .ref (a 0)), (1, .int v1)]) hx hb dX12_readsLesson_160 rfl hl (by decide) rfl (fun ls hl => ?_)
        refine lv_iload_n hx hb dX12_readsLesson_161 rfl (lv_at hl 0 rfl) ?_
        refine lv_bipush (v := 6) hx hb dX12_readsLesson_162 (by decide) ?_
        have J217 : ∀ (v1 : Int32) (g : Nat → Nat → Int32) (L : Nat → Nat → Int64) (H : Heap) (locs : List Loc) (ls : Array Slot), fX12_readsLesson_p217 fu v1 g L = some (res, s9) → va_P G.1 vwCl (zw G MS 51 a g L) H → va_D A (zw G MS 51 a g L) → va_S A s.heap H locs → lv_has ls 3 [(0, .ref (a 0)), (1, .int v1)] → W p l e { frames := 10, cells := 0, slots := 0, locals := 201 } s m [.ref (a 0)].toArray below meth c H locs 0 0 (MQ below ((kQv G (S := Unit) (fun _ => True) (fun _ => zw G MS 51 a s9.1 s9.2)) A) [.ref (a 0)].toArray s 0 0 A) (F0 m 217 ls []) := by
          intro v1 g L H locs ls h hP hD hS hl
          unfold fX12_readsLesson_p217 at h
          refine lv_aload_n hx hb dX12_readsLesson_217 rfl (lv_at hl 0 rfl) ?_
          refine x_getr (Or.inl fl_X12_89) C hP (by decide) ms_0 rfl dX12_readsLesson_218 ?_
          refine lv_bipush (v := 36) hx hb dX12_readsLesson_221 (by decide) ?_
          refine lv_iload_n hx hb dX12_readsLesson_223 rfl (lv_at hl 1 rfl) ?_
          refine lv_iadd hx hb dX12_readsLesson_224 ?_
          refine lv_aload_n hx hb dX12_readsLesson_225 rfl (lv_at hl 0 rfl) ?_
          refine lv_bipush (v := 8) hx hb dX12_readsLesson_226 (by decide) ?_
          refine lv_bipush (v := 99) hx hb dX12_readsLesson_228 (by decide) ?_
          refine lv_bipush (v := 99) hx hb dX12_readsLesson_230 (by decide) ?_
          obtain ⟨z_, g49, L50, hf51, h⟩ := cb_some h
          refine x_callVi (rest := [.int (36 + v1), .ref (a 24)]) li_X12_303 C (rX12_perhaps l G H.size a fu g L 8 99 99 z_ (g49, L50) hf51) (kR rfl) hP hD hS 0 12 rfl (zat (by decide) ms_0) rfl hl.1 rfl (Nat.le_of_ble_eq_true rfl) dX12_readsLesson_232 (fun x48 u_ H locs e_ hP hD hS => ?_)
          have e_ : x48 = z_ := e_
          subst e_
          have hP : va_P G.1 vwCl (zw G MS 51 a g49 L50) H := hP
          have hD : va_D A (zw G MS 51 a g49 L50) := hD
          refine y_ast C hP hD hS (by decide) ms_24 dX12_readsLesson_235 h (fun g52 H locs h hP hD hS => ?_)
          refine lv_aload_n hx hb dX12_readsLesson_236 rfl (lv_at hl 0 rfl) ?_
          refine x_getr (Or.inl fl_X12_80) C hP (by decide) ms_0 rfl dX12_readsLesson_237 ?_
          refine lv_iload_n hx hb dX12_readsLesson_240 rfl (lv_at hl 1 rfl) ?_
          refine lv_aload_n hx hb dX12_readsLesson_241 rfl (lv_at hl 0 rfl) ?_
          refine lv_bipush (v := 9) hx hb dX12_readsLesson_242 (by decide) ?_
          refine lv_bipush (v := 10) hx hb dX12_readsLesson_244 (by decide) ?_
          refine lv_bipush (v := 10) hx hb dX12_readsLesson_246 (by decide) ?_
          obtain ⟨z_, g54, L55, hf56, h⟩ := cb_some h
          refine x_callVi (rest := [.int v1, .ref (a 21)]) li_X12_303 C (rX12_perhaps l G H.size a fu g52 L50 9 10 10 z_ (g54, L55) hf56) (kR rfl) hP hD hS 0 12 rfl (zat (by decide) ms_0) rfl hl.1 rfl (Nat.le_of_ble_eq_true rfl) dX12_readsLesson_248 (fun x53 u_ H locs e_ hP hD hS => ?_)
          have e_ : x53 = z_ := e_
          subst e_
          have hP : va_P G.1 vwCl (zw G MS 51 a g54 L55) H := hP
          have hD : va_D A (zw G MS 51 a g54 L55) := hD
          refine y_ast C hP hD hS (by decide) ms_21 dX12_readsLesson_251 h (fun g57 H locs h hP hD hS => ?_)
          refine lv_aload_n hx hb dX12_readsLesson_252 rfl (lv_at hl 0 rfl) ?_
          refine x_getr (Or.inl fl_X12_89) C hP (by decide) ms_0 rfl dX12_readsLesson_253 ?_
          refine lv_bipush (v := 12) hx hb dX12_readsLesson_256 (by decide) ?_
          refine lv_iload_n hx hb dX12_readsLesson_258 rfl (lv_at hl 1 rfl) ?_
          refine lv_iadd hx hb dX12_readsLesson_259 ?_
          refine lv_aload_n hx hb dX12_readsLesson_260 rfl (lv_at hl 0 rfl) ?_
          refine lv_bipush (v := 10) hx hb dX12_readsLesson_261 (by decide) ?_
          refine lv_iconst (v := 0) hx hb dX12_readsLesson_263 (by decide) ?_
          refine lv_bipush (v := 30) hx hb dX12_readsLesson_264 (by decide) ?_
          obtain ⟨z_, g59, L60, hf61, h⟩ := cb_some h
          refine x_callVi (rest := [.int (12 + v1), .ref (a 24)]) li_X12_303 C (rX12_perhaps l G H.size a fu g57 L55 10 0 30 z_ (g59, L60) hf61) (kR rfl) hP hD hS 0 12 rfl (zat (by decide) ms_0) rfl hl.1 rfl (Nat.le_of_ble_eq_true rfl) dX12_readsLesson_266 (fun x58 u_ H locs e_ hP hD hS => ?_)
          have e_ : x58 = z_ := e_
          subst e_
          have hP : va_P G.1 vwCl (zw G MS 51 a g59 L60) H := hP
          have hD : va_D A (zw G MS 51 a g59 L60) := hD
          refine y_ast C hP hD hS (by decide) ms_24 dX12_readsLesson_269 h (fun g62 H locs h hP hD hS => ?_)
          refine lv_aload_n hx hb dX12_readsLesson_270 rfl (lv_at hl 0 rfl) ?_
          obtain ⟨z_, g64, L65, hf66, h⟩ := cb_some h
          refine x_callVi (rest := []) li_X12_236 C (rX12_isGood l G H.size a fu g62 L60 z_ (g64, L65) hf66) (kR rfl) hP hD hS 0 12 rfl (zat (by decide) ms_0) rfl hl.1 rfl (Nat.le_of_ble_eq_true rfl) dX12_readsLesson_271 (fun x63 u_ H locs e_ hP hD hS => ?_)
          have e_ : x63 = z_ := e_
          subst e_
          have hP : va_P G.1 vwCl (zw G MS 51 a g64 L65) H := hP
          have hD : va_D A (zw G MS 51 a g64 L65) := hD
          have J287 : ∀ (g : Nat → Nat → Int32) (L : Nat → Nat → Int64) (H : Heap) (locs : List Loc) (ls : Array Slot), fX12_readsLesson_p287 fu g L = some (res, s9) → va_P G.1 vwCl (zw G MS 51 a g L) H → va_D A (zw G MS 51 a g L) → va_S A s.heap H locs → lv_has ls 3 [] → W p l e { frames := 10, cells := 0, slots := 0, locals := 201 } s m [.ref (a 0)].toArray below meth c H locs 0 0 (MQ below ((kQv G (S := Unit) (fun _ => True) (fun _ => zw G MS 51 a s9.1 s9.2)) A) [.ref (a 0)].toArray s 0 0 A) (F0 m 287 ls []) := by
            intro g L H locs ls h hP hD hS hl
            unfold fX12_readsLesson_p287 at h
            exact y_vret C hr hlk hP hD hS h (Nat.le_of_ble_eq_true rfl) (Nat.le_of_ble_eq_true rfl) dX12_readsLesson_287
          refine lv_if_eq (x := x63) (tgt := 287) hx hb dX12_readsLesson_274 (by decide) (fun c67 => ?_) (fun c67 => ?_)
          ·
            have h := ite_t c67 h
            exact J287 g64 L65 H locs ls h hP hD hS (lv_sub hl [] rfl)
          ·
            have h := ite_e c67 h
            refine lv_aload_n hx hb dX12_readsLesson_277 rfl (lv_at hl 0 rfl) ?_
            refine lv_dup hx hb dX12_readsLesson_278 rfl ?_
            refine x_getv (v := .int (g64 0 30)) (Or.inl fl_X12_293) C hP (by decide) ms_0 rfl dX12_readsLesson_279 ?_
            refine lv_iconst (v := 1) hx hb dX12_readsLesson_282 (by decide) ?_
            refine lv_iadd hx hb dX12_readsLesson_283 ?_
            refine y_puti (Or.inl fl_X12_293) ft_X12_30 C hP hD hS (by decide) ms_0 rfl rfl rfl dX12_readsLesson_284 h (fun g68 H locs h hP hD hS => ?_)
            exact J287 g68 L65 H locs ls h hP hD hS (lv_sub hl [] rfl)
        have J173 : ∀ (v1 : Int32) (v2 : Int32) (g : Nat → Nat → Int32) (L : Nat → Nat → Int64) (H : Heap) (locs : List Loc) (ls : Array Slot), fX12_readsLesson_p173 fu v1 v2 g L = some (res, s9) → va_P G.1 vwCl (zw G MS 51 a g L) H → va_D A (zw G MS 51 a g L) → va_S A s.heap H locs → lv_has ls 3 [(0, .ref (a 0)), (1, .int v1), (2, .int v2)] → W p l e { frames := 10, cells := 0, slots := 0, locals := 201 } s m [.ref (a 0)].toArray below meth c H locs 0 0 (MQ below ((kQv G (S := Unit) (fun _ => True) (fun _ => zw G MS 51 a s9.1 s9.2)) A) [.ref (a 0)].toArray s 0 0 A) (F0 m 173 ls []) := by
          intro v1 v2 g L H locs ls h hP hD hS hl
          unfold fX12_readsLesson_p173 at h
          refine lv_aload_n hx hb dX12_readsLesson_173 rfl (lv_at hl 0 rfl) ?_
          refine x_getr (Or.inl fl_X12_74) C hP (by decide) ms_0 rfl dX12_readsLesson_174 ?_
          refine lv_iload_n hx hb dX12_readsLesson_177 rfl (lv_at hl 1 rfl) ?_
          refine lv_iload_n hx hb dX12_readsLesson_178 rfl (lv_at hl 2 rfl) ?_
          refine lv_bipush (v := 6) hx hb dX12_readsLesson_179 (by decide) ?_
          have J189 : ∀ (v1 : Int32) (v2 : Int32) (t0 : Int32) (t1 : Int32) (g : Nat → Nat → Int32) (L : Nat → Nat → Int64) (H : Heap) (locs : List Loc) (ls : Array Slot), fX12_readsLesson_p189 fu v1 v2 t0 t1 g L = some (res, s9) → va_P G.1 vwCl (zw G MS 51 a g L) H → va_D A (zw G MS 51 a g L) → va_S A s.heap H locs → lv_has ls 3 [(0, .ref (a 0)), (1, .int v1), (2, .int v2)] → W p l e { frames := 10, cells := 0, slots := 0, locals := 201 } s m [.ref (a 0)].toArray below meth c H locs 0 0 (MQ below ((kQv G (S := Unit) (fun _ => True) (fun _ => zw G MS 51 a s9.1 s9.2)) A) [.ref (a 0)].toArray s 0 0 A) (F0 m 189 ls [.int t0, .int t1, .ref (a 19)]) := by
            intro v1 v2 t0 t1 g L H locs ls h hP hD hS hl
            unfold fX12_readsLesson_p189 at h
            refine y_ast C hP hD hS (by decide) ms_19 dX12_readsLesson_189 h (fun g69 H locs h hP hD hS => ?_)
            refine lv_aload_n hx hb dX12_readsLesson_190 rfl (lv_at hl 0 rfl) ?_
            obtain ⟨z_, g71, L72, hf73, h⟩ := cb_some h
            refine x_callVv (rest := []) li_X12_240 C (rX12_goes l G H.size a fu g69 L z_ (g71, L72) hf73) (kR rfl) hP hD hS 0 12 rfl (zat (by decide) ms_0) rfl hl.1 rfl (Nat.le_of_ble_eq_true rfl) dX12_readsLesson_191 (fun u_ H locs e_ hP hD hS => ?_)
            have hP : va_P G.1 vwCl (zw G MS 51 a g71 L72) H := hP
            have hD : va_D A (zw G MS 51 a g71 L72) := hD
            refine lv_iload_n hx hb dX12_readsLesson_194 rfl (lv_at hl 2 rfl) ?_
            refine lv_bipush (v := 7) hx hb dX12_readsLesson_195 (by decide) ?_
            have J213 : ∀ (v1 : Int32) (g : Nat → Nat → Int32) (L : Nat → Nat → Int64) (H : Heap) (locs : List Loc) (ls : Array Slot), fX12_readsLesson_p213 fu v1 g L = some (res, s9) → va_P G.1 vwCl (zw G MS 51 a g L) H → va_D A (zw G MS 51 a g L) → va_S A s.heap H locs → lv_has ls 3 [(0, .ref (a 0)), (1, .int v1)] → W p l e { frames := 10, cells := 0, slots := 0, locals := 201 } s m [.ref (a 0)].toArray below meth c H locs 0 0 (MQ below ((kQv G (S := Unit) (fun _ => True) (fun _ => zw G MS 51 a s9.1 s9.2)) A) [.ref (a 0)].toArray s 0 0 A) (F0 m 213 ls []) := by
              intro v1 g L H locs ls h hP hD hS hl
              unfold fX12_readsLesson_p213 at h
              refine lv_aload_n hx hb dX12_readsLesson_213 rfl (lv_at hl 0 rfl) ?_
              obtain ⟨z_, g75, L76, hf77, h⟩ := cb_some h
              refine x_callVv (rest := []) li_X12_300 C (rX12_readsWaits l G H.size a fu g L z_ (g75, L76) hf77) (kR rfl) hP hD hS 0 12 rfl (zat (by decide) ms_0) rfl hl.1 rfl (Nat.le_of_ble_eq_true rfl) dX12_readsLesson_214 (fun u_ H locs e_ hP hD hS => ?_)
              have hP : va_P G.1 vwCl (zw G MS 51 a g75 L76) H := hP
              have hD : va_D A (zw G MS 51 a g75 L76) := hD
              exact J217 v1 g75 L76 H locs ls h hP hD hS (lv_sub hl [0, 1] rfl)
            refine lv_icmp_ne (x := v2) (y := 7) (tgt := 213) hx hb dX12_readsLesson_197 (by decide) (fun c78 => ?_) (fun c78 => ?_)
            ·
              have h := ite_e c78 h
              exact J213 v1 g71 L72 H locs ls h hP hD hS (lv_sub hl [0, 1] rfl)
            ·
              have h := ite_t c78 h
              refine lv_aload_n hx hb dX12_readsLesson_200 rfl (lv_at hl 0 rfl) ?_
              refine x_getr (Or.inl fl_X12_77) C hP (by decide) ms_0 rfl dX12_readsLesson_201 ?_
              refine lv_iload_n hx hb dX12_readsLesson_204 rfl (lv_at hl 1 rfl) ?_
              refine lv_aload_n hx hb dX12_readsLesson_205 rfl (lv_at hl 0 rfl) ?_
              refine lv_iconst (v := 1) hx hb dX12_readsLesson_206 (by decide) ?_
              refine lv_bipush (v := 6) hx hb dX12_readsLesson_207 (by decide) ?_
              obtain ⟨z_, g80, L81, hf82, h⟩ := cb_some h
              refine x_callVi (rest := [.int v1, .ref (a 20)]) li_X12_296 C (rX12_number l G H.size a fu g71 L72 1 6 z_ (g80, L81) hf82) (kR rfl) hP hD hS 0 12 rfl (zat (by decide) ms_0) rfl hl.1 rfl (Nat.le_of_ble_eq_true rfl) dX12_readsLesson_209 (fun x79 u_ H locs e_ hP hD hS => ?_)
              have e_ : x79 = z_ := e_
              subst e_
              have hP : va_P G.1 vwCl (zw G MS 51 a g80 L81) H := hP
              have hD : va_D A (zw G MS 51 a g80 L81) := hD
              refine y_ast C hP hD hS (by decide) ms_20 dX12_readsLesson_212 h (fun g83 H locs h hP hD hS => ?_)
              exact J213 v1 g83 L81 H locs ls h hP hD hS (lv_sub hl [0, 1] rfl)
          refine lv_icmp_ne (x := v2) (y := 6) (tgt := 188) hx hb dX12_readsLesson_181 (by decide) (fun c84 => ?_) (fun c84 => ?_)
          ·
            have h := ite_e c84 h
            refine lv_iconst (v := 1) hx hb dX12_readsLesson_188 (by decide) ?_
            exact J189 v1 v2 1 v1 g L H locs ls h hP hD hS (lv_sub hl [0, 1, 2] rfl)
          ·
            have h := ite_t c84 h
            refine lv_iconst (v := 0) hx hb dX12_readsLesson_184 (by decide) ?_
            refine lv_goto (tgt := 189) hx hb dX12_readsLesson_185 (by decide) ?_
            exact J189 v1 v2 0 v1 g L H locs ls h hP hD hS (lv_sub hl [0, 1, 2] rfl)
        refine lv_icmp_eq (x := t0) (y := 6) (tgt := 173) hx hb dX12_readsLesson_164 (by decide) (fun c85 => ?_) (fun c85 => ?_)
        ·
          have h := ite_t c85 h
          exact J173 v1 t0 g L H locs ls h hP hD hS (lv_sub hl [1, 2, 0] rfl)
        ·
          have h := ite_e c85 h
          refine lv_iload_n hx hb dX12_readsLesson_167 rfl (lv_at hl 0 rfl) ?_
          refine lv_bipush (v := 7) hx hb dX12_readsLesson_168 (by decide) ?_
          refine lv_icmp_ne (x := t0) (y := 7) (tgt := 217) hx hb dX12_readsLesson_170 (by decide) (fun c86 => ?_) (fun c86 => ?_)
          ·
            have h := ite_e c86 h
            exact J217 v1 g L H locs ls h hP hD hS (lv_sub hl [1, 2] rfl)
          ·
            have h := ite_t c86 h
            exact J173 v1 t0 g L H locs ls h hP hD hS (lv_sub hl [1, 2, 0] rfl)
      refine lv_if_eq (x := x44) (tgt := 159) hx hb dX12_readsLesson_149 (by decide) (fun c87 => ?_) (fun c87 => ?_)
      ·
        have h := ite_t c87 h
        refine lv_iconst (v := -1) hx hb dX12_readsLesson_159 (by decide) ?_
        exact J160 x10 (-1) g45 L46 H locs ls h hP hD hS (lv_sub hl [1, 0] rfl)
      ·
        have h := ite_e c87 h
        refine lv_aload_n hx hb dX12_readsLesson_152 rfl (lv_at hl 1 rfl) ?_
        obtain ⟨z_, g89, L90, hf91, h⟩ := cb_some h
        refine x_callVi (rest := []) li_X12_261 C (rX12_knownWord l G H.size a fu g45 L46 z_ (g89, L90) hf91) (kR rfl) hP hD hS 0 12 rfl (zat (by decide) ms_0) rfl hl.1 rfl (Nat.le_of_ble_eq_true rfl) dX12_readsLesson_153 (fun x88 u_ H locs e_ hP hD hS => ?_)
        have e_ : x88 = z_ := e_
        subst e_
        have hP : va_P G.1 vwCl (zw G MS 51 a g89 L90) H := hP
        have hD : va_D A (zw G MS 51 a g89 L90) := hD
        refine lv_goto (tgt := 160) hx hb dX12_readsLesson_156 (by decide) ?_
        exact J160 x10 x88 g89 L90 H locs ls h hP hD hS (lv_sub hl [1, 0] rfl)
    ·
      have h := ite_t c5 h
      exact y_vret C hr hlk hP hD hS h (Nat.le_of_ble_eq_true rfl) (Nat.le_of_ble_eq_true rfl) dX12_readsLesson_21
  refine lv_icmp_ne (x := (g 0 30)) (y := 12) (tgt := 14) hx hb dX12_readsLesson_6 (by decide) (fun c92 => ?_) (fun c92 => ?_)
  ·
    have h := ite_e c92 h
    exact J14 g L H locs ls h hP hD hS (lv_sub hl [0] rfl)
  ·
    have h := ite_t c92 h
    refine lv_aload_n hx hb dX12_readsLesson_9 rfl (lv_at hl 0 rfl) ?_
    refine lv_iconst (v := 2) hx hb dX12_readsLesson_10 (by decide) ?_
    obtain ⟨z_, g94, L95, hf96, h⟩ := cb_some h
    refine x_callVv (rest := []) li_X12_243 C (rX12_wrong l G H.size a fu g L 2 z_ (g94, L95) hf96) (kR rfl) hP hD hS 0 12 rfl (zat (by decide) ms_0) rfl hl.1 rfl (Nat.le_of_ble_eq_true rfl) dX12_readsLesson_11 (fun u_ H locs e_ hP hD hS => ?_)
    have hP : va_P G.1 vwCl (zw G MS 51 a g94 L95) H := hP
    have hD : va_D A (zw G MS 51 a g94 L95) := hD
    exact J14 g94 L95 H locs ls h hP hD hS (lv_sub hl [0] rfl)
def fX12_line_p170 (fu : Nat) (g : Nat → Nat → Int32) (L : Nat → Nat → Int64) : Option ((Unit) × zS) :=
  cb (fX12_isSign fu 59 g L) (fun x5 g6 L7 =>
  cb (fX12_need fu x5 g6 L7) (fun x9 g10 L11 =>
  some ((), (g10, L11))))
def fX12_line_p46 (fu : Nat) (v1 : Int32) (g : Nat → Nat → Int32) (L : Nat → Nat → Int64) : Option ((Unit) × zS) :=
  cb (fX12_isGood fu g L) (fun x14 g15 L16 =>
  if x14 = 0 then some ((), (g15, L16))
  else sti g15 0 34 ((g15 0 34) ||| ((1 : Int32) <<< ((v1 : Int32) &&& 31) : Int32)) (fun g19 =>
  cb (fX12_goes fu g19 L16) (fun x20 g21 L22 =>
  if (v1 : Int32) = 11 then cb (fX12_number fu 0 9 g21 L22) (fun x30 g31 L32 =>
  sti g31 0 32 x30 (fun g34 =>
  fX12_line_p170 fu g34 L32))
  else cb (fX12_number fu 1 99 g21 L22) (fun x25 g26 L27 =>
  sti g26 0 33 x25 (fun g29 =>
  fX12_line_p170 fu g29 L27)))))
def fX12_line_p29 (fu : Nat) (v1 : Int32) (g : Nat → Nat → Int32) (L : Nat → Nat → Int64) : Option ((Unit) × zS) :=
  if ((((g 0 34) : Int32) >>> ((v1 : Int32) &&& 31) : Int32) &&& 1) = 1 then cb (fX12_wrong fu 5 g L) (fun x36 g37 L38 =>
  fX12_line_p46 fu v1 g37 L38)
  else fX12_line_p46 fu v1 g L
def fX12_line_p123 (fu : Nat) (g : Nat → Nat → Int32) (L : Nat → Nat → Int64) : Option ((Unit) × zS) :=
  cb (fX12_isGood fu g L) (fun x47 g48 L49 =>
  if x47 = 0 then some ((), (g48, L49))
  else cb (fX12_goes fu g48 L49) (fun x52 g53 L54 =>
  ck (g53 0 31) 4 (sti g53 25 (Int32.toNatClampNeg (g53 0 31)) (g53 0 35) (fun g56 =>
  sti g56 0 31 ((g56 0 31) + 1) (fun g57 =>
  cb (fX12_expression fu g57 L54) (fun x58 g59 L60 =>
  fX12_line_p170 fu g59 L60))))))
def fX12_line (fu : Nat) (g : Nat → Nat → Int32) (L : Nat → Nat → Int64) : Option ((Unit) × zS) :=
  cb (fX12_knownWord fu g L) (fun x1 g2 L3 =>
  if (x1 : Int32) = 5 then cb (fX12_readsLesson fu g2 L3) (fun x67 g68 L69 =>
  fX12_line_p170 fu g68 L69)
  else if (x1 : Int32) = 11 then fX12_line_p29 fu x1 g2 L3
  else if (x1 : Int32) = 12 then fX12_line_p29 fu x1 g2 L3
  else if (x1 : Int32) = 13 then (if (g2 0 31) = 4 then cb (fX12_wrong fu 2 g2 L3) (fun x63 g64 L65 =>
  fX12_line_p123 fu g64 L65)
  else fX12_line_p123 fu g2 L3)
  else cb (fX12_wrong fu 1 g2 L3) (fun x43 g44 L45 =>
  fX12_line_p170 fu g44 L45))
set_option maxHeartbeats 4000000 in
set_option maxRecDepth 100000 in
theorem rX12_line (l : Launch) (G : kG) (sz : Nat) (a : Nat → Nat) (fu : Nat) (g : Nat → Nat → Int32) (L : Nat → Nat → Int64) (res : Unit) (s9 : zS) (h : fX12_line fu g L = some (res, s9)) : kM l yX12_line cX12_line 2 none { frames := 12, cells := 0, slots := 0, locals := 245 } G [.ref (a 0)] (zw G MS 51 a g L) sz (kQv G (S := Unit) (fun _ => True) (fun _ => zw G MS 51 a s9.1 s9.2)) := by
  refine kM.of (by decide) (Nat.le_of_ble_eq_true rfl) ?_
  intro p e s m below meth c A ls H C hr hlk hnm hP hD hS hl
  have C : kC G p s m c cX12_line 2 RX12 A := C
  have hx := C.1
  have hb := C.2.1
  have hl : lv_has ls 2 [(0, .ref (a 0))] := hl
  obtain ⟨locs, hlocs⟩ : ∃ q : List Loc, q = [] := ⟨_, rfl⟩
  rw [← hlocs] at hS
  rw [← hlocs]
  unfold fX12_line at h
  refine lv_aload_n hx hb dX12_line_0 rfl (lv_at hl 0 rfl) ?_
  obtain ⟨z_, g2, L3, hf4, h⟩ := cb_some h
  refine x_callVi (rest := []) li_X12_261 C (rX12_knownWord l G H.size a fu g L z_ (g2, L3) hf4) (kR rfl) hP hD hS 0 12 rfl (zat (by decide) ms_0) rfl hl.1 rfl (Nat.le_of_ble_eq_true rfl) dX12_line_1 (fun x1 u_ H locs e_ hP hD hS => ?_)
  have e_ : x1 = z_ := e_
  subst e_
  have hP : va_P G.1 vwCl (zw G MS 51 a g2 L3) H := hP
  have hD : va_D A (zw G MS 51 a g2 L3) := hD
  refine lv_istore_n (lv' := [(1, .int x1), (0, .ref (a 0))]) hx hb dX12_line_4 rfl hl (by decide) rfl (fun ls hl => ?_)
  refine lv_iload_n hx hb dX12_line_5 rfl (lv_at hl 0 rfl) ?_
  refine lv_iconst (v := 5) hx hb dX12_line_6 (by decide) ?_
  have J170 : ∀ (g : Nat → Nat → Int32) (L : Nat → Nat → Int64) (H : Heap) (locs : List Loc) (ls : Array Slot), fX12_line_p170 fu g L = some (res, s9) → va_P G.1 vwCl (zw G MS 51 a g L) H → va_D A (zw G MS 51 a g L) → va_S A s.heap H locs → lv_has ls 2 [(0, .ref (a 0))] → W p l e { frames := 12, cells := 0, slots := 0, locals := 245 } s m [.ref (a 0)].toArray below meth c H locs 0 0 (MQ below ((kQv G (S := Unit) (fun _ => True) (fun _ => zw G MS 51 a s9.1 s9.2)) A) [.ref (a 0)].toArray s 0 0 A) (F0 m 170 ls []) := by
    intro g L H locs ls h hP hD hS hl
    unfold fX12_line_p170 at h
    refine lv_aload_n hx hb dX12_line_170 rfl (lv_at hl 0 rfl) ?_
    refine lv_aload_n hx hb dX12_line_171 rfl (lv_at hl 0 rfl) ?_
    refine lv_bipush (v := 59) hx hb dX12_line_172 (by decide) ?_
    obtain ⟨z_, g6, L7, hf8, h⟩ := cb_some h
    refine x_callVi (rest := [.ref (a 0)]) li_X12_268 C (rX12_isSign l G H.size a fu g L 59 z_ (g6, L7) hf8) (kR rfl) hP hD hS 0 12 rfl (zat (by decide) ms_0) rfl hl.1 rfl (Nat.le_of_ble_eq_true rfl) dX12_line_174 (fun x5 u_ H locs e_ hP hD hS => ?_)
    have e_ : x5 = z_ := e_
    subst e_
    have hP : va_P G.1 vwCl (zw G MS 51 a g6 L7) H := hP
    have hD : va_D A (zw G MS 51 a g6 L7) := hD
    obtain ⟨z_, g10, L11, hf12, h⟩ := cb_some h
    refine x_callVv (rest := []) li_X12_325 C (rX12_need l G H.size a fu g6 L7 x5 z_ (g10, L11) hf12) (kR rfl) hP hD hS 0 12 rfl (zat (by decide) ms_0) rfl hl.1 rfl (Nat.le_of_ble_eq_true rfl) dX12_line_177 (fun u_ H locs e_ hP hD hS => ?_)
    have hP : va_P G.1 vwCl (zw G MS 51 a g10 L11) H := hP
    have hD : va_D A (zw G MS 51 a g10 L11) := hD
    exact y_vret C hr hlk hP hD hS h (Nat.le_of_ble_eq_true rfl) (Nat.le_of_ble_eq_true rfl) dX12_line_180
  refine lv_icmp_ne (x := x1) (y := 5) (tgt := 17) hx hb dX12_line_7 (by decide) (fun c13 => ?_) (fun c13 => ?_)
  ·
    have h := ite_e c13 h
    refine lv_iload_n hx hb dX12_line_17 rfl (lv_at hl 0 rfl) ?_
    refine lv_bipush (v := 11) hx hb dX12_line_18 (by decide) ?_
    have J29 : ∀ (v1 : Int32) (g : Nat → Nat → Int32) (L : Nat → Nat → Int64) (H : Heap) (locs : List Loc) (ls : Array Slot), fX12_line_p29 fu v1 g L = some (res, s9) → va_P G.1 vwCl (zw G MS 51 a g L) H → va_D A (zw G MS 51 a g L) → va_S A s.heap H locs → lv_has ls 2 [(0, .ref (a 0)), (1, .int v1)] → W p l e { frames := 12, cells := 0, slots := 0, locals := 245 } s m [.ref (a 0)].toArray below meth c H locs 0 0 (MQ below ((kQv G (S := Unit) (fun _ => True) (fun _ => zw G MS 51 a s9.1 s9.2)) A) [.ref (a 0)].toArray s 0 0 A) (F0 m 29 ls []) := by
      intro v1 g L H locs ls h hP hD hS hl
      unfold fX12_line_p29 at h
      refine lv_aload_n hx hb dX12_line_29 rfl (lv_at hl 0 rfl) ?_
      refine x_getv (v := .int (g 0 34)) (Or.inl fl_X12_310) C hP (by decide) ms_0 rfl dX12_line_30 ?_
      refine lv_iload_n hx hb dX12_line_33 rfl (lv_at hl 1 rfl) ?_
      refine lv_ishr hx hb dX12_line_34 ?_
      refine lv_iconst (v := 1) hx hb dX12_line_35 (by decide) ?_
      refine lv_iand hx hb dX12_line_36 ?_
      refine lv_iconst (v := 1) hx hb dX12_line_37 (by decide) ?_
      have J46 : ∀ (v1 : Int32) (g : Nat → Nat → Int32) (L : Nat → Nat → Int64) (H : Heap) (locs : List Loc) (ls : Array Slot), fX12_line_p46 fu v1 g L = some (res, s9) → va_P G.1 vwCl (zw G MS 51 a g L) H → va_D A (zw G MS 51 a g L) → va_S A s.heap H locs → lv_has ls 2 [(0, .ref (a 0)), (1, .int v1)] → W p l e { frames := 12, cells := 0, slots := 0, locals := 245 } s m [.ref (a 0)].toArray below meth c H locs 0 0 (MQ below ((kQv G (S := Unit) (fun _ => True) (fun _ => zw G MS 51 a s9.1 s9.2)) A) [.ref (a 0)].toArray s 0 0 A) (F0 m 46 ls []) := by
        intro v1 g L H locs ls h hP hD hS hl
        unfold fX12_line_p46 at h
        refine lv_aload_n hx hb dX12_line_46 rfl (lv_at hl 0 rfl) ?_
        obtain ⟨z_, g15, L16, hf17, h⟩ := cb_some h
        refine x_callVi (rest := []) li_X12_236 C (rX12_isGood l G H.size a fu g L z_ (g15, L16) hf17) (kR rfl) hP hD hS 0 12 rfl (zat (by decide) ms_0) rfl hl.1 rfl (Nat.le_of_ble_eq_true rfl) dX12_line_47 (fun x14 u_ H locs e_ hP hD hS => ?_)
        have e_ : x14 = z_ := e_
        subst e_
        have hP : va_P G.1 vwCl (zw G MS 51 a g15 L16) H := hP
        have hD : va_D A (zw G MS 51 a g15 L16) := hD
        refine lv_if_ne (x := x14) (tgt := 54) hx hb dX12_line_50 (by decide) (fun c18 => ?_) (fun c18 => ?_)
        ·
          have h := ite_e c18 h
          refine lv_aload_n hx hb dX12_line_54 rfl (lv_at hl 0 rfl) ?_
          refine lv_dup hx hb dX12_line_55 rfl ?_
          refine x_getv (v := .int (g15 0 34)) (Or.inl fl_X12_310) C hP (by decide) ms_0 rfl dX12_line_56 ?_
          refine lv_iconst (v := 1) hx hb dX12_line_59 (by decide) ?_
          refine lv_iload_n hx hb dX12_line_60 rfl (lv_at hl 1 rfl) ?_
          refine lv_ishl hx hb dX12_line_61 ?_
          refine lv_ior hx hb dX12_line_62 ?_
          refine y_puti (Or.inl fl_X12_310) ft_X12_34 C hP hD hS (by decide) ms_0 rfl rfl rfl dX12_line_63 h (fun g19 H locs h hP hD hS => ?_)
          refine lv_aload_n hx hb dX12_line_66 rfl (lv_at hl 0 rfl) ?_
          obtain ⟨z_, g21, L22, hf23, h⟩ := cb_some h
          refine x_callVv (rest := []) li_X12_240 C (rX12_goes l G H.size a fu g19 L16 z_ (g21, L22) hf23) (kR rfl) hP hD hS 0 12 rfl (zat (by decide) ms_0) rfl hl.1 rfl (Nat.le_of_ble_eq_true rfl) dX12_line_67 (fun u_ H locs e_ hP hD hS => ?_)
          have hP : va_P G.1 vwCl (zw G MS 51 a g21 L22) H := hP
          have hD : va_D A (zw G MS 51 a g21 L22) := hD
          refine lv_iload_n hx hb dX12_line_70 rfl (lv_at hl 1 rfl) ?_
          refine lv_bipush (v := 11) hx hb dX12_line_71 (by decide) ?_
          refine lv_icmp_ne (x := v1) (y := 11) (tgt := 90) hx hb dX12_line_73 (by decide) (fun c24 => ?_) (fun c24 => ?_)
          ·
            have h := ite_e c24 h
            refine lv_aload_n hx hb dX12_line_90 rfl (lv_at hl 0 rfl) ?_
            refine lv_aload_n hx hb dX12_line_91 rfl (lv_at hl 0 rfl) ?_
            refine lv_iconst (v := 1) hx hb dX12_line_92 (by decide) ?_
            refine lv_bipush (v := 99) hx hb dX12_line_93 (by decide) ?_
            obtain ⟨z_, g26, L27, hf28, h⟩ := cb_some h
            refine x_callVi (rest := [.ref (a 0)]) li_X12_296 C (rX12_number l G H.size a fu g21 L22 1 99 z_ (g26, L27) hf28) (kR rfl) hP hD hS 0 12 rfl (zat (by decide) ms_0) rfl hl.1 rfl (Nat.le_of_ble_eq_true rfl) dX12_line_95 (fun x25 u_ H locs e_ hP hD hS => ?_)
            have e_ : x25 = z_ := e_
            subst e_
            have hP : va_P G.1 vwCl (zw G MS 51 a g26 L27) H := hP
            have hD : va_D A (zw G MS 51 a g26 L27) := hD
            refine y_puti (Or.inl fl_X12_316) ft_X12_33 C hP hD hS (by decide) ms_0 rfl rfl rfl dX12_line_98 h (fun g29 H locs h hP hD hS => ?_)
            refine lv_goto (tgt := 170) hx hb dX12_line_101 (by decide) ?_
            exact J170 g29 L27 H locs ls h hP hD hS (lv_sub hl [0] rfl)
          ·
            have h := ite_t c24 h
            refine lv_aload_n hx hb dX12_line_76 rfl (lv_at hl 0 rfl) ?_
            refine lv_aload_n hx hb dX12_line_77 rfl (lv_at hl 0 rfl) ?_
            refine lv_iconst (v := 0) hx hb dX12_line_78 (by decide) ?_
            refine lv_bipush (v := 9) hx hb dX12_line_79 (by decide) ?_
            obtain ⟨z_, g31, L32, hf33, h⟩ := cb_some h
            refine x_callVi (rest := [.ref (a 0)]) li_X12_296 C (rX12_number l G H.size a fu g21 L22 0 9 z_ (g31, L32) hf33) (kR rfl) hP hD hS 0 12 rfl (zat (by decide) ms_0) rfl hl.1 rfl (Nat.le_of_ble_eq_true rfl) dX12_line_81 (fun x30 u_ H locs e_ hP hD hS => ?_)
            have e_ : x30 = z_ := e_
            subst e_
            have hP : va_P G.1 vwCl (zw G MS 51 a g31 L32) H := hP
            have hD : va_D A (zw G MS 51 a g31 L32) := hD
            refine y_puti (Or.inl fl_X12_313) ft_X12_32 C hP hD hS (by decide) ms_0 rfl rfl rfl dX12_line_84 h (fun g34 H locs h hP hD hS => ?_)
            refine lv_goto (tgt := 170) hx hb dX12_line_87 (by decide) ?_
            exact J170 g34 L32 H locs ls h hP hD hS (lv_sub hl [0] rfl)
        ·
          have h := ite_t c18 h
          exact y_vret C hr hlk hP hD hS h (Nat.le_of_ble_eq_true rfl) (Nat.le_of_ble_eq_true rfl) dX12_line_53
      refine lv_icmp_ne (x := ((((g 0 34) : Int32) >>> ((v1 : Int32) &&& 31) : Int32) &&& 1)) (y := 1) (tgt := 46) hx hb dX12_line_38 (by decide) (fun c35 => ?_) (fun c35 => ?_)
      ·
        have h := ite_e c35 h
        exact J46 v1 g L H locs ls h hP hD hS (lv_sub hl [0, 1] rfl)
      ·
        have h := ite_t c35 h
        refine lv_aload_n hx hb dX12_line_41 rfl (lv_at hl 0 rfl) ?_
        refine lv_iconst (v := 5) hx hb dX12_line_42 (by decide) ?_
        obtain ⟨z_, g37, L38, hf39, h⟩ := cb_some h
        refine x_callVv (rest := []) li_X12_243 C (rX12_wrong l G H.size a fu g L 5 z_ (g37, L38) hf39) (kR rfl) hP hD hS 0 12 rfl (zat (by decide) ms_0) rfl hl.1 rfl (Nat.le_of_ble_eq_true rfl) dX12_line_43 (fun u_ H locs e_ hP hD hS => ?_)
        have hP : va_P G.1 vwCl (zw G MS 51 a g37 L38) H := hP
        have hD : va_D A (zw G MS 51 a g37 L38) := hD
        exact J46 v1 g37 L38 H locs ls h hP hD hS (lv_sub hl [0, 1] rfl)
    refine lv_icmp_eq (x := x1) (y := 11) (tgt := 29) hx hb dX12_line_20 (by decide) (fun c40 => ?_) (fun c40 => ?_)
    ·
      have h := ite_t c40 h
      exact J29 x1 g2 L3 H locs ls h hP hD hS (lv_sub hl [1, 0] rfl)
    ·
      have h := ite_e c40 h
      refine lv_iload_n hx hb dX12_line_23 rfl (lv_at hl 0 rfl) ?_
      refine lv_bipush (v := 12) hx hb dX12_line_24 (by decide) ?_
      refine lv_icmp_ne (x := x1) (y := 12) (tgt := 104) hx hb dX12_line_26 (by decide) (fun c41 => ?_) (fun c41 => ?_)
      ·
        have h := ite_e c41 h
        refine lv_iload_n hx hb dX12_line_104 rfl (lv_at hl 0 rfl) ?_
        refine lv_bipush (v := 13) hx hb dX12_line_105 (by decide) ?_
        refine lv_icmp_ne (x := x1) (y := 13) (tgt := 165) hx hb dX12_line_107 (by decide) (fun c42 => ?_) (fun c42 => ?_)
        ·
          have h := ite_e c42 h
          refine lv_aload_n hx hb dX12_line_165 rfl (lv_at hl 1 rfl) ?_
          refine lv_iconst (v := 1) hx hb dX12_line_166 (by decide) ?_
          obtain ⟨z_, g44, L45, hf46, h⟩ := cb_some h
          refine x_callVv (rest := []) li_X12_243 C (rX12_wrong l G H.size a fu g2 L3 1 z_ (g44, L45) hf46) (kR rfl) hP hD hS 0 12 rfl (zat (by decide) ms_0) rfl hl.1 rfl (Nat.le_of_ble_eq_true rfl) dX12_line_167 (fun u_ H locs e_ hP hD hS => ?_)
          have hP : va_P G.1 vwCl (zw G MS 51 a g44 L45) H := hP
          have hD : va_D A (zw G MS 51 a g44 L45) := hD
          exact J170 g44 L45 H locs ls h hP hD hS (lv_sub hl [1] rfl)
        ·
          have h := ite_t c42 h
          refine lv_aload_n hx hb dX12_line_110 rfl (lv_at hl 1 rfl) ?_
          refine x_getv (v := .int (g2 0 31)) (Or.inl fl_X12_319) C hP (by decide) ms_0 rfl dX12_line_111 ?_
          refine lv_iconst (v := 4) hx hb dX12_line_114 (by decide) ?_
          have J123 : ∀ (g : Nat → Nat → Int32) (L : Nat → Nat → Int64) (H : Heap) (locs : List Loc) (ls : Array Slot), fX12_line_p123 fu g L = some (res, s9) → va_P G.1 vwCl (zw G MS 51 a g L) H → va_D A (zw G MS 51 a g L) → va_S A s.heap H locs → lv_has ls 2 [(0, .ref (a 0))] → W p l e { frames := 12, cells := 0, slots := 0, locals := 245 } s m [.ref (a 0)].toArray below meth c H locs 0 0 (MQ below ((kQv G (S := Unit) (fun _ => True) (fun _ => zw G MS 51 a s9.1 s9.2)) A) [.ref (a 0)].toArray s 0 0 A) (F0 m 123 ls []) := by
            intro g L H locs ls h hP hD hS hl
            unfold fX12_line_p123 at h
            refine lv_aload_n hx hb dX12_line_123 rfl (lv_at hl 0 rfl) ?_
            obtain ⟨z_, g48, L49, hf50, h⟩ := cb_some h
            refine x_callVi (rest := []) li_X12_236 C (rX12_isGood l G H.size a fu g L z_ (g48, L49) hf50) (kR rfl) hP hD hS 0 12 rfl (zat (by decide) ms_0) rfl hl.1 rfl (Nat.le_of_ble_eq_true rfl) dX12_line_124 (fun x47 u_ H locs e_ hP hD hS => ?_)
            have e_ : x47 = z_ := e_
            subst e_
            have hP : va_P G.1 vwCl (zw G MS 51 a g48 L49) H := hP
            have hD : va_D A (zw G MS 51 a g48 L49) := hD
            refine lv_if_ne (x := x47) (tgt := 131) hx hb dX12_line_127 (by decide) (fun c51 => ?_) (fun c51 => ?_)
            ·
              have h := ite_e c51 h
              refine lv_aload_n hx hb dX12_line_131 rfl (lv_at hl 0 rfl) ?_
              obtain ⟨z_, g53, L54, hf55, h⟩ := cb_some h
              refine x_callVv (rest := []) li_X12_240 C (rX12_goes l G H.size a fu g48 L49 z_ (g53, L54) hf55) (kR rfl) hP hD hS 0 12 rfl (zat (by decide) ms_0) rfl hl.1 rfl (Nat.le_of_ble_eq_true rfl) dX12_line_132 (fun u_ H locs e_ hP hD hS => ?_)
              have hP : va_P G.1 vwCl (zw G MS 51 a g53 L54) H := hP
              have hD : va_D A (zw G MS 51 a g53 L54) := hD
              refine lv_aload_n hx hb dX12_line_135 rfl (lv_at hl 0 rfl) ?_
              refine x_getr (Or.inl fl_X12_92) C hP (by decide) ms_0 rfl dX12_line_136 ?_
              refine lv_aload_n hx hb dX12_line_139 rfl (lv_at hl 0 rfl) ?_
              refine x_getv (v := .int (g53 0 31)) (Or.inl fl_X12_319) C hP (by decide) ms_0 rfl dX12_line_140 ?_
              refine lv_aload_n hx hb dX12_line_143 rfl (lv_at hl 0 rfl) ?_
              refine x_getv (v := .int (g53 0 35)) (Or.inl fl_X12_246) C hP (by decide) ms_0 rfl dX12_line_144 ?_
              refine y_ast C hP hD hS (by decide) ms_25 dX12_line_147 h (fun g56 H locs h hP hD hS => ?_)
              refine lv_aload_n hx hb dX12_line_148 rfl (lv_at hl 0 rfl) ?_
              refine lv_dup hx hb dX12_line_149 rfl ?_
              refine x_getv (v := .int (g56 0 31)) (Or.inl fl_X12_319) C hP (by decide) ms_0 rfl dX12_line_150 ?_
              refine lv_iconst (v := 1) hx hb dX12_line_153 (by decide) ?_
              refine lv_iadd hx hb dX12_line_154 ?_
              refine y_puti (Or.inl fl_X12_319) ft_X12_31 C hP hD hS (by decide) ms_0 rfl rfl rfl dX12_line_155 h (fun g57 H locs h hP hD hS => ?_)
              refine lv_aload_n hx hb dX12_line_158 rfl (lv_at hl 0 rfl) ?_
              obtain ⟨z_, g59, L60, hf61, h⟩ := cb_some h
              refine x_callVv (rest := []) li_X12_322 C (rX12_expression l G H.size a fu g57 L54 z_ (g59, L60) hf61) (kR rfl) hP hD hS 0 12 rfl (zat (by decide) ms_0) rfl hl.1 rfl (Nat.le_of_ble_eq_true rfl) dX12_line_159 (fun u_ H locs e_ hP hD hS => ?_)
              have hP : va_P G.1 vwCl (zw G MS 51 a g59 L60) H := hP
              have hD : va_D A (zw G MS 51 a g59 L60) := hD
              refine lv_goto (tgt := 170) hx hb dX12_line_162 (by decide) ?_
              exact J170 g59 L60 H locs ls h hP hD hS (lv_sub hl [0] rfl)
            ·
              have h := ite_t c51 h
              exact y_vret C hr hlk hP hD hS h (Nat.le_of_ble_eq_true rfl) (Nat.le_of_ble_eq_true rfl) dX12_line_130
          refine lv_icmp_ne (x := (g2 0 31)) (y := 4) (tgt := 123) hx hb dX12_line_115 (by decide) (fun c62 => ?_) (fun c62 => ?_)
          ·
            have h := ite_e c62 h
            exact J123 g2 L3 H locs ls h hP hD hS (lv_sub hl [1] rfl)
          ·
            have h := ite_t c62 h
            refine lv_aload_n hx hb dX12_line_118 rfl (lv_at hl 1 rfl) ?_
            refine lv_iconst (v := 2) hx hb dX12_line_119 (by decide) ?_
            obtain ⟨z_, g64, L65, hf66, h⟩ := cb_some h
            refine x_callVv (rest := []) li_X12_243 C (rX12_wrong l G H.size a fu g2 L3 2 z_ (g64, L65) hf66) (kR rfl) hP hD hS 0 12 rfl (zat (by decide) ms_0) rfl hl.1 rfl (Nat.le_of_ble_eq_true rfl) dX12_line_120 (fun u_ H locs e_ hP hD hS => ?_)
            have hP : va_P G.1 vwCl (zw G MS 51 a g64 L65) H := hP
            have hD : va_D A (zw G MS 51 a g64 L65) := hD
            exact J123 g64 L65 H locs ls h hP hD hS (lv_sub hl [1] rfl)
      ·
        have h := ite_t c41 h
        exact J29 x1 g2 L3 H locs ls h hP hD hS (lv_sub hl [1, 0] rfl)
  ·
    have h := ite_t c13 h
    refine lv_aload_n hx hb dX12_line_10 rfl (lv_at hl 1 rfl) ?_
    obtain ⟨z_, g68, L69, hf70, h⟩ := cb_some h
    refine x_callVv (rest := []) li_X12_307 C (rX12_readsLesson l G H.size a fu g2 L3 z_ (g68, L69) hf70) (kR rfl) hP hD hS 0 12 rfl (zat (by decide) ms_0) rfl hl.1 rfl (Nat.le_of_ble_eq_true rfl) dX12_line_11 (fun u_ H locs e_ hP hD hS => ?_)
    have hP : va_P G.1 vwCl (zw G MS 51 a g68 L69) H := hP
    have hD : va_D A (zw G MS 51 a g68 L69) := hD
    refine lv_goto (tgt := 170) hx hb dX12_line_14 (by decide) ?_
    exact J170 g68 L69 H locs ls h hP hD hS (lv_sub hl [1] rfl)
def fX12_right_p28 (fu : Nat) (t0 : Int32) (g : Nat → Nat → Int32) (L : Nat → Nat → Int64) : Option ((Int32) × zS) :=
  ckb t0 (some (t0, (g, L)))
def fX12_right_p16 (fu : Nat) (g : Nat → Nat → Int32) (L : Nat → Nat → Int64) : Option ((Int32) × zS) :=
  if (g 0 0) = 0 then fX12_right_p28 fu 1 g L
  else fX12_right_p28 fu 0 g L
def fX12_right (fu : Nat) (p1 : Int32) (p2 : Int32) (g : Nat → Nat → Int32) (L : Nat → Nat → Int64) : Option ((Int32) × zS) :=
  if (g 0 0) = 0 then (if p1 = 0 then sti g 0 0 p2 (fun g4 =>
  fX12_right_p16 fu g4 L)
  else fX12_right_p16 fu g L)
  else fX12_right_p16 fu g L
set_option maxHeartbeats 4000000 in
set_option maxRecDepth 100000 in
theorem rX12_right (l : Launch) (G : kG) (sz : Nat) (a : Nat → Nat) (fu : Nat) (g : Nat → Nat → Int32) (L : Nat → Nat → Int64) (p1 : Int32) (p2 : Int32) (res : Int32) (s9 : zS) (h : fX12_right fu p1 p2 g L = some (res, s9)) : kM l yX12_right cX12_right 3 (some .boolean) { frames := 6, cells := 0, slots := 0, locals := 110 } G [.ref (a 0), .int p1, .int p2] (zw G MS 51 a g L) sz (kQi G (S := Unit) (fun r' _ => r' = res) (fun _ => zw G MS 51 a s9.1 s9.2)) := by
  refine kM.of (by decide) (Nat.le_of_ble_eq_true rfl) ?_
  intro p e s m below meth c A ls H C hr hlk hnm hP hD hS hl
  have C : kC G p s m c cX12_right 3 RX12 A := C
  have hx := C.1
  have hb := C.2.1
  have hl : lv_has ls 3 [(0, .ref (a 0)), (1, .int p1), (2, .int p2)] := hl
  obtain ⟨locs, hlocs⟩ : ∃ q : List Loc, q = [] := ⟨_, rfl⟩
  rw [← hlocs] at hS
  rw [← hlocs]
  unfold fX12_right at h
  refine lv_aload_n hx hb dX12_right_0 rfl (lv_at hl 0 rfl) ?_
  refine x_getv (v := .int (g 0 0)) (Or.inl fl_X12_177) C hP (by decide) ms_0 rfl dX12_right_1 ?_
  have J16 : ∀ (g : Nat → Nat → Int32) (L : Nat → Nat → Int64) (H : Heap) (locs : List Loc) (ls : Array Slot), fX12_right_p16 fu g L = some (res, s9) → va_P G.1 vwCl (zw G MS 51 a g L) H → va_D A (zw G MS 51 a g L) → va_S A s.heap H locs → lv_has ls 3 [(0, .ref (a 0))] → W p l e { frames := 6, cells := 0, slots := 0, locals := 110 } s m [.ref (a 0), .int p1, .int p2].toArray below meth c H locs 0 0 (MQ below ((kQi G (S := Unit) (fun r' _ => r' = res) (fun _ => zw G MS 51 a s9.1 s9.2)) A) [.ref (a 0), .int p1, .int p2].toArray s 0 0 A) (F0 m 16 ls []) := by
    intro g L H locs ls h hP hD hS hl
    unfold fX12_right_p16 at h
    refine lv_aload_n hx hb dX12_right_16 rfl (lv_at hl 0 rfl) ?_
    refine x_getv (v := .int (g 0 0)) (Or.inl fl_X12_177) C hP (by decide) ms_0 rfl dX12_right_17 ?_
    have J28 : ∀ (t0 : Int32) (g : Nat → Nat → Int32) (L : Nat → Nat → Int64) (H : Heap) (locs : List Loc) (ls : Array Slot), fX12_right_p28 fu t0 g L = some (res, s9) → va_P G.1 vwCl (zw G MS 51 a g L) H → va_D A (zw G MS 51 a g L) → va_S A s.heap H locs → lv_has ls 3 [] → W p l e { frames := 6, cells := 0, slots := 0, locals := 110 } s m [.ref (a 0), .int p1, .int p2].toArray below meth c H locs 0 0 (MQ below ((kQi G (S := Unit) (fun r' _ => r' = res) (fun _ => zw G MS 51 a s9.1 s9.2)) A) [.ref (a 0), .int p1, .int p2].toArray s 0 0 A) (F0 m 28 ls [.int t0]) := by
      intro t0 g L H locs ls h hP hD hS hl
      unfold fX12_right_p28 at h
      exact y_zret C hr hlk hP hD hS h (Nat.le_of_ble_eq_true rfl) (Nat.le_of_ble_eq_true rfl) dX12_right_28
    refine lv_if_ne (x := (g 0 0)) (tgt := 27) hx hb dX12_right_20 (by decide) (fun c1 => ?_) (fun c1 => ?_)
    ·
      have h := ite_e c1 h
      refine lv_iconst (v := 0) hx hb dX12_right_27 (by decide) ?_
      exact J28 0 g L H locs ls h hP hD hS (lv_sub hl [] rfl)
    ·
      have h := ite_t c1 h
      refine lv_iconst (v := 1) hx hb dX12_right_23 (by decide) ?_
      refine lv_goto (tgt := 28) hx hb dX12_right_24 (by decide) ?_
      exact J28 1 g L H locs ls h hP hD hS (lv_sub hl [] rfl)
  refine lv_if_ne (x := (g 0 0)) (tgt := 16) hx hb dX12_right_4 (by decide) (fun c2 => ?_) (fun c2 => ?_)
  ·
    have h := ite_e c2 h
    exact J16 g L H locs ls h hP hD hS (lv_sub hl [0] rfl)
  ·
    have h := ite_t c2 h
    refine lv_iload_n hx hb dX12_right_7 rfl (lv_at hl 1 rfl) ?_
    refine lv_if_ne (x := p1) (tgt := 16) hx hb dX12_right_8 (by decide) (fun c3 => ?_) (fun c3 => ?_)
    ·
      have h := ite_e c3 h
      exact J16 g L H locs ls h hP hD hS (lv_sub hl [0] rfl)
    ·
      have h := ite_t c3 h
      refine lv_aload_n hx hb dX12_right_11 rfl (lv_at hl 0 rfl) ?_
      refine lv_iload_n hx hb dX12_right_12 rfl (lv_at hl 2 rfl) ?_
      refine y_puti (Or.inl fl_X12_177) ft_X12_0 C hP hD hS (by decide) ms_0 rfl rfl rfl dX12_right_13 h (fun g4 H locs h hP hD hS => ?_)
      exact J16 g4 L H locs ls h hP hD hS (lv_sub hl [0] rfl)
def fX12_copies_15_1_s2 (fu : Nat) (k2 : Int32 × (Nat → Nat → Int32) × (Nat → Nat → Int64) → Option ((Unit) × zS)) (v3 : Int32) (g : Nat → Nat → Int32) (L : Nat → Nat → Int64) : Option ((Unit) × zS) :=
  if 12 ≤ (v3 : Int32) then some ((), (g, L))
  else ck v3 12 (
  ck v3 12 (sti g 1 (Int32.toNatClampNeg v3) (g 15 (Int32.toNatClampNeg v3)) (fun g2 =>
  k2 ((v3 + 1), g2, L))))
def fX12_copies_15_1_l2 (fu : Nat) (v3 : Int32) (g : Nat → Nat → Int32) (L : Nat → Nat → Int64) : Option ((Unit) × zS) :=
  whileK (fun k v => fX12_copies_15_1_s2 fu k v.1 v.2.1 v.2.2) fu (v3, g, L)
def fX12_copies_15_1 (fu : Nat) (g : Nat → Nat → Int32) (L : Nat → Nat → Int64) : Option ((Unit) × zS) :=
  fX12_copies_15_1_l2 fu 0 g L
set_option maxHeartbeats 4000000 in
set_option maxRecDepth 100000 in
theorem rX12_copies_15_1 (l : Launch) (G : kG) (sz : Nat) (a : Nat → Nat) (fu : Nat) (g : Nat → Nat → Int32) (L : Nat → Nat → Int64) (res : Unit) (s9 : zS) (h : fX12_copies_15_1 fu g L = some (res, s9)) : kM l yX12_copies cX12_copies 4 none { frames := 6, cells := 0, slots := 0, locals := 110 } G [.ref (a 0), .ref (a 15), .ref (a 1)] (zw G MS 51 a g L) sz (kQv G (S := Unit) (fun _ => True) (fun _ => zw G MS 51 a s9.1 s9.2)) := by
  refine kM.of (by decide) (Nat.le_of_ble_eq_true rfl) ?_
  intro p e s m below meth c A ls H C hr hlk hnm hP hD hS hl
  have C : kC G p s m c cX12_copies 4 RX12 A := C
  have hx := C.1
  have hb := C.2.1
  have hl : lv_has ls 4 [(0, .ref (a 0)), (1, .ref (a 15)), (2, .ref (a 1))] := hl
  obtain ⟨locs, hlocs⟩ : ∃ q : List Loc, q = [] := ⟨_, rfl⟩
  rw [← hlocs] at hS
  rw [← hlocs]
  unfold fX12_copies_15_1 at h
  refine lv_iconst (v := 0) hx hb dX12_copies_0 (by decide) ?_
  refine lv_istore_n (lv' := [(3, .int 0), (0, .ref (a 0)), (1, .ref (a 15)), (2, .ref (a 1))]) hx hb dX12_copies_1 rfl hl (by decide) rfl (fun ls hl => ?_)
  have lp2 : ∀ (_ : True), ∀ (n : Nat) (v : Int32 × (Nat → Nat → Int32) × (Nat → Nat → Int64)), whileK (fun k v => fX12_copies_15_1_s2 fu k v.1 v.2.1 v.2.2) n v = some (res, s9) → ∀ (H : Heap) (locs : List Loc) (ls : Array Slot), va_P G.1 vwCl (zw G MS 51 a (v.2.1) (v.2.2)) H → va_D A (zw G MS 51 a (v.2.1) (v.2.2)) → va_S A s.heap H locs → lv_has ls 4 [(1, .ref (a 15)), (2, .ref (a 1)), (3, .int (v.1))] → W p l e { frames := 6, cells := 0, slots := 0, locals := 110 } s m [.ref (a 0), .ref (a 15), .ref (a 1)].toArray below meth c H locs 0 0 (MQ below ((kQv G (S := Unit) (fun _ => True) (fun _ => zw G MS 51 a s9.1 s9.2)) A) [.ref (a 0), .ref (a 15), .ref (a 1)].toArray s 0 0 A) (F0 m 2 ls []) := by
    intro _
    refine while_ind (fun k2 ih2 v h => ?_)
    obtain ⟨v3, g, L⟩ := v
    intro H locs ls hP hD hS hl
    have h : fX12_copies_15_1_s2 fu k2 v3 g L = some (res, s9) := h
    have hP : va_P G.1 vwCl (zw G MS 51 a g L) H := hP
    have hD : va_D A (zw G MS 51 a g L) := hD
    have hl : lv_has ls 4 [(1, .ref (a 15)), (2, .ref (a 1)), (3, .int v3)] := hl
    show W p l e { frames := 6, cells := 0, slots := 0, locals := 110 } s m [.ref (a 0), .ref (a 15), .ref (a 1)].toArray below meth c H locs 0 0 (MQ below ((kQv G (S := Unit) (fun _ => True) (fun _ => zw G MS 51 a s9.1 s9.2)) A) [.ref (a 0), .ref (a 15), .ref (a 1)].toArray s 0 0 A) (F0 m 2 ls [])
    unfold fX12_copies_15_1_s2 at h
    refine lv_iload_n hx hb dX12_copies_2 rfl (lv_at hl 2 rfl) ?_
    refine lv_aload_n hx hb dX12_copies_3 rfl (lv_at hl 0 rfl) ?_
    refine x_alen (v := 12) C hP (by decide) ms_15 rfl dX12_copies_4 ?_
    refine lv_icmp_ge (x := v3) (y := 12) (tgt := 20) hx hb dX12_copies_5 (by decide) (fun c1 => ?_) (fun c1 => ?_)
    ·
      have h := ite_t c1 h
      exact y_vret C hr hlk hP hD hS h (Nat.le_of_ble_eq_true rfl) (Nat.le_of_ble_eq_true rfl) dX12_copies_20
    ·
      have h := ite_e c1 h
      refine lv_aload_n hx hb dX12_copies_8 rfl (lv_at hl 1 rfl) ?_
      refine lv_iload_n hx hb dX12_copies_9 rfl (lv_at hl 2 rfl) ?_
      refine lv_aload_n hx hb dX12_copies_10 rfl (lv_at hl 0 rfl) ?_
      refine lv_iload_n hx hb dX12_copies_11 rfl (lv_at hl 2 rfl) ?_
      refine y_ald C hP (by decide) ms_15 dX12_copies_12 h (fun h => ?_)
      refine y_ast C hP hD hS (by decide) ms_1 dX12_copies_13 h (fun g2 H locs h hP hD hS => ?_)
      refine lv_iinc (v := (v3 + 1)) (lv' := [(3, .int (v3 + 1)), (1, .ref (a 15)), (2, .ref (a 1))]) hx hb dX12_copies_14 hl (k := 2) rfl rfl (by decide) rfl (fun ls hl => ?_)
      refine lv_goto (tgt := 2) hx hb dX12_copies_17 (by decide) ?_
      exact ih2 ((v3 + 1), g2, L) h H locs ls hP hD hS (lv_sub hl [1, 2, 0] rfl)
  exact lp2 trivial fu (0, g, L) h H locs ls hP hD hS (lv_sub hl [2, 3, 0] rfl)
def fX12_copies_16_2_s2 (fu : Nat) (k2 : Int32 × (Nat → Nat → Int32) × (Nat → Nat → Int64) → Option ((Unit) × zS)) (v3 : Int32) (g : Nat → Nat → Int32) (L : Nat → Nat → Int64) : Option ((Unit) × zS) :=
  if 12 ≤ (v3 : Int32) then some ((), (g, L))
  else ck v3 12 (
  ck v3 12 (sti g 2 (Int32.toNatClampNeg v3) (g 16 (Int32.toNatClampNeg v3)) (fun g2 =>
  k2 ((v3 + 1), g2, L))))
def fX12_copies_16_2_l2 (fu : Nat) (v3 : Int32) (g : Nat → Nat → Int32) (L : Nat → Nat → Int64) : Option ((Unit) × zS) :=
  whileK (fun k v => fX12_copies_16_2_s2 fu k v.1 v.2.1 v.2.2) fu (v3, g, L)
def fX12_copies_16_2 (fu : Nat) (g : Nat → Nat → Int32) (L : Nat → Nat → Int64) : Option ((Unit) × zS) :=
  fX12_copies_16_2_l2 fu 0 g L
set_option maxHeartbeats 4000000 in
set_option maxRecDepth 100000 in
theorem rX12_copies_16_2 (l : Launch) (G : kG) (sz : Nat) (a : Nat → Nat) (fu : Nat) (g : Nat → Nat → Int32) (L : Nat → Nat → Int64) (res : Unit) (s9 : zS) (h : fX12_copies_16_2 fu g L = some (res, s9)) : kM l yX12_copies cX12_copies 4 none { frames := 6, cells := 0, slots := 0, locals := 110 } G [.ref (a 0), .ref (a 16), .ref (a 2)] (zw G MS 51 a g L) sz (kQv G (S := Unit) (fun _ => True) (fun _ => zw G MS 51 a s9.1 s9.2)) := by
  refine kM.of (by decide) (Nat.le_of_ble_eq_true rfl) ?_
  intro p e s m below meth c A ls H C hr hlk hnm hP hD hS hl
  have C : kC G p s m c cX12_copies 4 RX12 A := C
  have hx := C.1
  have hb := C.2.1
  have hl : lv_has ls 4 [(0, .ref (a 0)), (1, .ref (a 16)), (2, .ref (a 2))] := hl
  obtain ⟨locs, hlocs⟩ : ∃ q : List Loc, q = [] := ⟨_, rfl⟩
  rw [← hlocs] at hS
  rw [← hlocs]
  unfold fX12_copies_16_2 at h
  refine lv_iconst (v := 0) hx hb dX12_copies_0 (by decide) ?_
  refine lv_istore_n (lv' := [(3, .int 0), (0, .ref (a 0)), (1, .ref (a 16)), (2, .ref (a 2))]) hx hb dX12_copies_1 rfl hl (by decide) rfl (fun ls hl => ?_)
  have lp2 : ∀ (_ : True), ∀ (n : Nat) (v : Int32 × (Nat → Nat → Int32) × (Nat → Nat → Int64)), whileK (fun k v => fX12_copies_16_2_s2 fu k v.1 v.2.1 v.2.2) n v = some (res, s9) → ∀ (H : Heap) (locs : List Loc) (ls : Array Slot), va_P G.1 vwCl (zw G MS 51 a (v.2.1) (v.2.2)) H → va_D A (zw G MS 51 a (v.2.1) (v.2.2)) → va_S A s.heap H locs → lv_has ls 4 [(1, .ref (a 16)), (2, .ref (a 2)), (3, .int (v.1))] → W p l e { frames := 6, cells := 0, slots := 0, locals := 110 } s m [.ref (a 0), .ref (a 16), .ref (a 2)].toArray below meth c H locs 0 0 (MQ below ((kQv G (S := Unit) (fun _ => True) (fun _ => zw G MS 51 a s9.1 s9.2)) A) [.ref (a 0), .ref (a 16), .ref (a 2)].toArray s 0 0 A) (F0 m 2 ls []) := by
    intro _
    refine while_ind (fun k2 ih2 v h => ?_)
    obtain ⟨v3, g, L⟩ := v
    intro H locs ls hP hD hS hl
    have h : fX12_copies_16_2_s2 fu k2 v3 g L = some (res, s9) := h
    have hP : va_P G.1 vwCl (zw G MS 51 a g L) H := hP
    have hD : va_D A (zw G MS 51 a g L) := hD
    have hl : lv_has ls 4 [(1, .ref (a 16)), (2, .ref (a 2)), (3, .int v3)] := hl
    show W p l e { frames := 6, cells := 0, slots := 0, locals := 110 } s m [.ref (a 0), .ref (a 16), .ref (a 2)].toArray below meth c H locs 0 0 (MQ below ((kQv G (S := Unit) (fun _ => True) (fun _ => zw G MS 51 a s9.1 s9.2)) A) [.ref (a 0), .ref (a 16), .ref (a 2)].toArray s 0 0 A) (F0 m 2 ls [])
    unfold fX12_copies_16_2_s2 at h
    refine lv_iload_n hx hb dX12_copies_2 rfl (lv_at hl 2 rfl) ?_
    refine lv_aload_n hx hb dX12_copies_3 rfl (lv_at hl 0 rfl) ?_
    refine x_alen (v := 12) C hP (by decide) ms_16 rfl dX12_copies_4 ?_
    refine lv_icmp_ge (x := v3) (y := 12) (tgt := 20) hx hb dX12_copies_5 (by decide) (fun c1 => ?_) (fun c1 => ?_)
    ·
      have h := ite_t c1 h
      exact y_vret C hr hlk hP hD hS h (Nat.le_of_ble_eq_true rfl) (Nat.le_of_ble_eq_true rfl) dX12_copies_20
    ·
      have h := ite_e c1 h
      refine lv_aload_n hx hb dX12_copies_8 rfl (lv_at hl 1 rfl) ?_
      refine lv_iload_n hx hb dX12_copies_9 rfl (lv_at hl 2 rfl) ?_
      refine lv_aload_n hx hb dX12_copies_10 rfl (lv_at hl 0 rfl) ?_
      refine lv_iload_n hx hb dX12_copies_11 rfl (lv_at hl 2 rfl) ?_
      refine y_ald C hP (by decide) ms_16 dX12_copies_12 h (fun h => ?_)
      refine y_ast C hP hD hS (by decide) ms_2 dX12_copies_13 h (fun g2 H locs h hP hD hS => ?_)
      refine lv_iinc (v := (v3 + 1)) (lv' := [(3, .int (v3 + 1)), (1, .ref (a 16)), (2, .ref (a 2))]) hx hb dX12_copies_14 hl (k := 2) rfl rfl (by decide) rfl (fun ls hl => ?_)
      refine lv_goto (tgt := 2) hx hb dX12_copies_17 (by decide) ?_
      exact ih2 ((v3 + 1), g2, L) h H locs ls hP hD hS (lv_sub hl [1, 2, 0] rfl)
  exact lp2 trivial fu (0, g, L) h H locs ls hP hD hS (lv_sub hl [2, 3, 0] rfl)
def fX12_copies_17_3_s2 (fu : Nat) (k2 : Int32 × (Nat → Nat → Int32) × (Nat → Nat → Int64) → Option ((Unit) × zS)) (v3 : Int32) (g : Nat → Nat → Int32) (L : Nat → Nat → Int64) : Option ((Unit) × zS) :=
  if 12 ≤ (v3 : Int32) then some ((), (g, L))
  else ck v3 12 (
  ck v3 12 (sti g 3 (Int32.toNatClampNeg v3) (g 17 (Int32.toNatClampNeg v3)) (fun g2 =>
  k2 ((v3 + 1), g2, L))))
def fX12_copies_17_3_l2 (fu : Nat) (v3 : Int32) (g : Nat → Nat → Int32) (L : Nat → Nat → Int64) : Option ((Unit) × zS) :=
  whileK (fun k v => fX12_copies_17_3_s2 fu k v.1 v.2.1 v.2.2) fu (v3, g, L)
def fX12_copies_17_3 (fu : Nat) (g : Nat → Nat → Int32) (L : Nat → Nat → Int64) : Option ((Unit) × zS) :=
  fX12_copies_17_3_l2 fu 0 g L
set_option maxHeartbeats 4000000 in
set_option maxRecDepth 100000 in
theorem rX12_copies_17_3 (l : Launch) (G : kG) (sz : Nat) (a : Nat → Nat) (fu : Nat) (g : Nat → Nat → Int32) (L : Nat → Nat → Int64) (res : Unit) (s9 : zS) (h : fX12_copies_17_3 fu g L = some (res, s9)) : kM l yX12_copies cX12_copies 4 none { frames := 6, cells := 0, slots := 0, locals := 110 } G [.ref (a 0), .ref (a 17), .ref (a 3)] (zw G MS 51 a g L) sz (kQv G (S := Unit) (fun _ => True) (fun _ => zw G MS 51 a s9.1 s9.2)) := by
  refine kM.of (by decide) (Nat.le_of_ble_eq_true rfl) ?_
  intro p e s m below meth c A ls H C hr hlk hnm hP hD hS hl
  have C : kC G p s m c cX12_copies 4 RX12 A := C
  have hx := C.1
  have hb := C.2.1
  have hl : lv_has ls 4 [(0, .ref (a 0)), (1, .ref (a 17)), (2, .ref (a 3))] := hl
  obtain ⟨locs, hlocs⟩ : ∃ q : List Loc, q = [] := ⟨_, rfl⟩
  rw [← hlocs] at hS
  rw [← hlocs]
  unfold fX12_copies_17_3 at h
  refine lv_iconst (v := 0) hx hb dX12_copies_0 (by decide) ?_
  refine lv_istore_n (lv' := [(3, .int 0), (0, .ref (a 0)), (1, .ref (a 17)), (2, .ref (a 3))]) hx hb dX12_copies_1 rfl hl (by decide) rfl (fun ls hl => ?_)
  have lp2 : ∀ (_ : True), ∀ (n : Nat) (v : Int32 × (Nat → Nat → Int32) × (Nat → Nat → Int64)), whileK (fun k v => fX12_copies_17_3_s2 fu k v.1 v.2.1 v.2.2) n v = some (res, s9) → ∀ (H : Heap) (locs : List Loc) (ls : Array Slot), va_P G.1 vwCl (zw G MS 51 a (v.2.1) (v.2.2)) H → va_D A (zw G MS 51 a (v.2.1) (v.2.2)) → va_S A s.heap H locs → lv_has ls 4 [(1, .ref (a 17)), (2, .ref (a 3)), (3, .int (v.1))] → W p l e { frames := 6, cells := 0, slots := 0, locals := 110 } s m [.ref (a 0), .ref (a 17), .ref (a 3)].toArray below meth c H locs 0 0 (MQ below ((kQv G (S := Unit) (fun _ => True) (fun _ => zw G MS 51 a s9.1 s9.2)) A) [.ref (a 0), .ref (a 17), .ref (a 3)].toArray s 0 0 A) (F0 m 2 ls []) := by
    intro _
    refine while_ind (fun k2 ih2 v h => ?_)
    obtain ⟨v3, g, L⟩ := v
    intro H locs ls hP hD hS hl
    have h : fX12_copies_17_3_s2 fu k2 v3 g L = some (res, s9) := h
    have hP : va_P G.1 vwCl (zw G MS 51 a g L) H := hP
    have hD : va_D A (zw G MS 51 a g L) := hD
    have hl : lv_has ls 4 [(1, .ref (a 17)), (2, .ref (a 3)), (3, .int v3)] := hl
    show W p l e { frames := 6, cells := 0, slots := 0, locals := 110 } s m [.ref (a 0), .ref (a 17), .ref (a 3)].toArray below meth c H locs 0 0 (MQ below ((kQv G (S := Unit) (fun _ => True) (fun _ => zw G MS 51 a s9.1 s9.2)) A) [.ref (a 0), .ref (a 17), .ref (a 3)].toArray s 0 0 A) (F0 m 2 ls [])
    unfold fX12_copies_17_3_s2 at h
    refine lv_iload_n hx hb dX12_copies_2 rfl (lv_at hl 2 rfl) ?_
    refine lv_aload_n hx hb dX12_copies_3 rfl (lv_at hl 0 rfl) ?_
    refine x_alen (v := 12) C hP (by decide) ms_17 rfl dX12_copies_4 ?_
    refine lv_icmp_ge (x := v3) (y := 12) (tgt := 20) hx hb dX12_copies_5 (by decide) (fun c1 => ?_) (fun c1 => ?_)
    ·
      have h := ite_t c1 h
      exact y_vret C hr hlk hP hD hS h (Nat.le_of_ble_eq_true rfl) (Nat.le_of_ble_eq_true rfl) dX12_copies_20
    ·
      have h := ite_e c1 h
      refine lv_aload_n hx hb dX12_copies_8 rfl (lv_at hl 1 rfl) ?_
      refine lv_iload_n hx hb dX12_copies_9 rfl (lv_at hl 2 rfl) ?_
      refine lv_aload_n hx hb dX12_copies_10 rfl (lv_at hl 0 rfl) ?_
      refine lv_iload_n hx hb dX12_copies_11 rfl (lv_at hl 2 rfl) ?_
      refine y_ald C hP (by decide) ms_17 dX12_copies_12 h (fun h => ?_)
      refine y_ast C hP hD hS (by decide) ms_3 dX12_copies_13 h (fun g2 H locs h hP hD hS => ?_)
      refine lv_iinc (v := (v3 + 1)) (lv' := [(3, .int (v3 + 1)), (1, .ref (a 17)), (2, .ref (a 3))]) hx hb dX12_copies_14 hl (k := 2) rfl rfl (by decide) rfl (fun ls hl => ?_)
      refine lv_goto (tgt := 2) hx hb dX12_copies_17 (by decide) ?_
      exact ih2 ((v3 + 1), g2, L) h H locs ls hP hD hS (lv_sub hl [1, 2, 0] rfl)
  exact lp2 trivial fu (0, g, L) h H locs ls hP hD hS (lv_sub hl [2, 3, 0] rfl)
def fX12_copies_18_4_s2 (fu : Nat) (k2 : Int32 × (Nat → Nat → Int32) × (Nat → Nat → Int64) → Option ((Unit) × zS)) (v3 : Int32) (g : Nat → Nat → Int32) (L : Nat → Nat → Int64) : Option ((Unit) × zS) :=
  if 12 ≤ (v3 : Int32) then some ((), (g, L))
  else ck v3 12 (
  ck v3 12 (sti g 4 (Int32.toNatClampNeg v3) (g 18 (Int32.toNatClampNeg v3)) (fun g2 =>
  k2 ((v3 + 1), g2, L))))
def fX12_copies_18_4_l2 (fu : Nat) (v3 : Int32) (g : Nat → Nat → Int32) (L : Nat → Nat → Int64) : Option ((Unit) × zS) :=
  whileK (fun k v => fX12_copies_18_4_s2 fu k v.1 v.2.1 v.2.2) fu (v3, g, L)
def fX12_copies_18_4 (fu : Nat) (g : Nat → Nat → Int32) (L : Nat → Nat → Int64) : Option ((Unit) × zS) :=
  fX12_copies_18_4_l2 fu 0 g L
set_option maxHeartbeats 4000000 in
set_option maxRecDepth 100000 in
theorem rX12_copies_18_4 (l : Launch) (G : kG) (sz : Nat) (a : Nat → Nat) (fu : Nat) (g : Nat → Nat → Int32) (L : Nat → Nat → Int64) (res : Unit) (s9 : zS) (h : fX12_copies_18_4 fu g L = some (res, s9)) : kM l yX12_copies cX12_copies 4 none { frames := 6, cells := 0, slots := 0, locals := 110 } G [.ref (a 0), .ref (a 18), .ref (a 4)] (zw G MS 51 a g L) sz (kQv G (S := Unit) (fun _ => True) (fun _ => zw G MS 51 a s9.1 s9.2)) := by
  refine kM.of (by decide) (Nat.le_of_ble_eq_true rfl) ?_
  intro p e s m below meth c A ls H C hr hlk hnm hP hD hS hl
  have C : kC G p s m c cX12_copies 4 RX12 A := C
  have hx := C.1
  have hb := C.2.1
  have hl : lv_has ls 4 [(0, .ref (a 0)), (1, .ref (a 18)), (2, .ref (a 4))] := hl
  obtain ⟨locs, hlocs⟩ : ∃ q : List Loc, q = [] := ⟨_, rfl⟩
  rw [← hlocs] at hS
  rw [← hlocs]
  unfold fX12_copies_18_4 at h
  refine lv_iconst (v := 0) hx hb dX12_copies_0 (by decide) ?_
  refine lv_istore_n (lv' := [(3, .int 0), (0, .ref (a 0)), (1, .ref (a 18)), (2, .ref (a 4))]) hx hb dX12_copies_1 rfl hl (by decide) rfl (fun ls hl => ?_)
  have lp2 : ∀ (_ : True), ∀ (n : Nat) (v : Int32 × (Nat → Nat → Int32) × (Nat → Nat → Int64)), whileK (fun k v => fX12_copies_18_4_s2 fu k v.1 v.2.1 v.2.2) n v = some (res, s9) → ∀ (H : Heap) (locs : List Loc) (ls : Array Slot), va_P G.1 vwCl (zw G MS 51 a (v.2.1) (v.2.2)) H → va_D A (zw G MS 51 a (v.2.1) (v.2.2)) → va_S A s.heap H locs → lv_has ls 4 [(1, .ref (a 18)), (2, .ref (a 4)), (3, .int (v.1))] → W p l e { frames := 6, cells := 0, slots := 0, locals := 110 } s m [.ref (a 0), .ref (a 18), .ref (a 4)].toArray below meth c H locs 0 0 (MQ below ((kQv G (S := Unit) (fun _ => True) (fun _ => zw G MS 51 a s9.1 s9.2)) A) [.ref (a 0), .ref (a 18), .ref (a 4)].toArray s 0 0 A) (F0 m 2 ls []) := by
    intro _
    refine while_ind (fun k2 ih2 v h => ?_)
    obtain ⟨v3, g, L⟩ := v
    intro H locs ls hP hD hS hl
    have h : fX12_copies_18_4_s2 fu k2 v3 g L = some (res, s9) := h
    have hP : va_P G.1 vwCl (zw G MS 51 a g L) H := hP
    have hD : va_D A (zw G MS 51 a g L) := hD
    have hl : lv_has ls 4 [(1, .ref (a 18)), (2, .ref (a 4)), (3, .int v3)] := hl
    show W p l e { frames := 6, cells := 0, slots := 0, locals := 110 } s m [.ref (a 0), .ref (a 18), .ref (a 4)].toArray below meth c H locs 0 0 (MQ below ((kQv G (S := Unit) (fun _ => True) (fun _ => zw G MS 51 a s9.1 s9.2)) A) [.ref (a 0), .ref (a 18), .ref (a 4)].toArray s 0 0 A) (F0 m 2 ls [])
    unfold fX12_copies_18_4_s2 at h
    refine lv_iload_n hx hb dX12_copies_2 rfl (lv_at hl 2 rfl) ?_
    refine lv_aload_n hx hb dX12_copies_3 rfl (lv_at hl 0 rfl) ?_
    refine x_alen (v := 12) C hP (by decide) ms_18 rfl dX12_copies_4 ?_
    refine lv_icmp_ge (x := v3) (y := 12) (tgt := 20) hx hb dX12_copies_5 (by decide) (fun c1 => ?_) (fun c1 => ?_)
    ·
      have h := ite_t c1 h
      exact y_vret C hr hlk hP hD hS h (Nat.le_of_ble_eq_true rfl) (Nat.le_of_ble_eq_true rfl) dX12_copies_20
    ·
      have h := ite_e c1 h
      refine lv_aload_n hx hb dX12_copies_8 rfl (lv_at hl 1 rfl) ?_
      refine lv_iload_n hx hb dX12_copies_9 rfl (lv_at hl 2 rfl) ?_
      refine lv_aload_n hx hb dX12_copies_10 rfl (lv_at hl 0 rfl) ?_
      refine lv_iload_n hx hb dX12_copies_11 rfl (lv_at hl 2 rfl) ?_
      refine y_ald C hP (by decide) ms_18 dX12_copies_12 h (fun h => ?_)
      refine y_ast C hP hD hS (by decide) ms_4 dX12_copies_13 h (fun g2 H locs h hP hD hS => ?_)
      refine lv_iinc (v := (v3 + 1)) (lv' := [(3, .int (v3 + 1)), (1, .ref (a 18)), (2, .ref (a 4))]) hx hb dX12_copies_14 hl (k := 2) rfl rfl (by decide) rfl (fun ls hl => ?_)
      refine lv_goto (tgt := 2) hx hb dX12_copies_17 (by decide) ?_
      exact ih2 ((v3 + 1), g2, L) h H locs ls hP hD hS (lv_sub hl [1, 2, 0] rfl)
  exact lp2 trivial fu (0, g, L) h H locs ls hP hD hS (lv_sub hl [2, 3, 0] rfl)
def fX12_copies_19_5_s2 (fu : Nat) (k2 : Int32 × (Nat → Nat → Int32) × (Nat → Nat → Int64) → Option ((Unit) × zS)) (v3 : Int32) (g : Nat → Nat → Int32) (L : Nat → Nat → Int64) : Option ((Unit) × zS) :=
  if 12 ≤ (v3 : Int32) then some ((), (g, L))
  else ck v3 12 (
  ck v3 12 (sti g 5 (Int32.toNatClampNeg v3) (g 19 (Int32.toNatClampNeg v3)) (fun g2 =>
  k2 ((v3 + 1), g2, L))))
def fX12_copies_19_5_l2 (fu : Nat) (v3 : Int32) (g : Nat → Nat → Int32) (L : Nat → Nat → Int64) : Option ((Unit) × zS) :=
  whileK (fun k v => fX12_copies_19_5_s2 fu k v.1 v.2.1 v.2.2) fu (v3, g, L)
def fX12_copies_19_5 (fu : Nat) (g : Nat → Nat → Int32) (L : Nat → Nat → Int64) : Option ((Unit) × zS) :=
  fX12_copies_19_5_l2 fu 0 g L
set_option maxHeartbeats 4000000 in
set_option maxRecDepth 100000 in
theorem rX12_copies_19_5 (l : Launch) (G : kG) (sz : Nat) (a : Nat → Nat) (fu : Nat) (g : Nat → Nat → Int32) (L : Nat → Nat → Int64) (res : Unit) (s9 : zS) (h : fX12_copies_19_5 fu g L = some (res, s9)) : kM l yX12_copies cX12_copies 4 none { frames := 6, cells := 0, slots := 0, locals := 110 } G [.ref (a 0), .ref (a 19), .ref (a 5)] (zw G MS 51 a g L) sz (kQv G (S := Unit) (fun _ => True) (fun _ => zw G MS 51 a s9.1 s9.2)) := by
  refine kM.of (by decide) (Nat.le_of_ble_eq_true rfl) ?_
  intro p e s m below meth c A ls H C hr hlk hnm hP hD hS hl
  have C : kC G p s m c cX12_copies 4 RX12 A := C
  have hx := C.1
  have hb := C.2.1
  have hl : lv_has ls 4 [(0, .ref (a 0)), (1, .ref (a 19)), (2, .ref (a 5))] := hl
  obtain ⟨locs, hlocs⟩ : ∃ q : List Loc, q = [] := ⟨_, rfl⟩
  rw [← hlocs] at hS
  rw [← hlocs]
  unfold fX12_copies_19_5 at h
  refine lv_iconst (v := 0) hx hb dX12_copies_0 (by decide) ?_
  refine lv_istore_n (lv' := [(3, .int 0), (0, .ref (a 0)), (1, .ref (a 19)), (2, .ref (a 5))]) hx hb dX12_copies_1 rfl hl (by decide) rfl (fun ls hl => ?_)
  have lp2 : ∀ (_ : True), ∀ (n : Nat) (v : Int32 × (Nat → Nat → Int32) × (Nat → Nat → Int64)), whileK (fun k v => fX12_copies_19_5_s2 fu k v.1 v.2.1 v.2.2) n v = some (res, s9) → ∀ (H : Heap) (locs : List Loc) (ls : Array Slot), va_P G.1 vwCl (zw G MS 51 a (v.2.1) (v.2.2)) H → va_D A (zw G MS 51 a (v.2.1) (v.2.2)) → va_S A s.heap H locs → lv_has ls 4 [(1, .ref (a 19)), (2, .ref (a 5)), (3, .int (v.1))] → W p l e { frames := 6, cells := 0, slots := 0, locals := 110 } s m [.ref (a 0), .ref (a 19), .ref (a 5)].toArray below meth c H locs 0 0 (MQ below ((kQv G (S := Unit) (fun _ => True) (fun _ => zw G MS 51 a s9.1 s9.2)) A) [.ref (a 0), .ref (a 19), .ref (a 5)].toArray s 0 0 A) (F0 m 2 ls []) := by
    intro _
    refine while_ind (fun k2 ih2 v h => ?_)
    obtain ⟨v3, g, L⟩ := v
    intro H locs ls hP hD hS hl
    have h : fX12_copies_19_5_s2 fu k2 v3 g L = some (res, s9) := h
    have hP : va_P G.1 vwCl (zw G MS 51 a g L) H := hP
    have hD : va_D A (zw G MS 51 a g L) := hD
    have hl : lv_has ls 4 [(1, .ref (a 19)), (2, .ref (a 5)), (3, .int v3)] := hl
    show W p l e { frames := 6, cells := 0, slots := 0, locals := 110 } s m [.ref (a 0), .ref (a 19), .ref (a 5)].toArray below meth c H locs 0 0 (MQ below ((kQv G (S := Unit) (fun _ => True) (fun _ => zw G MS 51 a s9.1 s9.2)) A) [.ref (a 0), .ref (a 19), .ref (a 5)].toArray s 0 0 A) (F0 m 2 ls [])
    unfold fX12_copies_19_5_s2 at h
    refine lv_iload_n hx hb dX12_copies_2 rfl (lv_at hl 2 rfl) ?_
    refine lv_aload_n hx hb dX12_copies_3 rfl (lv_at hl 0 rfl) ?_
    refine x_alen (v := 12) C hP (by decide) ms_19 rfl dX12_copies_4 ?_
    refine lv_icmp_ge (x := v3) (y := 12) (tgt := 20) hx hb dX12_copies_5 (by decide) (fun c1 => ?_) (fun c1 => ?_)
    ·
      have h := ite_t c1 h
      exact y_vret C hr hlk hP hD hS h (Nat.le_of_ble_eq_true rfl) (Nat.le_of_ble_eq_true rfl) dX12_copies_20
    ·
      have h := ite_e c1 h
      refine lv_aload_n hx hb dX12_copies_8 rfl (lv_at hl 1 rfl) ?_
      refine lv_iload_n hx hb dX12_copies_9 rfl (lv_at hl 2 rfl) ?_
      refine lv_aload_n hx hb dX12_copies_10 rfl (lv_at hl 0 rfl) ?_
      refine lv_iload_n hx hb dX12_copies_11 rfl (lv_at hl 2 rfl) ?_
      refine y_ald C hP (by decide) ms_19 dX12_copies_12 h (fun h => ?_)
      refine y_ast C hP hD hS (by decide) ms_5 dX12_copies_13 h (fun g2 H locs h hP hD hS => ?_)
      refine lv_iinc (v := (v3 + 1)) (lv' := [(3, .int (v3 + 1)), (1, .ref (a 19)), (2, .ref (a 5))]) hx hb dX12_copies_14 hl (k := 2) rfl rfl (by decide) rfl (fun ls hl => ?_)
      refine lv_goto (tgt := 2) hx hb dX12_copies_17 (by decide) ?_
      exact ih2 ((v3 + 1), g2, L) h H locs ls hP hD hS (lv_sub hl [1, 2, 0] rfl)
  exact lp2 trivial fu (0, g, L) h H locs ls hP hD hS (lv_sub hl [2, 3, 0] rfl)
def fX12_copies_20_6_s2 (fu : Nat) (k2 : Int32 × (Nat → Nat → Int32) × (Nat → Nat → Int64) → Option ((Unit) × zS)) (v3 : Int32) (g : Nat → Nat → Int32) (L : Nat → Nat → Int64) : Option ((Unit) × zS) :=
  if 12 ≤ (v3 : Int32) then some ((), (g, L))
  else ck v3 12 (
  ck v3 12 (sti g 6 (Int32.toNatClampNeg v3) (g 20 (Int32.toNatClampNeg v3)) (fun g2 =>
  k2 ((v3 + 1), g2, L))))
def fX12_copies_20_6_l2 (fu : Nat) (v3 : Int32) (g : Nat → Nat → Int32) (L : Nat → Nat → Int64) : Option ((Unit) × zS) :=
  whileK (fun k v => fX12_copies_20_6_s2 fu k v.1 v.2.1 v.2.2) fu (v3, g, L)
def fX12_copies_20_6 (fu : Nat) (g : Nat → Nat → Int32) (L : Nat → Nat → Int64) : Option ((Unit) × zS) :=
  fX12_copies_20_6_l2 fu 0 g L
set_option maxHeartbeats 4000000 in
set_option maxRecDepth 100000 in
theorem rX12_copies_20_6 (l : Launch) (G : kG) (sz : Nat) (a : Nat → Nat) (fu : Nat) (g : Nat → Nat → Int32) (L : Nat → Nat → Int64) (res : Unit) (s9 : zS) (h : fX12_copies_20_6 fu g L = some (res, s9)) : kM l yX12_copies cX12_copies 4 none { frames := 6, cells := 0, slots := 0, locals := 110 } G [.ref (a 0), .ref (a 20), .ref (a 6)] (zw G MS 51 a g L) sz (kQv G (S := Unit) (fun _ => True) (fun _ => zw G MS 51 a s9.1 s9.2)) := by
  refine kM.of (by decide) (Nat.le_of_ble_eq_true rfl) ?_
  intro p e s m below meth c A ls H C hr hlk hnm hP hD hS hl
  have C : kC G p s m c cX12_copies 4 RX12 A := C
  have hx := C.1
  have hb := C.2.1
  have hl : lv_has ls 4 [(0, .ref (a 0)), (1, .ref (a 20)), (2, .ref (a 6))] := hl
  obtain ⟨locs, hlocs⟩ : ∃ q : List Loc, q = [] := ⟨_, rfl⟩
  rw [← hlocs] at hS
  rw [← hlocs]
  unfold fX12_copies_20_6 at h
  refine lv_iconst (v := 0) hx hb dX12_copies_0 (by decide) ?_
  refine lv_istore_n (lv' := [(3, .int 0), (0, .ref (a 0)), (1, .ref (a 20)), (2, .ref (a 6))]) hx hb dX12_copies_1 rfl hl (by decide) rfl (fun ls hl => ?_)
  have lp2 : ∀ (_ : True), ∀ (n : Nat) (v : Int32 × (Nat → Nat → Int32) × (Nat → Nat → Int64)), whileK (fun k v => fX12_copies_20_6_s2 fu k v.1 v.2.1 v.2.2) n v = some (res, s9) → ∀ (H : Heap) (locs : List Loc) (ls : Array Slot), va_P G.1 vwCl (zw G MS 51 a (v.2.1) (v.2.2)) H → va_D A (zw G MS 51 a (v.2.1) (v.2.2)) → va_S A s.heap H locs → lv_has ls 4 [(1, .ref (a 20)), (2, .ref (a 6)), (3, .int (v.1))] → W p l e { frames := 6, cells := 0, slots := 0, locals := 110 } s m [.ref (a 0), .ref (a 20), .ref (a 6)].toArray below meth c H locs 0 0 (MQ below ((kQv G (S := Unit) (fun _ => True) (fun _ => zw G MS 51 a s9.1 s9.2)) A) [.ref (a 0), .ref (a 20), .ref (a 6)].toArray s 0 0 A) (F0 m 2 ls []) := by
    intro _
    refine while_ind (fun k2 ih2 v h => ?_)
    obtain ⟨v3, g, L⟩ := v
    intro H locs ls hP hD hS hl
    have h : fX12_copies_20_6_s2 fu k2 v3 g L = some (res, s9) := h
    have hP : va_P G.1 vwCl (zw G MS 51 a g L) H := hP
    have hD : va_D A (zw G MS 51 a g L) := hD
    have hl : lv_has ls 4 [(1, .ref (a 20)), (2, .ref (a 6)), (3, .int v3)] := hl
    show W p l e { frames := 6, cells := 0, slots := 0, locals := 110 } s m [.ref (a 0), .ref (a 20), .ref (a 6)].toArray below meth c H locs 0 0 (MQ below ((kQv G (S := Unit) (fun _ => True) (fun _ => zw G MS 51 a s9.1 s9.2)) A) [.ref (a 0), .ref (a 20), .ref (a 6)].toArray s 0 0 A) (F0 m 2 ls [])
    unfold fX12_copies_20_6_s2 at h
    refine lv_iload_n hx hb dX12_copies_2 rfl (lv_at hl 2 rfl) ?_
    refine lv_aload_n hx hb dX12_copies_3 rfl (lv_at hl 0 rfl) ?_
    refine x_alen (v := 12) C hP (by decide) ms_20 rfl dX12_copies_4 ?_
    refine lv_icmp_ge (x := v3) (y := 12) (tgt := 20) hx hb dX12_copies_5 (by decide) (fun c1 => ?_) (fun c1 => ?_)
    ·
      have h := ite_t c1 h
      exact y_vret C hr hlk hP hD hS h (Nat.le_of_ble_eq_true rfl) (Nat.le_of_ble_eq_true rfl) dX12_copies_20
    ·
      have h := ite_e c1 h
      refine lv_aload_n hx hb dX12_copies_8 rfl (lv_at hl 1 rfl) ?_
      refine lv_iload_n hx hb dX12_copies_9 rfl (lv_at hl 2 rfl) ?_
      refine lv_aload_n hx hb dX12_copies_10 rfl (lv_at hl 0 rfl) ?_
      refine lv_iload_n hx hb dX12_copies_11 rfl (lv_at hl 2 rfl) ?_
      refine y_ald C hP (by decide) ms_20 dX12_copies_12 h (fun h => ?_)
      refine y_ast C hP hD hS (by decide) ms_6 dX12_copies_13 h (fun g2 H locs h hP hD hS => ?_)
      refine lv_iinc (v := (v3 + 1)) (lv' := [(3, .int (v3 + 1)), (1, .ref (a 20)), (2, .ref (a 6))]) hx hb dX12_copies_14 hl (k := 2) rfl rfl (by decide) rfl (fun ls hl => ?_)
      refine lv_goto (tgt := 2) hx hb dX12_copies_17 (by decide) ?_
      exact ih2 ((v3 + 1), g2, L) h H locs ls hP hD hS (lv_sub hl [1, 2, 0] rfl)
  exact lp2 trivial fu (0, g, L) h H locs ls hP hD hS (lv_sub hl [2, 3, 0] rfl)
def fX12_copies_21_7_s2 (fu : Nat) (k2 : Int32 × (Nat → Nat → Int32) × (Nat → Nat → Int64) → Option ((Unit) × zS)) (v3 : Int32) (g : Nat → Nat → Int32) (L : Nat → Nat → Int64) : Option ((Unit) × zS) :=
  if 12 ≤ (v3 : Int32) then some ((), (g, L))
  else ck v3 12 (
  ck v3 12 (sti g 7 (Int32.toNatClampNeg v3) (g 21 (Int32.toNatClampNeg v3)) (fun g2 =>
  k2 ((v3 + 1), g2, L))))
def fX12_copies_21_7_l2 (fu : Nat) (v3 : Int32) (g : Nat → Nat → Int32) (L : Nat → Nat → Int64) : Option ((Unit) × zS) :=
  whileK (fun k v => fX12_copies_21_7_s2 fu k v.1 v.2.1 v.2.2) fu (v3, g, L)
def fX12_copies_21_7 (fu : Nat) (g : Nat → Nat → Int32) (L : Nat → Nat → Int64) : Option ((Unit) × zS) :=
  fX12_copies_21_7_l2 fu 0 g L
set_option maxHeartbeats 4000000 in
set_option maxRecDepth 100000 in
theorem rX12_copies_21_7 (l : Launch) (G : kG) (sz : Nat) (a : Nat → Nat) (fu : Nat) (g : Nat → Nat → Int32) (L : Nat → Nat → Int64) (res : Unit) (s9 : zS) (h : fX12_copies_21_7 fu g L = some (res, s9)) : kM l yX12_copies cX12_copies 4 none { frames := 6, cells := 0, slots := 0, locals := 110 } G [.ref (a 0), .ref (a 21), .ref (a 7)] (zw G MS 51 a g L) sz (kQv G (S := Unit) (fun _ => True) (fun _ => zw G MS 51 a s9.1 s9.2)) := by
  refine kM.of (by decide) (Nat.le_of_ble_eq_true rfl) ?_
  intro p e s m below meth c A ls H C hr hlk hnm hP hD hS hl
  have C : kC G p s m c cX12_copies 4 RX12 A := C
  have hx := C.1
  have hb := C.2.1
  have hl : lv_has ls 4 [(0, .ref (a 0)), (1, .ref (a 21)), (2, .ref (a 7))] := hl
  obtain ⟨locs, hlocs⟩ : ∃ q : List Loc, q = [] := ⟨_, rfl⟩
  rw [← hlocs] at hS
  rw [← hlocs]
  unfold fX12_copies_21_7 at h
  refine lv_iconst (v := 0) hx hb dX12_copies_0 (by decide) ?_
  refine lv_istore_n (lv' := [(3, .int 0), (0, .ref (a 0)), (1, .ref (a 21)), (2, .ref (a 7))]) hx hb dX12_copies_1 rfl hl (by decide) rfl (fun ls hl => ?_)
  have lp2 : ∀ (_ : True), ∀ (n : Nat) (v : Int32 × (Nat → Nat → Int32) × (Nat → Nat → Int64)), whileK (fun k v => fX12_copies_21_7_s2 fu k v.1 v.2.1 v.2.2) n v = some (res, s9) → ∀ (H : Heap) (locs : List Loc) (ls : Array Slot), va_P G.1 vwCl (zw G MS 51 a (v.2.1) (v.2.2)) H → va_D A (zw G MS 51 a (v.2.1) (v.2.2)) → va_S A s.heap H locs → lv_has ls 4 [(1, .ref (a 21)), (2, .ref (a 7)), (3, .int (v.1))] → W p l e { frames := 6, cells := 0, slots := 0, locals := 110 } s m [.ref (a 0), .ref (a 21), .ref (a 7)].toArray below meth c H locs 0 0 (MQ below ((kQv G (S := Unit) (fun _ => True) (fun _ => zw G MS 51 a s9.1 s9.2)) A) [.ref (a 0), .ref (a 21), .ref (a 7)].toArray s 0 0 A) (F0 m 2 ls []) := by
    intro _
    refine while_ind (fun k2 ih2 v h => ?_)
    obtain ⟨v3, g, L⟩ := v
    intro H locs ls hP hD hS hl
    have h : fX12_copies_21_7_s2 fu k2 v3 g L = some (res, s9) := h
    have hP : va_P G.1 vwCl (zw G MS 51 a g L) H := hP
    have hD : va_D A (zw G MS 51 a g L) := hD
    have hl : lv_has ls 4 [(1, .ref (a 21)), (2, .ref (a 7)), (3, .int v3)] := hl
    show W p l e { frames := 6, cells := 0, slots := 0, locals := 110 } s m [.ref (a 0), .ref (a 21), .ref (a 7)].toArray below meth c H locs 0 0 (MQ below ((kQv G (S := Unit) (fun _ => True) (fun _ => zw G MS 51 a s9.1 s9.2)) A) [.ref (a 0), .ref (a 21), .ref (a 7)].toArray s 0 0 A) (F0 m 2 ls [])
    unfold fX12_copies_21_7_s2 at h
    refine lv_iload_n hx hb dX12_copies_2 rfl (lv_at hl 2 rfl) ?_
    refine lv_aload_n hx hb dX12_copies_3 rfl (lv_at hl 0 rfl) ?_
    refine x_alen (v := 12) C hP (by decide) ms_21 rfl dX12_copies_4 ?_
    refine lv_icmp_ge (x := v3) (y := 12) (tgt := 20) hx hb dX12_copies_5 (by decide) (fun c1 => ?_) (fun c1 => ?_)
    ·
      have h := ite_t c1 h
      exact y_vret C hr hlk hP hD hS h (Nat.le_of_ble_eq_true rfl) (Nat.le_of_ble_eq_true rfl) dX12_copies_20
    ·
      have h := ite_e c1 h
      refine lv_aload_n hx hb dX12_copies_8 rfl (lv_at hl 1 rfl) ?_
      refine lv_iload_n hx hb dX12_copies_9 rfl (lv_at hl 2 rfl) ?_
      refine lv_aload_n hx hb dX12_copies_10 rfl (lv_at hl 0 rfl) ?_
      refine lv_iload_n hx hb dX12_copies_11 rfl (lv_at hl 2 rfl) ?_
      refine y_ald C hP (by decide) ms_21 dX12_copies_12 h (fun h => ?_)
      refine y_ast C hP hD hS (by decide) ms_7 dX12_copies_13 h (fun g2 H locs h hP hD hS => ?_)
      refine lv_iinc (v := (v3 + 1)) (lv' := [(3, .int (v3 + 1)), (1, .ref (a 21)), (2, .ref (a 7))]) hx hb dX12_copies_14 hl (k := 2) rfl rfl (by decide) rfl (fun ls hl => ?_)
      refine lv_goto (tgt := 2) hx hb dX12_copies_17 (by decide) ?_
      exact ih2 ((v3 + 1), g2, L) h H locs ls hP hD hS (lv_sub hl [1, 2, 0] rfl)
  exact lp2 trivial fu (0, g, L) h H locs ls hP hD hS (lv_sub hl [2, 3, 0] rfl)
def fX12_copies_22_8_s2 (fu : Nat) (k2 : Int32 × (Nat → Nat → Int32) × (Nat → Nat → Int64) → Option ((Unit) × zS)) (v3 : Int32) (g : Nat → Nat → Int32) (L : Nat → Nat → Int64) : Option ((Unit) × zS) :=
  if 12 ≤ (v3 : Int32) then some ((), (g, L))
  else ck v3 12 (
  ck v3 12 (sti g 8 (Int32.toNatClampNeg v3) (g 22 (Int32.toNatClampNeg v3)) (fun g2 =>
  k2 ((v3 + 1), g2, L))))
def fX12_copies_22_8_l2 (fu : Nat) (v3 : Int32) (g : Nat → Nat → Int32) (L : Nat → Nat → Int64) : Option ((Unit) × zS) :=
  whileK (fun k v => fX12_copies_22_8_s2 fu k v.1 v.2.1 v.2.2) fu (v3, g, L)
def fX12_copies_22_8 (fu : Nat) (g : Nat → Nat → Int32) (L : Nat → Nat → Int64) : Option ((Unit) × zS) :=
  fX12_copies_22_8_l2 fu 0 g L
set_option maxHeartbeats 4000000 in
set_option maxRecDepth 100000 in
theorem rX12_copies_22_8 (l : Launch) (G : kG) (sz : Nat) (a : Nat → Nat) (fu : Nat) (g : Nat → Nat → Int32) (L : Nat → Nat → Int64) (res : Unit) (s9 : zS) (h : fX12_copies_22_8 fu g L = some (res, s9)) : kM l yX12_copies cX12_copies 4 none { frames := 6, cells := 0, slots := 0, locals := 110 } G [.ref (a 0), .ref (a 22), .ref (a 8)] (zw G MS 51 a g L) sz (kQv G (S := Unit) (fun _ => True) (fun _ => zw G MS 51 a s9.1 s9.2)) := by
  refine kM.of (by decide) (Nat.le_of_ble_eq_true rfl) ?_
  intro p e s m below meth c A ls H C hr hlk hnm hP hD hS hl
  have C : kC G p s m c cX12_copies 4 RX12 A := C
  have hx := C.1
  have hb := C.2.1
  have hl : lv_has ls 4 [(0, .ref (a 0)), (1, .ref (a 22)), (2, .ref (a 8))] := hl
  obtain ⟨locs, hlocs⟩ : ∃ q : List Loc, q = [] := ⟨_, rfl⟩
  rw [← hlocs] at hS
  rw [← hlocs]
  unfold fX12_copies_22_8 at h
  refine lv_iconst (v := 0) hx hb dX12_copies_0 (by decide) ?_
  refine lv_istore_n (lv' := [(3, .int 0), (0, .ref (a 0)), (1, .ref (a 22)), (2, .ref (a 8))]) hx hb dX12_copies_1 rfl hl (by decide) rfl (fun ls hl => ?_)
  have lp2 : ∀ (_ : True), ∀ (n : Nat) (v : Int32 × (Nat → Nat → Int32) × (Nat → Nat → Int64)), whileK (fun k v => fX12_copies_22_8_s2 fu k v.1 v.2.1 v.2.2) n v = some (res, s9) → ∀ (H : Heap) (locs : List Loc) (ls : Array Slot), va_P G.1 vwCl (zw G MS 51 a (v.2.1) (v.2.2)) H → va_D A (zw G MS 51 a (v.2.1) (v.2.2)) → va_S A s.heap H locs → lv_has ls 4 [(1, .ref (a 22)), (2, .ref (a 8)), (3, .int (v.1))] → W p l e { frames := 6, cells := 0, slots := 0, locals := 110 } s m [.ref (a 0), .ref (a 22), .ref (a 8)].toArray below meth c H locs 0 0 (MQ below ((kQv G (S := Unit) (fun _ => True) (fun _ => zw G MS 51 a s9.1 s9.2)) A) [.ref (a 0), .ref (a 22), .ref (a 8)].toArray s 0 0 A) (F0 m 2 ls []) := by
    intro _
    refine while_ind (fun k2 ih2 v h => ?_)
    obtain ⟨v3, g, L⟩ := v
    intro H locs ls hP hD hS hl
    have h : fX12_copies_22_8_s2 fu k2 v3 g L = some (res, s9) := h
    have hP : va_P G.1 vwCl (zw G MS 51 a g L) H := hP
    have hD : va_D A (zw G MS 51 a g L) := hD
    have hl : lv_has ls 4 [(1, .ref (a 22)), (2, .ref (a 8)), (3, .int v3)] := hl
    show W p l e { frames := 6, cells := 0, slots := 0, locals := 110 } s m [.ref (a 0), .ref (a 22), .ref (a 8)].toArray below meth c H locs 0 0 (MQ below ((kQv G (S := Unit) (fun _ => True) (fun _ => zw G MS 51 a s9.1 s9.2)) A) [.ref (a 0), .ref (a 22), .ref (a 8)].toArray s 0 0 A) (F0 m 2 ls [])
    unfold fX12_copies_22_8_s2 at h
    refine lv_iload_n hx hb dX12_copies_2 rfl (lv_at hl 2 rfl) ?_
    refine lv_aload_n hx hb dX12_copies_3 rfl (lv_at hl 0 rfl) ?_
    refine x_alen (v := 12) C hP (by decide) ms_22 rfl dX12_copies_4 ?_
    refine lv_icmp_ge (x := v3) (y := 12) (tgt := 20) hx hb dX12_copies_5 (by decide) (fun c1 => ?_) (fun c1 => ?_)
    ·
      have h := ite_t c1 h
      exact y_vret C hr hlk hP hD hS h (Nat.le_of_ble_eq_true rfl) (Nat.le_of_ble_eq_true rfl) dX12_copies_20
    ·
      have h := ite_e c1 h
      refine lv_aload_n hx hb dX12_copies_8 rfl (lv_at hl 1 rfl) ?_
      refine lv_iload_n hx hb dX12_copies_9 rfl (lv_at hl 2 rfl) ?_
      refine lv_aload_n hx hb dX12_copies_10 rfl (lv_at hl 0 rfl) ?_
      refine lv_iload_n hx hb dX12_copies_11 rfl (lv_at hl 2 rfl) ?_
      refine y_ald C hP (by decide) ms_22 dX12_copies_12 h (fun h => ?_)
      refine y_ast C hP hD hS (by decide) ms_8 dX12_copies_13 h (fun g2 H locs h hP hD hS => ?_)
      refine lv_iinc (v := (v3 + 1)) (lv' := [(3, .int (v3 + 1)), (1, .ref (a 22)), (2, .ref (a 8))]) hx hb dX12_copies_14 hl (k := 2) rfl rfl (by decide) rfl (fun ls hl => ?_)
      refine lv_goto (tgt := 2) hx hb dX12_copies_17 (by decide) ?_
      exact ih2 ((v3 + 1), g2, L) h H locs ls hP hD hS (lv_sub hl [1, 2, 0] rfl)
  exact lp2 trivial fu (0, g, L) h H locs ls hP hD hS (lv_sub hl [2, 3, 0] rfl)
def fX12_copies_23_9_s2 (fu : Nat) (k2 : Int32 × (Nat → Nat → Int32) × (Nat → Nat → Int64) → Option ((Unit) × zS)) (v3 : Int32) (g : Nat → Nat → Int32) (L : Nat → Nat → Int64) : Option ((Unit) × zS) :=
  if 72 ≤ (v3 : Int32) then some ((), (g, L))
  else ck v3 72 (
  ck v3 72 (sti g 9 (Int32.toNatClampNeg v3) (g 23 (Int32.toNatClampNeg v3)) (fun g2 =>
  k2 ((v3 + 1), g2, L))))
def fX12_copies_23_9_l2 (fu : Nat) (v3 : Int32) (g : Nat → Nat → Int32) (L : Nat → Nat → Int64) : Option ((Unit) × zS) :=
  whileK (fun k v => fX12_copies_23_9_s2 fu k v.1 v.2.1 v.2.2) fu (v3, g, L)
def fX12_copies_23_9 (fu : Nat) (g : Nat → Nat → Int32) (L : Nat → Nat → Int64) : Option ((Unit) × zS) :=
  fX12_copies_23_9_l2 fu 0 g L
set_option maxHeartbeats 4000000 in
set_option maxRecDepth 100000 in
theorem rX12_copies_23_9 (l : Launch) (G : kG) (sz : Nat) (a : Nat → Nat) (fu : Nat) (g : Nat → Nat → Int32) (L : Nat → Nat → Int64) (res : Unit) (s9 : zS) (h : fX12_copies_23_9 fu g L = some (res, s9)) : kM l yX12_copies cX12_copies 4 none { frames := 6, cells := 0, slots := 0, locals := 110 } G [.ref (a 0), .ref (a 23), .ref (a 9)] (zw G MS 51 a g L) sz (kQv G (S := Unit) (fun _ => True) (fun _ => zw G MS 51 a s9.1 s9.2)) := by
  refine kM.of (by decide) (Nat.le_of_ble_eq_true rfl) ?_
  intro p e s m below meth c A ls H C hr hlk hnm hP hD hS hl
  have C : kC G p s m c cX12_copies 4 RX12 A := C
  have hx := C.1
  have hb := C.2.1
  have hl : lv_has ls 4 [(0, .ref (a 0)), (1, .ref (a 23)), (2, .ref (a 9))] := hl
  obtain ⟨locs, hlocs⟩ : ∃ q : List Loc, q = [] := ⟨_, rfl⟩
  rw [← hlocs] at hS
  rw [← hlocs]
  unfold fX12_copies_23_9 at h
  refine lv_iconst (v := 0) hx hb dX12_copies_0 (by decide) ?_
  refine lv_istore_n (lv' := [(3, .int 0), (0, .ref (a 0)), (1, .ref (a 23)), (2, .ref (a 9))]) hx hb dX12_copies_1 rfl hl (by decide) rfl (fun ls hl => ?_)
  have lp2 : ∀ (_ : True), ∀ (n : Nat) (v : Int32 × (Nat → Nat → Int32) × (Nat → Nat → Int64)), whileK (fun k v => fX12_copies_23_9_s2 fu k v.1 v.2.1 v.2.2) n v = some (res, s9) → ∀ (H : Heap) (locs : List Loc) (ls : Array Slot), va_P G.1 vwCl (zw G MS 51 a (v.2.1) (v.2.2)) H → va_D A (zw G MS 51 a (v.2.1) (v.2.2)) → va_S A s.heap H locs → lv_has ls 4 [(1, .ref (a 23)), (2, .ref (a 9)), (3, .int (v.1))] → W p l e { frames := 6, cells := 0, slots := 0, locals := 110 } s m [.ref (a 0), .ref (a 23), .ref (a 9)].toArray below meth c H locs 0 0 (MQ below ((kQv G (S := Unit) (fun _ => True) (fun _ => zw G MS 51 a s9.1 s9.2)) A) [.ref (a 0), .ref (a 23), .ref (a 9)].toArray s 0 0 A) (F0 m 2 ls []) := by
    intro _
    refine while_ind (fun k2 ih2 v h => ?_)
    obtain ⟨v3, g, L⟩ := v
    intro H locs ls hP hD hS hl
    have h : fX12_copies_23_9_s2 fu k2 v3 g L = some (res, s9) := h
    have hP : va_P G.1 vwCl (zw G MS 51 a g L) H := hP
    have hD : va_D A (zw G MS 51 a g L) := hD
    have hl : lv_has ls 4 [(1, .ref (a 23)), (2, .ref (a 9)), (3, .int v3)] := hl
    show W p l e { frames := 6, cells := 0, slots := 0, locals := 110 } s m [.ref (a 0), .ref (a 23), .ref (a 9)].toArray below meth c H locs 0 0 (MQ below ((kQv G (S := Unit) (fun _ => True) (fun _ => zw G MS 51 a s9.1 s9.2)) A) [.ref (a 0), .ref (a 23), .ref (a 9)].toArray s 0 0 A) (F0 m 2 ls [])
    unfold fX12_copies_23_9_s2 at h
    refine lv_iload_n hx hb dX12_copies_2 rfl (lv_at hl 2 rfl) ?_
    refine lv_aload_n hx hb dX12_copies_3 rfl (lv_at hl 0 rfl) ?_
    refine x_alen (v := 72) C hP (by decide) ms_23 rfl dX12_copies_4 ?_
    refine lv_icmp_ge (x := v3) (y := 72) (tgt := 20) hx hb dX12_copies_5 (by decide) (fun c1 => ?_) (fun c1 => ?_)
    ·
      have h := ite_t c1 h
      exact y_vret C hr hlk hP hD hS h (Nat.le_of_ble_eq_true rfl) (Nat.le_of_ble_eq_true rfl) dX12_copies_20
    ·
      have h := ite_e c1 h
      refine lv_aload_n hx hb dX12_copies_8 rfl (lv_at hl 1 rfl) ?_
      refine lv_iload_n hx hb dX12_copies_9 rfl (lv_at hl 2 rfl) ?_
      refine lv_aload_n hx hb dX12_copies_10 rfl (lv_at hl 0 rfl) ?_
      refine lv_iload_n hx hb dX12_copies_11 rfl (lv_at hl 2 rfl) ?_
      refine y_ald C hP (by decide) ms_23 dX12_copies_12 h (fun h => ?_)
      refine y_ast C hP hD hS (by decide) ms_9 dX12_copies_13 h (fun g2 H locs h hP hD hS => ?_)
      refine lv_iinc (v := (v3 + 1)) (lv' := [(3, .int (v3 + 1)), (1, .ref (a 23)), (2, .ref (a 9))]) hx hb dX12_copies_14 hl (k := 2) rfl rfl (by decide) rfl (fun ls hl => ?_)
      refine lv_goto (tgt := 2) hx hb dX12_copies_17 (by decide) ?_
      exact ih2 ((v3 + 1), g2, L) h H locs ls hP hD hS (lv_sub hl [1, 2, 0] rfl)
  exact lp2 trivial fu (0, g, L) h H locs ls hP hD hS (lv_sub hl [2, 3, 0] rfl)
def fX12_copies_24_12_s2 (fu : Nat) (k2 : Int32 × (Nat → Nat → Int32) × (Nat → Nat → Int64) → Option ((Unit) × zS)) (v3 : Int32) (g : Nat → Nat → Int32) (L : Nat → Nat → Int64) : Option ((Unit) × zS) :=
  if 48 ≤ (v3 : Int32) then some ((), (g, L))
  else ck v3 48 (
  ck v3 48 (sti g 12 (Int32.toNatClampNeg v3) (g 24 (Int32.toNatClampNeg v3)) (fun g2 =>
  k2 ((v3 + 1), g2, L))))
def fX12_copies_24_12_l2 (fu : Nat) (v3 : Int32) (g : Nat → Nat → Int32) (L : Nat → Nat → Int64) : Option ((Unit) × zS) :=
  whileK (fun k v => fX12_copies_24_12_s2 fu k v.1 v.2.1 v.2.2) fu (v3, g, L)
def fX12_copies_24_12 (fu : Nat) (g : Nat → Nat → Int32) (L : Nat → Nat → Int64) : Option ((Unit) × zS) :=
  fX12_copies_24_12_l2 fu 0 g L
set_option maxHeartbeats 4000000 in
set_option maxRecDepth 100000 in
theorem rX12_copies_24_12 (l : Launch) (G : kG) (sz : Nat) (a : Nat → Nat) (fu : Nat) (g : Nat → Nat → Int32) (L : Nat → Nat → Int64) (res : Unit) (s9 : zS) (h : fX12_copies_24_12 fu g L = some (res, s9)) : kM l yX12_copies cX12_copies 4 none { frames := 6, cells := 0, slots := 0, locals := 110 } G [.ref (a 0), .ref (a 24), .ref (a 12)] (zw G MS 51 a g L) sz (kQv G (S := Unit) (fun _ => True) (fun _ => zw G MS 51 a s9.1 s9.2)) := by
  refine kM.of (by decide) (Nat.le_of_ble_eq_true rfl) ?_
  intro p e s m below meth c A ls H C hr hlk hnm hP hD hS hl
  have C : kC G p s m c cX12_copies 4 RX12 A := C
  have hx := C.1
  have hb := C.2.1
  have hl : lv_has ls 4 [(0, .ref (a 0)), (1, .ref (a 24)), (2, .ref (a 12))] := hl
  obtain ⟨locs, hlocs⟩ : ∃ q : List Loc, q = [] := ⟨_, rfl⟩
  rw [← hlocs] at hS
  rw [← hlocs]
  unfold fX12_copies_24_12 at h
  refine lv_iconst (v := 0) hx hb dX12_copies_0 (by decide) ?_
  refine lv_istore_n (lv' := [(3, .int 0), (0, .ref (a 0)), (1, .ref (a 24)), (2, .ref (a 12))]) hx hb dX12_copies_1 rfl hl (by decide) rfl (fun ls hl => ?_)
  have lp2 : ∀ (_ : True), ∀ (n : Nat) (v : Int32 × (Nat → Nat → Int32) × (Nat → Nat → Int64)), whileK (fun k v => fX12_copies_24_12_s2 fu k v.1 v.2.1 v.2.2) n v = some (res, s9) → ∀ (H : Heap) (locs : List Loc) (ls : Array Slot), va_P G.1 vwCl (zw G MS 51 a (v.2.1) (v.2.2)) H → va_D A (zw G MS 51 a (v.2.1) (v.2.2)) → va_S A s.heap H locs → lv_has ls 4 [(1, .ref (a 24)), (2, .ref (a 12)), (3, .int (v.1))] → W p l e { frames := 6, cells := 0, slots := 0, locals := 110 } s m [.ref (a 0), .ref (a 24), .ref (a 12)].toArray below meth c H locs 0 0 (MQ below ((kQv G (S := Unit) (fun _ => True) (fun _ => zw G MS 51 a s9.1 s9.2)) A) [.ref (a 0), .ref (a 24), .ref (a 12)].toArray s 0 0 A) (F0 m 2 ls []) := by
    intro _
    refine while_ind (fun k2 ih2 v h => ?_)
    obtain ⟨v3, g, L⟩ := v
    intro H locs ls hP hD hS hl
    have h : fX12_copies_24_12_s2 fu k2 v3 g L = some (res, s9) := h
    have hP : va_P G.1 vwCl (zw G MS 51 a g L) H := hP
    have hD : va_D A (zw G MS 51 a g L) := hD
    have hl : lv_has ls 4 [(1, .ref (a 24)), (2, .ref (a 12)), (3, .int v3)] := hl
    show W p l e { frames := 6, cells := 0, slots := 0, locals := 110 } s m [.ref (a 0), .ref (a 24), .ref (a 12)].toArray below meth c H locs 0 0 (MQ below ((kQv G (S := Unit) (fun _ => True) (fun _ => zw G MS 51 a s9.1 s9.2)) A) [.ref (a 0), .ref (a 24), .ref (a 12)].toArray s 0 0 A) (F0 m 2 ls [])
    unfold fX12_copies_24_12_s2 at h
    refine lv_iload_n hx hb dX12_copies_2 rfl (lv_at hl 2 rfl) ?_
    refine lv_aload_n hx hb dX12_copies_3 rfl (lv_at hl 0 rfl) ?_
    refine x_alen (v := 48) C hP (by decide) ms_24 rfl dX12_copies_4 ?_
    refine lv_icmp_ge (x := v3) (y := 48) (tgt := 20) hx hb dX12_copies_5 (by decide) (fun c1 => ?_) (fun c1 => ?_)
    ·
      have h := ite_t c1 h
      exact y_vret C hr hlk hP hD hS h (Nat.le_of_ble_eq_true rfl) (Nat.le_of_ble_eq_true rfl) dX12_copies_20
    ·
      have h := ite_e c1 h
      refine lv_aload_n hx hb dX12_copies_8 rfl (lv_at hl 1 rfl) ?_
      refine lv_iload_n hx hb dX12_copies_9 rfl (lv_at hl 2 rfl) ?_
      refine lv_aload_n hx hb dX12_copies_10 rfl (lv_at hl 0 rfl) ?_
      refine lv_iload_n hx hb dX12_copies_11 rfl (lv_at hl 2 rfl) ?_
      refine y_ald C hP (by decide) ms_24 dX12_copies_12 h (fun h => ?_)
      refine y_ast C hP hD hS (by decide) ms_12 dX12_copies_13 h (fun g2 H locs h hP hD hS => ?_)
      refine lv_iinc (v := (v3 + 1)) (lv' := [(3, .int (v3 + 1)), (1, .ref (a 24)), (2, .ref (a 12))]) hx hb dX12_copies_14 hl (k := 2) rfl rfl (by decide) rfl (fun ls hl => ?_)
      refine lv_goto (tgt := 2) hx hb dX12_copies_17 (by decide) ?_
      exact ih2 ((v3 + 1), g2, L) h H locs ls hP hD hS (lv_sub hl [1, 2, 0] rfl)
  exact lp2 trivial fu (0, g, L) h H locs ls hP hD hS (lv_sub hl [2, 3, 0] rfl)
def fX12_copies_25_10_s2 (fu : Nat) (k2 : Int32 × (Nat → Nat → Int32) × (Nat → Nat → Int64) → Option ((Unit) × zS)) (v3 : Int32) (g : Nat → Nat → Int32) (L : Nat → Nat → Int64) : Option ((Unit) × zS) :=
  if 4 ≤ (v3 : Int32) then some ((), (g, L))
  else ck v3 4 (
  ck v3 4 (sti g 10 (Int32.toNatClampNeg v3) (g 25 (Int32.toNatClampNeg v3)) (fun g2 =>
  k2 ((v3 + 1), g2, L))))
def fX12_copies_25_10_l2 (fu : Nat) (v3 : Int32) (g : Nat → Nat → Int32) (L : Nat → Nat → Int64) : Option ((Unit) × zS) :=
  whileK (fun k v => fX12_copies_25_10_s2 fu k v.1 v.2.1 v.2.2) fu (v3, g, L)
def fX12_copies_25_10 (fu : Nat) (g : Nat → Nat → Int32) (L : Nat → Nat → Int64) : Option ((Unit) × zS) :=
  fX12_copies_25_10_l2 fu 0 g L
set_option maxHeartbeats 4000000 in
set_option maxRecDepth 100000 in
theorem rX12_copies_25_10 (l : Launch) (G : kG) (sz : Nat) (a : Nat → Nat) (fu : Nat) (g : Nat → Nat → Int32) (L : Nat → Nat → Int64) (res : Unit) (s9 : zS) (h : fX12_copies_25_10 fu g L = some (res, s9)) : kM l yX12_copies cX12_copies 4 none { frames := 6, cells := 0, slots := 0, locals := 110 } G [.ref (a 0), .ref (a 25), .ref (a 10)] (zw G MS 51 a g L) sz (kQv G (S := Unit) (fun _ => True) (fun _ => zw G MS 51 a s9.1 s9.2)) := by
  refine kM.of (by decide) (Nat.le_of_ble_eq_true rfl) ?_
  intro p e s m below meth c A ls H C hr hlk hnm hP hD hS hl
  have C : kC G p s m c cX12_copies 4 RX12 A := C
  have hx := C.1
  have hb := C.2.1
  have hl : lv_has ls 4 [(0, .ref (a 0)), (1, .ref (a 25)), (2, .ref (a 10))] := hl
  obtain ⟨locs, hlocs⟩ : ∃ q : List Loc, q = [] := ⟨_, rfl⟩
  rw [← hlocs] at hS
  rw [← hlocs]
  unfold fX12_copies_25_10 at h
  refine lv_iconst (v := 0) hx hb dX12_copies_0 (by decide) ?_
  refine lv_istore_n (lv' := [(3, .int 0), (0, .ref (a 0)), (1, .ref (a 25)), (2, .ref (a 10))]) hx hb dX12_copies_1 rfl hl (by decide) rfl (fun ls hl => ?_)
  have lp2 : ∀ (_ : True), ∀ (n : Nat) (v : Int32 × (Nat → Nat → Int32) × (Nat → Nat → Int64)), whileK (fun k v => fX12_copies_25_10_s2 fu k v.1 v.2.1 v.2.2) n v = some (res, s9) → ∀ (H : Heap) (locs : List Loc) (ls : Array Slot), va_P G.1 vwCl (zw G MS 51 a (v.2.1) (v.2.2)) H → va_D A (zw G MS 51 a (v.2.1) (v.2.2)) → va_S A s.heap H locs → lv_has ls 4 [(1, .ref (a 25)), (2, .ref (a 10)), (3, .int (v.1))] → W p l e { frames := 6, cells := 0, slots := 0, locals := 110 } s m [.ref (a 0), .ref (a 25), .ref (a 10)].toArray below meth c H locs 0 0 (MQ below ((kQv G (S := Unit) (fun _ => True) (fun _ => zw G MS 51 a s9.1 s9.2)) A) [.ref (a 0), .ref (a 25), .ref (a 10)].toArray s 0 0 A) (F0 m 2 ls []) := by
    intro _
    refine while_ind (fun k2 ih2 v h => ?_)
    obtain ⟨v3, g, L⟩ := v
    intro H locs ls hP hD hS hl
    have h : fX12_copies_25_10_s2 fu k2 v3 g L = some (res, s9) := h
    have hP : va_P G.1 vwCl (zw G MS 51 a g L) H := hP
    have hD : va_D A (zw G MS 51 a g L) := hD
    have hl : lv_has ls 4 [(1, .ref (a 25)), (2, .ref (a 10)), (3, .int v3)] := hl
    show W p l e { frames := 6, cells := 0, slots := 0, locals := 110 } s m [.ref (a 0), .ref (a 25), .ref (a 10)].toArray below meth c H locs 0 0 (MQ below ((kQv G (S := Unit) (fun _ => True) (fun _ => zw G MS 51 a s9.1 s9.2)) A) [.ref (a 0), .ref (a 25), .ref (a 10)].toArray s 0 0 A) (F0 m 2 ls [])
    unfold fX12_copies_25_10_s2 at h
    refine lv_iload_n hx hb dX12_copies_2 rfl (lv_at hl 2 rfl) ?_
    refine lv_aload_n hx hb dX12_copies_3 rfl (lv_at hl 0 rfl) ?_
    refine x_alen (v := 4) C hP (by decide) ms_25 rfl dX12_copies_4 ?_
    refine lv_icmp_ge (x := v3) (y := 4) (tgt := 20) hx hb dX12_copies_5 (by decide) (fun c1 => ?_) (fun c1 => ?_)
    ·
      have h := ite_t c1 h
      exact y_vret C hr hlk hP hD hS h (Nat.le_of_ble_eq_true rfl) (Nat.le_of_ble_eq_true rfl) dX12_copies_20
    ·
      have h := ite_e c1 h
      refine lv_aload_n hx hb dX12_copies_8 rfl (lv_at hl 1 rfl) ?_
      refine lv_iload_n hx hb dX12_copies_9 rfl (lv_at hl 2 rfl) ?_
      refine lv_aload_n hx hb dX12_copies_10 rfl (lv_at hl 0 rfl) ?_
      refine lv_iload_n hx hb dX12_copies_11 rfl (lv_at hl 2 rfl) ?_
      refine y_ald C hP (by decide) ms_25 dX12_copies_12 h (fun h => ?_)
      refine y_ast C hP hD hS (by decide) ms_10 dX12_copies_13 h (fun g2 H locs h hP hD hS => ?_)
      refine lv_iinc (v := (v3 + 1)) (lv' := [(3, .int (v3 + 1)), (1, .ref (a 25)), (2, .ref (a 10))]) hx hb dX12_copies_14 hl (k := 2) rfl rfl (by decide) rfl (fun ls hl => ?_)
      refine lv_goto (tgt := 2) hx hb dX12_copies_17 (by decide) ?_
      exact ih2 ((v3 + 1), g2, L) h H locs ls hP hD hS (lv_sub hl [1, 2, 0] rfl)
  exact lp2 trivial fu (0, g, L) h H locs ls hP hD hS (lv_sub hl [2, 3, 0] rfl)
def fX12_copies_26_11_s2 (fu : Nat) (k2 : Int32 × (Nat → Nat → Int32) × (Nat → Nat → Int64) → Option ((Unit) × zS)) (v3 : Int32) (g : Nat → Nat → Int32) (L : Nat → Nat → Int64) : Option ((Unit) × zS) :=
  if 1900 ≤ (v3 : Int32) then some ((), (g, L))
  else ck v3 1900 (
  ck v3 1900 (sti g 11 (Int32.toNatClampNeg v3) (g 26 (Int32.toNatClampNeg v3)) (fun g2 =>
  k2 ((v3 + 1), g2, L))))
def fX12_copies_26_11_l2 (fu : Nat) (v3 : Int32) (g : Nat → Nat → Int32) (L : Nat → Nat → Int64) : Option ((Unit) × zS) :=
  whileK (fun k v => fX12_copies_26_11_s2 fu k v.1 v.2.1 v.2.2) fu (v3, g, L)
def fX12_copies_26_11 (fu : Nat) (g : Nat → Nat → Int32) (L : Nat → Nat → Int64) : Option ((Unit) × zS) :=
  fX12_copies_26_11_l2 fu 0 g L
set_option maxHeartbeats 4000000 in
set_option maxRecDepth 100000 in
theorem rX12_copies_26_11 (l : Launch) (G : kG) (sz : Nat) (a : Nat → Nat) (fu : Nat) (g : Nat → Nat → Int32) (L : Nat → Nat → Int64) (res : Unit) (s9 : zS) (h : fX12_copies_26_11 fu g L = some (res, s9)) : kM l yX12_copies cX12_copies 4 none { frames := 6, cells := 0, slots := 0, locals := 110 } G [.ref (a 0), .ref (a 26), .ref (a 11)] (zw G MS 51 a g L) sz (kQv G (S := Unit) (fun _ => True) (fun _ => zw G MS 51 a s9.1 s9.2)) := by
  refine kM.of (by decide) (Nat.le_of_ble_eq_true rfl) ?_
  intro p e s m below meth c A ls H C hr hlk hnm hP hD hS hl
  have C : kC G p s m c cX12_copies 4 RX12 A := C
  have hx := C.1
  have hb := C.2.1
  have hl : lv_has ls 4 [(0, .ref (a 0)), (1, .ref (a 26)), (2, .ref (a 11))] := hl
  obtain ⟨locs, hlocs⟩ : ∃ q : List Loc, q = [] := ⟨_, rfl⟩
  rw [← hlocs] at hS
  rw [← hlocs]
  unfold fX12_copies_26_11 at h
  refine lv_iconst (v := 0) hx hb dX12_copies_0 (by decide) ?_
  refine lv_istore_n (lv' := [(3, .int 0), (0, .ref (a 0)), (1, .ref (a 26)), (2, .ref (a 11))]) hx hb dX12_copies_1 rfl hl (by decide) rfl (fun ls hl => ?_)
  have lp2 : ∀ (_ : True), ∀ (n : Nat) (v : Int32 × (Nat → Nat → Int32) × (Nat → Nat → Int64)), whileK (fun k v => fX12_copies_26_11_s2 fu k v.1 v.2.1 v.2.2) n v = some (res, s9) → ∀ (H : Heap) (locs : List Loc) (ls : Array Slot), va_P G.1 vwCl (zw G MS 51 a (v.2.1) (v.2.2)) H → va_D A (zw G MS 51 a (v.2.1) (v.2.2)) → va_S A s.heap H locs → lv_has ls 4 [(1, .ref (a 26)), (2, .ref (a 11)), (3, .int (v.1))] → W p l e { frames := 6, cells := 0, slots := 0, locals := 110 } s m [.ref (a 0), .ref (a 26), .ref (a 11)].toArray below meth c H locs 0 0 (MQ below ((kQv G (S := Unit) (fun _ => True) (fun _ => zw G MS 51 a s9.1 s9.2)) A) [.ref (a 0), .ref (a 26), .ref (a 11)].toArray s 0 0 A) (F0 m 2 ls []) := by
    intro _
    refine while_ind (fun k2 ih2 v h => ?_)
    obtain ⟨v3, g, L⟩ := v
    intro H locs ls hP hD hS hl
    have h : fX12_copies_26_11_s2 fu k2 v3 g L = some (res, s9) := h
    have hP : va_P G.1 vwCl (zw G MS 51 a g L) H := hP
    have hD : va_D A (zw G MS 51 a g L) := hD
    have hl : lv_has ls 4 [(1, .ref (a 26)), (2, .ref (a 11)), (3, .int v3)] := hl
    show W p l e { frames := 6, cells := 0, slots := 0, locals := 110 } s m [.ref (a 0), .ref (a 26), .ref (a 11)].toArray below meth c H locs 0 0 (MQ below ((kQv G (S := Unit) (fun _ => True) (fun _ => zw G MS 51 a s9.1 s9.2)) A) [.ref (a 0), .ref (a 26), .ref (a 11)].toArray s 0 0 A) (F0 m 2 ls [])
    unfold fX12_copies_26_11_s2 at h
    refine lv_iload_n hx hb dX12_copies_2 rfl (lv_at hl 2 rfl) ?_
    refine lv_aload_n hx hb dX12_copies_3 rfl (lv_at hl 0 rfl) ?_
    refine x_alen (v := 1900) C hP (by decide) ms_26 rfl dX12_copies_4 ?_
    refine lv_icmp_ge (x := v3) (y := 1900) (tgt := 20) hx hb dX12_copies_5 (by decide) (fun c1 => ?_) (fun c1 => ?_)
    ·
      have h := ite_t c1 h
      exact y_vret C hr hlk hP hD hS h (Nat.le_of_ble_eq_true rfl) (Nat.le_of_ble_eq_true rfl) dX12_copies_20
    ·
      have h := ite_e c1 h
      refine lv_aload_n hx hb dX12_copies_8 rfl (lv_at hl 1 rfl) ?_
      refine lv_iload_n hx hb dX12_copies_9 rfl (lv_at hl 2 rfl) ?_
      refine lv_aload_n hx hb dX12_copies_10 rfl (lv_at hl 0 rfl) ?_
      refine lv_iload_n hx hb dX12_copies_11 rfl (lv_at hl 2 rfl) ?_
      refine y_ald C hP (by decide) ms_26 dX12_copies_12 h (fun h => ?_)
      refine y_ast C hP hD hS (by decide) ms_11 dX12_copies_13 h (fun g2 H locs h hP hD hS => ?_)
      refine lv_iinc (v := (v3 + 1)) (lv' := [(3, .int (v3 + 1)), (1, .ref (a 26)), (2, .ref (a 11))]) hx hb dX12_copies_14 hl (k := 2) rfl rfl (by decide) rfl (fun ls hl => ?_)
      refine lv_goto (tgt := 2) hx hb dX12_copies_17 (by decide) ?_
      exact ih2 ((v3 + 1), g2, L) h H locs ls hP hD hS (lv_sub hl [1, 2, 0] rfl)
  exact lp2 trivial fu (0, g, L) h H locs ls hP hD hS (lv_sub hl [2, 3, 0] rfl)
def fX12_house_p113 (fu : Nat) (g : Nat → Nat → Int32) (L : Nat → Nat → Int64) : Option ((Int32) × zS) :=
  cb (fX12_isGood fu g L) (fun x26 g27 L28 =>
  if x26 = 0 then ck 0 3 (
  ck 0 3 (sti g27 14 (Int32.toNatClampNeg 0) ((g27 14 (Int32.toNatClampNeg 0)) + 1) (fun g88 =>
  some ((g88 0 19), (g88, L28)))))
  else sti g27 0 1 (g27 0 30) (fun g31 =>
  sti g31 0 2 (g31 0 31) (fun g32 =>
  sti g32 0 3 (g32 0 32) (fun g33 =>
  sti g33 0 4 (g33 0 33) (fun g34 =>
  cb (fX12_copies_15_1 fu g34 L28) (fun x35 g36 L37 =>
  cb (fX12_copies_16_2 fu g36 L37) (fun x39 g40 L41 =>
  cb (fX12_copies_17_3 fu g40 L41) (fun x43 g44 L45 =>
  cb (fX12_copies_18_4 fu g44 L45) (fun x47 g48 L49 =>
  cb (fX12_copies_19_5 fu g48 L49) (fun x51 g52 L53 =>
  cb (fX12_copies_20_6 fu g52 L53) (fun x55 g56 L57 =>
  cb (fX12_copies_21_7 fu g56 L57) (fun x59 g60 L61 =>
  cb (fX12_copies_22_8 fu g60 L61) (fun x63 g64 L65 =>
  cb (fX12_copies_23_9 fu g64 L65) (fun x67 g68 L69 =>
  cb (fX12_copies_24_12 fu g68 L69) (fun x71 g72 L73 =>
  cb (fX12_copies_25_10 fu g72 L73) (fun x75 g76 L77 =>
  cb (fX12_copies_26_11 fu g76 L77) (fun x79 g80 L81 =>
  sti g80 0 52 (-1) (fun g83 =>
  sti g83 0 62 0 (fun g84 =>
  sti g84 0 73 0 (fun g85 =>
  sti g85 0 65 0 (fun g86 =>
  sti g86 0 81 0 (fun g87 =>
  some (0, (g87, L81))))))))))))))))))))))))
def fX12_house_s92 (fu : Nat) (k92 : (Nat → Nat → Int32) × (Nat → Nat → Int64) → Option ((Int32) × zS)) (g : Nat → Nat → Int32) (L : Nat → Nat → Int64) : Option ((Int32) × zS) :=
  cb (fX12_isGood fu g L) (fun x22 g23 L24 =>
  if x22 = 0 then fX12_house_p113 fu g23 L24
  else if (g23 0 24) = 0 then fX12_house_p113 fu g23 L24
  else cb (fX12_line fu g23 L24) (fun x91 g92 L93 =>
  k92 (g92, L93)))
def fX12_house_l92 (fu : Nat) (g : Nat → Nat → Int32) (L : Nat → Nat → Int64) : Option ((Int32) × zS) :=
  whileK (fun k v => fX12_house_s92 fu k v.1 v.2) fu (g, L)
def fX12_house_p23 (fu : Nat) (v1 : Int32) (t0 : Int32) (g : Nat → Nat → Int32) (L : Nat → Nat → Int64) : Option ((Int32) × zS) :=
  cb (fX12_right fu t0 1 g L) (fun x2 g3 L4 =>
  if x2 = 0 then some (0, (g3, L4))
  else sti g3 0 18 0 (fun g7 =>
  sti g7 0 20 (-1) (fun g8 =>
  sti g8 0 19 0 (fun g9 =>
  sti g9 0 22 v1 (fun g10 =>
  sti g10 0 23 0 (fun g11 =>
  sti g11 0 30 0 (fun g12 =>
  sti g12 0 31 0 (fun g13 =>
  sti g13 0 32 1 (fun g14 =>
  sti g14 0 33 99 (fun g15 =>
  sti g15 0 34 0 (fun g16 =>
  sti g16 0 35 0 (fun g17 =>
  cb (fX12_goes fu g17 L4) (fun x18 g19 L20 =>
  fX12_house_l92 fu g19 L20)))))))))))))
def fX12_house_p22 (fu : Nat) (v1 : Int32) (g : Nat → Nat → Int32) (L : Nat → Nat → Int64) : Option ((Int32) × zS) :=
  fX12_house_p23 fu v1 0 g L
def fX12_house (fu : Nat) (p1 : Int32) (g : Nat → Nat → Int32) (L : Nat → Nat → Int64) : Option ((Int32) × zS) :=
  sti g 0 0 0 (fun g1 =>
  if p1 < 0 then fX12_house_p22 fu p1 g1 L
  else if (g1 0 18) < p1 then fX12_house_p22 fu p1 g1 L
  else fX12_house_p23 fu p1 1 g1 L)
set_option maxHeartbeats 4000000 in
set_option maxRecDepth 100000 in
theorem rX12_house (l : Launch) (G : kG) (sz : Nat) (a : Nat → Nat) (fu : Nat) (g : Nat → Nat → Int32) (L : Nat → Nat → Int64) (p1 : Int32) (res : Int32) (s9 : zS) (h : fX12_house fu p1 g L = some (res, s9)) : kM l yX12_house cX12_house 2 (some .int) { frames := 13, cells := 0, slots := 0, locals := 266 } G [.ref (a 0), .int p1] (zw G MS 51 a g L) sz (kQi G (S := Unit) (fun r' _ => r' = res) (fun _ => zw G MS 51 a s9.1 s9.2)) := by
  refine kM.of (by decide) (Nat.le_of_ble_eq_true rfl) ?_
  intro p e s m below meth c A ls H C hr hlk hnm hP hD hS hl
  have C : kC G p s m c cX12_house 2 RX12 A := C
  have hx := C.1
  have hb := C.2.1
  have hl : lv_has ls 2 [(0, .ref (a 0)), (1, .int p1)] := hl
  obtain ⟨locs, hlocs⟩ : ∃ q : List Loc, q = [] := ⟨_, rfl⟩
  rw [← hlocs] at hS
  rw [← hlocs]
  unfold fX12_house at h
  refine lv_aload_n hx hb dX12_house_0 rfl (lv_at hl 0 rfl) ?_
  refine lv_iconst (v := 0) hx hb dX12_house_1 (by decide) ?_
  refine y_puti (Or.inl fl_X12_177) ft_X12_0 C hP hD hS (by decide) ms_0 rfl rfl rfl dX12_house_2 h (fun g1 H locs h hP hD hS => ?_)
  refine lv_aload_n hx hb dX12_house_5 rfl (lv_at hl 0 rfl) ?_
  refine lv_iload_n hx hb dX12_house_6 rfl (lv_at hl 1 rfl) ?_
  have J23 : ∀ (v1 : Int32) (t0 : Int32) (g : Nat → Nat → Int32) (L : Nat → Nat → Int64) (H : Heap) (locs : List Loc) (ls : Array Slot), fX12_house_p23 fu v1 t0 g L = some (res, s9) → va_P G.1 vwCl (zw G MS 51 a g L) H → va_D A (zw G MS 51 a g L) → va_S A s.heap H locs → lv_has ls 2 [(0, .ref (a 0)), (1, .int v1)] → W p l e { frames := 13, cells := 0, slots := 0, locals := 266 } s m [.ref (a 0), .int p1].toArray below meth c H locs 0 0 (MQ below ((kQi G (S := Unit) (fun r' _ => r' = res) (fun _ => zw G MS 51 a s9.1 s9.2)) A) [.ref (a 0), .int p1].toArray s 0 0 A) (F0 m 23 ls [.int t0, .ref (a 0)]) := by
    intro v1 t0 g L H locs ls h hP hD hS hl
    unfold fX12_house_p23 at h
    refine lv_iconst (v := 1) hx hb dX12_house_23 (by decide) ?_
    obtain ⟨z_, g3, L4, hf5, h⟩ := cb_some h
    refine x_callVi (rest := []) li_X12_328 C (rX12_right l G H.size a fu g L t0 1 z_ (g3, L4) hf5) (kR rfl) hP hD hS 0 12 rfl (zat (by decide) ms_0) rfl hl.1 rfl (Nat.le_of_ble_eq_true rfl) dX12_house_24 (fun x2 u_ H locs e_ hP hD hS => ?_)
    have e_ : x2 = z_ := e_
    subst e_
    have hP : va_P G.1 vwCl (zw G MS 51 a g3 L4) H := hP
    have hD : va_D A (zw G MS 51 a g3 L4) := hD
    refine lv_if_ne (x := x2) (tgt := 32) hx hb dX12_house_27 (by decide) (fun c6 => ?_) (fun c6 => ?_)
    ·
      have h := ite_e c6 h
      refine lv_aload_n hx hb dX12_house_32 rfl (lv_at hl 0 rfl) ?_
      refine lv_iconst (v := 0) hx hb dX12_house_33 (by decide) ?_
      refine y_puti (Or.inl fl_X12_180) ft_X12_18 C hP hD hS (by decide) ms_0 rfl rfl rfl dX12_house_34 h (fun g7 H locs h hP hD hS => ?_)
      refine lv_aload_n hx hb dX12_house_37 rfl (lv_at hl 0 rfl) ?_
      refine lv_iconst (v := -1) hx hb dX12_house_38 (by decide) ?_
      refine y_puti (Or.inl fl_X12_56) ft_X12_20 C hP hD hS (by decide) ms_0 rfl rfl rfl dX12_house_39 h (fun g8 H locs h hP hD hS => ?_)
      refine lv_aload_n hx hb dX12_house_42 rfl (lv_at hl 0 rfl) ?_
      refine lv_iconst (v := 0) hx hb dX12_house_43 (by decide) ?_
      refine y_puti (Or.inl fl_X12_233) ft_X12_19 C hP hD hS (by decide) ms_0 rfl rfl rfl dX12_house_44 h (fun g9 H locs h hP hD hS => ?_)
      refine lv_aload_n hx hb dX12_house_47 rfl (lv_at hl 0 rfl) ?_
      refine lv_iload_n hx hb dX12_house_48 rfl (lv_at hl 1 rfl) ?_
      refine y_puti (Or.inl fl_X12_187) ft_X12_22 C hP hD hS (by decide) ms_0 rfl rfl rfl dX12_house_49 h (fun g10 H locs h hP hD hS => ?_)
      refine lv_aload_n hx hb dX12_house_52 rfl (lv_at hl 0 rfl) ?_
      refine lv_iconst (v := 0) hx hb dX12_house_53 (by decide) ?_
      refine y_puti (Or.inl fl_X12_190) ft_X12_23 C hP hD hS (by decide) ms_0 rfl rfl rfl dX12_house_54 h (fun g11 H locs h hP hD hS => ?_)
      refine lv_aload_n hx hb dX12_house_57 rfl (lv_at hl 0 rfl) ?_
      refine lv_iconst (v := 0) hx hb dX12_house_58 (by decide) ?_
      refine y_puti (Or.inl fl_X12_293) ft_X12_30 C hP hD hS (by decide) ms_0 rfl rfl rfl dX12_house_59 h (fun g12 H locs h hP hD hS => ?_)
      refine lv_aload_n hx hb dX12_house_62 rfl (lv_at hl 0 rfl) ?_
      refine lv_iconst (v := 0) hx hb dX12_house_63 (by decide) ?_
      refine y_puti (Or.inl fl_X12_319) ft_X12_31 C hP hD hS (by decide) ms_0 rfl rfl rfl dX12_house_64 h (fun g13 H locs h hP hD hS => ?_)
      refine lv_aload_n hx hb dX12_house_67 rfl (lv_at hl 0 rfl) ?_
      refine lv_iconst (v := 1) hx hb dX12_house_68 (by decide) ?_
      refine y_puti (Or.inl fl_X12_313) ft_X12_32 C hP hD hS (by decide) ms_0 rfl rfl rfl dX12_house_69 h (fun g14 H locs h hP hD hS => ?_)
      refine lv_aload_n hx hb dX12_house_72 rfl (lv_at hl 0 rfl) ?_
      refine lv_bipush (v := 99) hx hb dX12_house_73 (by decide) ?_
      refine y_puti (Or.inl fl_X12_316) ft_X12_33 C hP hD hS (by decide) ms_0 rfl rfl rfl dX12_house_75 h (fun g15 H locs h hP hD hS => ?_)
      refine lv_aload_n hx hb dX12_house_78 rfl (lv_at hl 0 rfl) ?_
      refine lv_iconst (v := 0) hx hb dX12_house_79 (by decide) ?_
      refine y_puti (Or.inl fl_X12_310) ft_X12_34 C hP hD hS (by decide) ms_0 rfl rfl rfl dX12_house_80 h (fun g16 H locs h hP hD hS => ?_)
      refine lv_aload_n hx hb dX12_house_83 rfl (lv_at hl 0 rfl) ?_
      refine lv_iconst (v := 0) hx hb dX12_house_84 (by decide) ?_
      refine y_puti (Or.inl fl_X12_246) ft_X12_35 C hP hD hS (by decide) ms_0 rfl rfl rfl dX12_house_85 h (fun g17 H locs h hP hD hS => ?_)
      refine lv_aload_n hx hb dX12_house_88 rfl (lv_at hl 0 rfl) ?_
      obtain ⟨z_, g19, L20, hf21, h⟩ := cb_some h
      refine x_callVv (rest := []) li_X12_240 C (rX12_goes l G H.size a fu g17 L4 z_ (g19, L20) hf21) (kR rfl) hP hD hS 0 12 rfl (zat (by decide) ms_0) rfl hl.1 rfl (Nat.le_of_ble_eq_true rfl) dX12_house_89 (fun u_ H locs e_ hP hD hS => ?_)
      have hP : va_P G.1 vwCl (zw G MS 51 a g19 L20) H := hP
      have hD : va_D A (zw G MS 51 a g19 L20) := hD
      have lp92 : ∀ (_ : True), ∀ (n : Nat) (v : (Nat → Nat → Int32) × (Nat → Nat → Int64)), whileK (fun k v => fX12_house_s92 fu k v.1 v.2) n v = some (res, s9) → ∀ (H : Heap) (locs : List Loc) (ls : Array Slot), va_P G.1 vwCl (zw G MS 51 a (v.1) (v.2)) H → va_D A (zw G MS 51 a (v.1) (v.2)) → va_S A s.heap H locs → lv_has ls 2 [(0, .ref (a 0))] → W p l e { frames := 13, cells := 0, slots := 0, locals := 266 } s m [.ref (a 0), .int p1].toArray below meth c H locs 0 0 (MQ below ((kQi G (S := Unit) (fun r' _ => r' = res) (fun _ => zw G MS 51 a s9.1 s9.2)) A) [.ref (a 0), .int p1].toArray s 0 0 A) (F0 m 92 ls []) := by
        intro _
        refine while_ind (fun k92 ih92 v h => ?_)
        obtain ⟨g, L⟩ := v
        intro H locs ls hP hD hS hl
        have h : fX12_house_s92 fu k92 g L = some (res, s9) := h
        have hP : va_P G.1 vwCl (zw G MS 51 a g L) H := hP
        have hD : va_D A (zw G MS 51 a g L) := hD
        have hl : lv_has ls 2 [(0, .ref (a 0))] := hl
        show W p l e { frames := 13, cells := 0, slots := 0, locals := 266 } s m [.ref (a 0), .int p1].toArray below meth c H locs 0 0 (MQ below ((kQi G (S := Unit) (fun r' _ => r' = res) (fun _ => zw G MS 51 a s9.1 s9.2)) A) [.ref (a 0), .int p1].toArray s 0 0 A) (F0 m 92 ls [])
        unfold fX12_house_s92 at h
        refine lv_aload_n hx hb dX12_house_92 rfl (lv_at hl 0 rfl) ?_
        obtain ⟨z_, g23, L24, hf25, h⟩ := cb_some h
        refine x_callVi (rest := []) li_X12_236 C (rX12_isGood l G H.size a fu g L z_ (g23, L24) hf25) (kR rfl) hP hD hS 0 12 rfl (zat (by decide) ms_0) rfl hl.1 rfl (Nat.le_of_ble_eq_true rfl) dX12_house_93 (fun x22 u_ H locs e_ hP hD hS => ?_)
        have e_ : x22 = z_ := e_
        subst e_
        have hP : va_P G.1 vwCl (zw G MS 51 a g23 L24) H := hP
        have hD : va_D A (zw G MS 51 a g23 L24) := hD
        have J113 : ∀ (g : Nat → Nat → Int32) (L : Nat → Nat → Int64) (H : Heap) (locs : List Loc) (ls : Array Slot), fX12_house_p113 fu g L = some (res, s9) → va_P G.1 vwCl (zw G MS 51 a g L) H → va_D A (zw G MS 51 a g L) → va_S A s.heap H locs → lv_has ls 2 [(0, .ref (a 0))] → W p l e { frames := 13, cells := 0, slots := 0, locals := 266 } s m [.ref (a 0), .int p1].toArray below meth c H locs 0 0 (MQ below ((kQi G (S := Unit) (fun r' _ => r' = res) (fun _ => zw G MS 51 a s9.1 s9.2)) A) [.ref (a 0), .int p1].toArray s 0 0 A) (F0 m 113 ls []) := by
          intro g L H locs ls h hP hD hS hl
          unfold fX12_house_p113 at h
          refine lv_aload_n hx hb dX12_house_113 rfl (lv_at hl 0 rfl) ?_
          obtain ⟨z_, g27, L28, hf29, h⟩ := cb_some h
          refine x_callVi (rest := []) li_X12_236 C (rX12_isGood l G H.size a fu g L z_ (g27, L28) hf29) (kR rfl) hP hD hS 0 12 rfl (zat (by decide) ms_0) rfl hl.1 rfl (Nat.le_of_ble_eq_true rfl) dX12_house_114 (fun x26 u_ H locs e_ hP hD hS => ?_)
          have e_ : x26 = z_ := e_
          subst e_
          have hP : va_P G.1 vwCl (zw G MS 51 a g27 L28) H := hP
          have hD : va_D A (zw G MS 51 a g27 L28) := hD
          refine lv_if_ne (x := x26) (tgt := 135) hx hb dX12_house_117 (by decide) (fun c30 => ?_) (fun c30 => ?_)
          ·
            have h := ite_e c30 h
            refine lv_aload_n hx hb dX12_house_135 rfl (lv_at hl 0 rfl) ?_
            refine lv_aload_n hx hb dX12_house_136 rfl (lv_at hl 0 rfl) ?_
            refine x_getv (v := .int (g27 0 30)) (Or.inl fl_X12_293) C hP (by decide) ms_0 rfl dX12_house_137 ?_
            refine y_puti (Or.inl fl_X12_335) ft_X12_1 C hP hD hS (by decide) ms_0 rfl rfl rfl dX12_house_140 h (fun g31 H locs h hP hD hS => ?_)
            refine lv_aload_n hx hb dX12_house_143 rfl (lv_at hl 0 rfl) ?_
            refine lv_aload_n hx hb dX12_house_144 rfl (lv_at hl 0 rfl) ?_
            refine x_getv (v := .int (g31 0 31)) (Or.inl fl_X12_319) C hP (by decide) ms_0 rfl dX12_house_145 ?_
            refine y_puti (Or.inl fl_X12_338) ft_X12_2 C hP hD hS (by decide) ms_0 rfl rfl rfl dX12_house_148 h (fun g32 H locs h hP hD hS => ?_)
            refine lv_aload_n hx hb dX12_house_151 rfl (lv_at hl 0 rfl) ?_
            refine lv_aload_n hx hb dX12_house_152 rfl (lv_at hl 0 rfl) ?_
            refine x_getv (v := .int (g32 0 32)) (Or.inl fl_X12_313) C hP (by decide) ms_0 rfl dX12_house_153 ?_
            refine y_puti (Or.inl fl_X12_7) ft_X12_3 C hP hD hS (by decide) ms_0 rfl rfl rfl dX12_house_156 h (fun g33 H locs h hP hD hS => ?_)
            refine lv_aload_n hx hb dX12_house_159 rfl (lv_at hl 0 rfl) ?_
            refine lv_aload_n hx hb dX12_house_160 rfl (lv_at hl 0 rfl) ?_
            refine x_getv (v := .int (g33 0 33)) (Or.inl fl_X12_316) C hP (by decide) ms_0 rfl dX12_house_161 ?_
            refine y_puti (Or.inl fl_X12_13) ft_X12_4 C hP hD hS (by decide) ms_0 rfl rfl rfl dX12_house_164 h (fun g34 H locs h hP hD hS => ?_)
            refine lv_aload_n hx hb dX12_house_167 rfl (lv_at hl 0 rfl) ?_
            refine lv_aload_n hx hb dX12_house_168 rfl (lv_at hl 0 rfl) ?_
            refine x_getr (Or.inl fl_X12_62) C hP (by decide) ms_0 rfl dX12_house_169 ?_
            refine lv_aload_n hx hb dX12_house_172 rfl (lv_at hl 0 rfl) ?_
            refine x_getr (Or.inl fl_X12_16) C hP (by decide) ms_0 rfl dX12_house_173 ?_
            obtain ⟨z_, g36, L37, hf38, h⟩ := cb_some h
            refine x_callVv (rest := []) li_X12_341 C (rX12_copies_15_1 l G H.size a fu g34 L28 z_ (g36, L37) hf38) (kR rfl) hP hD hS 0 12 rfl (zat (by decide) ms_0) rfl hl.1 rfl (Nat.le_of_ble_eq_true rfl) dX12_house_176 (fun u_ H locs e_ hP hD hS => ?_)
            have hP : va_P G.1 vwCl (zw G MS 51 a g36 L37) H := hP
            have hD : va_D A (zw G MS 51 a g36 L37) := hD
            refine lv_aload_n hx hb dX12_house_179 rfl (lv_at hl 0 rfl) ?_
            refine lv_aload_n hx hb dX12_house_180 rfl (lv_at hl 0 rfl) ?_
            refine x_getr (Or.inl fl_X12_65) C hP (by decide) ms_0 rfl dX12_house_181 ?_
            refine lv_aload_n hx hb dX12_house_184 rfl (lv_at hl 0 rfl) ?_
            refine x_getr (Or.inl fl_X12_20) C hP (by decide) ms_0 rfl dX12_house_185 ?_
            obtain ⟨z_, g40, L41, hf42, h⟩ := cb_some h
            refine x_callVv (rest := []) li_X12_341 C (rX12_copies_16_2 l G H.size a fu g36 L37 z_ (g40, L41) hf42) (kR rfl) hP hD hS 0 12 rfl (zat (by decide) ms_0) rfl hl.1 rfl (Nat.le_of_ble_eq_true rfl) dX12_house_188 (fun u_ H locs e_ hP hD hS => ?_)
            have hP : va_P G.1 vwCl (zw G MS 51 a g40 L41) H := hP
            have hD : va_D A (zw G MS 51 a g40 L41) := hD
            refine lv_aload_n hx hb dX12_house_191 rfl (lv_at hl 0 rfl) ?_
            refine lv_aload_n hx hb dX12_house_192 rfl (lv_at hl 0 rfl) ?_
            refine x_getr (Or.inl fl_X12_68) C hP (by decide) ms_0 rfl dX12_house_193 ?_
            refine lv_aload_n hx hb dX12_house_196 rfl (lv_at hl 0 rfl) ?_
            refine x_getr (Or.inl fl_X12_23) C hP (by decide) ms_0 rfl dX12_house_197 ?_
            obtain ⟨z_, g44, L45, hf46, h⟩ := cb_some h
            refine x_callVv (rest := []) li_X12_341 C (rX12_copies_17_3 l G H.size a fu g40 L41 z_ (g44, L45) hf46) (kR rfl) hP hD hS 0 12 rfl (zat (by decide) ms_0) rfl hl.1 rfl (Nat.le_of_ble_eq_true rfl) dX12_house_200 (fun u_ H locs e_ hP hD hS => ?_)
            have hP : va_P G.1 vwCl (zw G MS 51 a g44 L45) H := hP
            have hD : va_D A (zw G MS 51 a g44 L45) := hD
            refine lv_aload_n hx hb dX12_house_203 rfl (lv_at hl 0 rfl) ?_
            refine lv_aload_n hx hb dX12_house_204 rfl (lv_at hl 0 rfl) ?_
            refine x_getr (Or.inl fl_X12_71) C hP (by decide) ms_0 rfl dX12_house_205 ?_
            refine lv_aload_n hx hb dX12_house_208 rfl (lv_at hl 0 rfl) ?_
            refine x_getr (Or.inl fl_X12_26) C hP (by decide) ms_0 rfl dX12_house_209 ?_
            obtain ⟨z_, g48, L49, hf50, h⟩ := cb_some h
            refine x_callVv (rest := []) li_X12_341 C (rX12_copies_18_4 l G H.size a fu g44 L45 z_ (g48, L49) hf50) (kR rfl) hP hD hS 0 12 rfl (zat (by decide) ms_0) rfl hl.1 rfl (Nat.le_of_ble_eq_true rfl) dX12_house_212 (fun u_ H locs e_ hP hD hS => ?_)
            have hP : va_P G.1 vwCl (zw G MS 51 a g48 L49) H := hP
            have hD : va_D A (zw G MS 51 a g48 L49) := hD
            refine lv_aload_n hx hb dX12_house_215 rfl (lv_at hl 0 rfl) ?_
            refine lv_aload_n hx hb dX12_house_216 rfl (lv_at hl 0 rfl) ?_
            refine x_getr (Or.inl fl_X12_74) C hP (by decide) ms_0 rfl dX12_house_217 ?_
            refine lv_aload_n hx hb dX12_house_220 rfl (lv_at hl 0 rfl) ?_
            refine x_getr (Or.inl fl_X12_29) C hP (by decide) ms_0 rfl dX12_house_221 ?_
            obtain ⟨z_, g52, L53, hf54, h⟩ := cb_some h
            refine x_callVv (rest := []) li_X12_341 C (rX12_copies_19_5 l G H.size a fu g48 L49 z_ (g52, L53) hf54) (kR rfl) hP hD hS 0 12 rfl (zat (by decide) ms_0) rfl hl.1 rfl (Nat.le_of_ble_eq_true rfl) dX12_house_224 (fun u_ H locs e_ hP hD hS => ?_)
            have hP : va_P G.1 vwCl (zw G MS 51 a g52 L53) H := hP
            have hD : va_D A (zw G MS 51 a g52 L53) := hD
            refine lv_aload_n hx hb dX12_house_227 rfl (lv_at hl 0 rfl) ?_
            refine lv_aload_n hx hb dX12_house_228 rfl (lv_at hl 0 rfl) ?_
            refine x_getr (Or.inl fl_X12_77) C hP (by decide) ms_0 rfl dX12_house_229 ?_
            refine lv_aload_n hx hb dX12_house_232 rfl (lv_at hl 0 rfl) ?_
            refine x_getr (Or.inl fl_X12_32) C hP (by decide) ms_0 rfl dX12_house_233 ?_
            obtain ⟨z_, g56, L57, hf58, h⟩ := cb_some h
            refine x_callVv (rest := []) li_X12_341 C (rX12_copies_20_6 l G H.size a fu g52 L53 z_ (g56, L57) hf58) (kR rfl) hP hD hS 0 12 rfl (zat (by decide) ms_0) rfl hl.1 rfl (Nat.le_of_ble_eq_true rfl) dX12_house_236 (fun u_ H locs e_ hP hD hS => ?_)
            have hP : va_P G.1 vwCl (zw G MS 51 a g56 L57) H := hP
            have hD : va_D A (zw G MS 51 a g56 L57) := hD
            refine lv_aload_n hx hb dX12_house_239 rfl (lv_at hl 0 rfl) ?_
            refine lv_aload_n hx hb dX12_house_240 rfl (lv_at hl 0 rfl) ?_
            refine x_getr (Or.inl fl_X12_80) C hP (by decide) ms_0 rfl dX12_house_241 ?_
            refine lv_aload_n hx hb dX12_house_244 rfl (lv_at hl 0 rfl) ?_
            refine x_getr (Or.inl fl_X12_35) C hP (by decide) ms_0 rfl dX12_house_245 ?_
            obtain ⟨z_, g60, L61, hf62, h⟩ := cb_some h
            refine x_callVv (rest := []) li_X12_341 C (rX12_copies_21_7 l G H.size a fu g56 L57 z_ (g60, L61) hf62) (kR rfl) hP hD hS 0 12 rfl (zat (by decide) ms_0) rfl hl.1 rfl (Nat.le_of_ble_eq_true rfl) dX12_house_248 (fun u_ H locs e_ hP hD hS => ?_)
            have hP : va_P G.1 vwCl (zw G MS 51 a g60 L61) H := hP
            have hD : va_D A (zw G MS 51 a g60 L61) := hD
            refine lv_aload_n hx hb dX12_house_251 rfl (lv_at hl 0 rfl) ?_
            refine lv_aload_n hx hb dX12_house_252 rfl (lv_at hl 0 rfl) ?_
            refine x_getr (Or.inl fl_X12_83) C hP (by decide) ms_0 rfl dX12_house_253 ?_
            refine lv_aload_n hx hb dX12_house_256 rfl (lv_at hl 0 rfl) ?_
            refine x_getr (Or.inl fl_X12_38) C hP (by decide) ms_0 rfl dX12_house_257 ?_
            obtain ⟨z_, g64, L65, hf66, h⟩ := cb_some h
            refine x_callVv (rest := []) li_X12_341 C (rX12_copies_22_8 l G H.size a fu g60 L61 z_ (g64, L65) hf66) (kR rfl) hP hD hS 0 12 rfl (zat (by decide) ms_0) rfl hl.1 rfl (Nat.le_of_ble_eq_true rfl) dX12_house_260 (fun u_ H locs e_ hP hD hS => ?_)
            have hP : va_P G.1 vwCl (zw G MS 51 a g64 L65) H := hP
            have hD : va_D A (zw G MS 51 a g64 L65) := hD
            refine lv_aload_n hx hb dX12_house_263 rfl (lv_at hl 0 rfl) ?_
            refine lv_aload_n hx hb dX12_house_264 rfl (lv_at hl 0 rfl) ?_
            refine x_getr (Or.inl fl_X12_86) C hP (by decide) ms_0 rfl dX12_house_265 ?_
            refine lv_aload_n hx hb dX12_house_268 rfl (lv_at hl 0 rfl) ?_
            refine x_getr (Or.inl fl_X12_41) C hP (by decide) ms_0 rfl dX12_house_269 ?_
            obtain ⟨z_, g68, L69, hf70, h⟩ := cb_some h
            refine x_callVv (rest := []) li_X12_341 C (rX12_copies_23_9 l G H.size a fu g64 L65 z_ (g68, L69) hf70) (kR rfl) hP hD hS 0 12 rfl (zat (by decide) ms_0) rfl hl.1 rfl (Nat.le_of_ble_eq_true rfl) dX12_house_272 (fun u_ H locs e_ hP hD hS => ?_)
            have hP : va_P G.1 vwCl (zw G MS 51 a g68 L69) H := hP
            have hD : va_D A (zw G MS 51 a g68 L69) := hD
            refine lv_aload_n hx hb dX12_house_275 rfl (lv_at hl 0 rfl) ?_
            refine lv_aload_n hx hb dX12_house_276 rfl (lv_at hl 0 rfl) ?_
            refine x_getr (Or.inl fl_X12_89) C hP (by decide) ms_0 rfl dX12_house_277 ?_
            refine lv_aload_n hx hb dX12_house_280 rfl (lv_at hl 0 rfl) ?_
            refine x_getr (Or.inl fl_X12_50) C hP (by decide) ms_0 rfl dX12_house_281 ?_
            obtain ⟨z_, g72, L73, hf74, h⟩ := cb_some h
            refine x_callVv (rest := []) li_X12_341 C (rX12_copies_24_12 l G H.size a fu g68 L69 z_ (g72, L73) hf74) (kR rfl) hP hD hS 0 12 rfl (zat (by decide) ms_0) rfl hl.1 rfl (Nat.le_of_ble_eq_true rfl) dX12_house_284 (fun u_ H locs e_ hP hD hS => ?_)
            have hP : va_P G.1 vwCl (zw G MS 51 a g72 L73) H := hP
            have hD : va_D A (zw G MS 51 a g72 L73) := hD
            refine lv_aload_n hx hb dX12_house_287 rfl (lv_at hl 0 rfl) ?_
            refine lv_aload_n hx hb dX12_house_288 rfl (lv_at hl 0 rfl) ?_
            refine x_getr (Or.inl fl_X12_92) C hP (by decide) ms_0 rfl dX12_house_289 ?_
            refine lv_aload_n hx hb dX12_house_292 rfl (lv_at hl 0 rfl) ?_
            refine x_getr (Or.inl fl_X12_44) C hP (by decide) ms_0 rfl dX12_house_293 ?_
            obtain ⟨z_, g76, L77, hf78, h⟩ := cb_some h
            refine x_callVv (rest := []) li_X12_341 C (rX12_copies_25_10 l G H.size a fu g72 L73 z_ (g76, L77) hf78) (kR rfl) hP hD hS 0 12 rfl (zat (by decide) ms_0) rfl hl.1 rfl (Nat.le_of_ble_eq_true rfl) dX12_house_296 (fun u_ H locs e_ hP hD hS => ?_)
            have hP : va_P G.1 vwCl (zw G MS 51 a g76 L77) H := hP
            have hD : va_D A (zw G MS 51 a g76 L77) := hD
            refine lv_aload_n hx hb dX12_house_299 rfl (lv_at hl 0 rfl) ?_
            refine lv_aload_n hx hb dX12_house_300 rfl (lv_at hl 0 rfl) ?_
            refine x_getr (Or.inl fl_X12_95) C hP (by decide) ms_0 rfl dX12_house_301 ?_
            refine lv_aload_n hx hb dX12_house_304 rfl (lv_at hl 0 rfl) ?_
            refine x_getr (Or.inl fl_X12_47) C hP (by decide) ms_0 rfl dX12_house_305 ?_
            obtain ⟨z_, g80, L81, hf82, h⟩ := cb_some h
            refine x_callVv (rest := []) li_X12_341 C (rX12_copies_26_11 l G H.size a fu g76 L77 z_ (g80, L81) hf82) (kR rfl) hP hD hS 0 12 rfl (zat (by decide) ms_0) rfl hl.1 rfl (Nat.le_of_ble_eq_true rfl) dX12_house_308 (fun u_ H locs e_ hP hD hS => ?_)
            have hP : va_P G.1 vwCl (zw G MS 51 a g80 L81) H := hP
            have hD : va_D A (zw G MS 51 a g80 L81) := hD
            refine lv_aload_n hx hb dX12_house_311 rfl (lv_at hl 0 rfl) ?_
            refine lv_iconst (v := -1) hx hb dX12_house_312 (by decide) ?_
            refine y_puti (Or.inl fl_X12_105) ft_X12_52 C hP hD hS (by decide) ms_0 rfl rfl rfl dX12_house_313 h (fun g83 H locs h hP hD hS => ?_)
            refine lv_aload_n hx hb dX12_house_316 rfl (lv_at hl 0 rfl) ?_
            refine lv_iconst (v := 0) hx hb dX12_house_317 (by decide) ?_
            refine y_puti (Or.inl fl_X12_345) ft_X12_62 C hP hD hS (by decide) ms_0 rfl rfl rfl dX12_house_318 h (fun g84 H locs h hP hD hS => ?_)
            refine lv_aload_n hx hb dX12_house_321 rfl (lv_at hl 0 rfl) ?_
            refine lv_iconst (v := 0) hx hb dX12_house_322 (by decide) ?_
            refine y_puti (Or.inl fl_X12_348) ft_X12_73 C hP hD hS (by decide) ms_0 rfl rfl rfl dX12_house_323 h (fun g85 H locs h hP hD hS => ?_)
            refine lv_aload_n hx hb dX12_house_326 rfl (lv_at hl 0 rfl) ?_
            refine lv_iconst (v := 0) hx hb dX12_house_327 (by decide) ?_
            refine y_puti (Or.inl fl_X12_351) ft_X12_65 C hP hD hS (by decide) ms_0 rfl rfl rfl dX12_house_328 h (fun g86 H locs h hP hD hS => ?_)
            refine lv_aload_n hx hb dX12_house_331 rfl (lv_at hl 0 rfl) ?_
            refine lv_iconst (v := 0) hx hb dX12_house_332 (by decide) ?_
            refine y_puti (Or.inl fl_X12_355) ft_X12_81 C hP hD hS (by decide) ms_0 rfl rfl rfl dX12_house_333 h (fun g87 H locs h hP hD hS => ?_)
            refine lv_iconst (v := 0) hx hb dX12_house_336 (by decide) ?_
            exact y_iret C hr hlk hP hD hS h (Nat.le_of_ble_eq_true rfl) (Nat.le_of_ble_eq_true rfl) dX12_house_337
          ·
            have h := ite_t c30 h
            refine lv_aload_n hx hb dX12_house_120 rfl (lv_at hl 0 rfl) ?_
            refine x_getr (Or.inl fl_X12_59) C hP (by decide) ms_0 rfl dX12_house_121 ?_
            refine lv_iconst (v := 0) hx hb dX12_house_124 (by decide) ?_
            refine lv_dup2_11 hx hb dX12_house_125 rfl rfl ?_
            refine y_ald C hP (by decide) ms_14 dX12_house_126 h (fun h => ?_)
            refine lv_iconst (v := 1) hx hb dX12_house_127 (by decide) ?_
            refine lv_iadd hx hb dX12_house_128 ?_
            refine y_ast C hP hD hS (by decide) ms_14 dX12_house_129 h (fun g88 H locs h hP hD hS => ?_)
            refine lv_aload_n hx hb dX12_house_130 rfl (lv_at hl 0 rfl) ?_
            refine x_getv (v := .int (g88 0 19)) (Or.inl fl_X12_233) C hP (by decide) ms_0 rfl dX12_house_131 ?_
            exact y_iret C hr hlk hP hD hS h (Nat.le_of_ble_eq_true rfl) (Nat.le_of_ble_eq_true rfl) dX12_house_134
        refine lv_if_eq (x := x22) (tgt := 113) hx hb dX12_house_96 (by decide) (fun c89 => ?_) (fun c89 => ?_)
        ·
          have h := ite_t c89 h
          exact J113 g23 L24 H locs ls h hP hD hS (lv_sub hl [0] rfl)
        ·
          have h := ite_e c89 h
          refine lv_aload_n hx hb dX12_house_99 rfl (lv_at hl 0 rfl) ?_
          refine x_getv (v := .int (g23 0 24)) (Or.inl fl_X12_210) C hP (by decide) ms_0 rfl dX12_house_100 ?_
          refine lv_if_eq (x := (g23 0 24)) (tgt := 113) hx hb dX12_house_103 (by decide) (fun c90 => ?_) (fun c90 => ?_)
          ·
            have h := ite_t c90 h
            exact J113 g23 L24 H locs ls h hP hD hS (lv_sub hl [0] rfl)
          ·
            have h := ite_e c90 h
            refine lv_aload_n hx hb dX12_house_106 rfl (lv_at hl 0 rfl) ?_
            obtain ⟨z_, g92, L93, hf94, h⟩ := cb_some h
            refine x_callVv (rest := []) li_X12_332 C (rX12_line l G H.size a fu g23 L24 z_ (g92, L93) hf94) (kR rfl) hP hD hS 0 12 rfl (zat (by decide) ms_0) rfl hl.1 rfl (Nat.le_of_ble_eq_true rfl) dX12_house_107 (fun u_ H locs e_ hP hD hS => ?_)
            have hP : va_P G.1 vwCl (zw G MS 51 a g92 L93) H := hP
            have hD : va_D A (zw G MS 51 a g92 L93) := hD
            refine lv_goto (tgt := 92) hx hb dX12_house_110 (by decide) ?_
            exact ih92 (g92, L93) h H locs ls hP hD hS (lv_sub hl [0] rfl)
      exact lp92 trivial fu (g19, L20) h H locs ls hP hD hS (lv_sub hl [0] rfl)
    ·
      have h := ite_t c6 h
      refine lv_iconst (v := 0) hx hb dX12_house_30 (by decide) ?_
      exact y_iret C hr hlk hP hD hS h (Nat.le_of_ble_eq_true rfl) (Nat.le_of_ble_eq_true rfl) dX12_house_31
  have J22 : ∀ (v1 : Int32) (g : Nat → Nat → Int32) (L : Nat → Nat → Int64) (H : Heap) (locs : List Loc) (ls : Array Slot), fX12_house_p22 fu v1 g L = some (res, s9) → va_P G.1 vwCl (zw G MS 51 a g L) H → va_D A (zw G MS 51 a g L) → va_S A s.heap H locs → lv_has ls 2 [(0, .ref (a 0)), (1, .int v1)] → W p l e { frames := 13, cells := 0, slots := 0, locals := 266 } s m [.ref (a 0), .int p1].toArray below meth c H locs 0 0 (MQ below ((kQi G (S := Unit) (fun r' _ => r' = res) (fun _ => zw G MS 51 a s9.1 s9.2)) A) [.ref (a 0), .int p1].toArray s 0 0 A) (F0 m 22 ls [.ref (a 0)]) := by
    intro v1 g L H locs ls h hP hD hS hl
    unfold fX12_house_p22 at h
    refine lv_iconst (v := 0) hx hb dX12_house_22 (by decide) ?_
    exact J23 v1 0 g L H locs ls h hP hD hS (lv_sub hl [0, 1] rfl)
  refine lv_if_lt (x := p1) (tgt := 22) hx hb dX12_house_7 (by decide) (fun c95 => ?_) (fun c95 => ?_)
  ·
    have h := ite_t c95 h
    exact J22 p1 g1 L H locs ls h hP hD hS (lv_sub hl [0, 1] rfl)
  ·
    have h := ite_e c95 h
    refine lv_iload_n hx hb dX12_house_10 rfl (lv_at hl 1 rfl) ?_
    refine lv_aload_n hx hb dX12_house_11 rfl (lv_at hl 0 rfl) ?_
    refine x_getv (v := .int (g1 0 18)) (Or.inl fl_X12_180) C hP (by decide) ms_0 rfl dX12_house_12 ?_
    refine lv_icmp_gt (x := p1) (y := (g1 0 18)) (tgt := 22) hx hb dX12_house_15 (by decide) (fun c96 => ?_) (fun c96 => ?_)
    ·
      have h := ite_t c96 h
      exact J22 p1 g1 L H locs ls h hP hD hS (lv_sub hl [0, 1] rfl)
    ·
      have h := ite_e c96 h
      refine lv_iconst (v := 1) hx hb dX12_house_18 (by decide) ?_
      refine lv_goto (tgt := 23) hx hb dX12_house_19 (by decide) ?_
      exact J23 p1 1 g1 L H locs ls h hP hD hS (lv_sub hl [0, 1] rfl)
def fX12_fault (fu : Nat) (g : Nat → Nat → Int32) (L : Nat → Nat → Int64) : Option ((Int32) × zS) :=
  sti g 0 0 0 (fun g1 =>
  some ((g1 0 20), (g1, L)))
set_option maxHeartbeats 4000000 in
set_option maxRecDepth 100000 in
theorem rX12_fault (l : Launch) (G : kG) (sz : Nat) (a : Nat → Nat) (fu : Nat) (g : Nat → Nat → Int32) (L : Nat → Nat → Int64) (res : Int32) (s9 : zS) (h : fX12_fault fu g L = some (res, s9)) : kM l yX12_fault cX12_fault 1 (some .int) { frames := 6, cells := 0, slots := 0, locals := 110 } G [.ref (a 0)] (zw G MS 51 a g L) sz (kQi G (S := Unit) (fun r' _ => r' = res) (fun _ => zw G MS 51 a s9.1 s9.2)) := by
  refine kM.of (by decide) (Nat.le_of_ble_eq_true rfl) ?_
  intro p e s m below meth c A ls H C hr hlk hnm hP hD hS hl
  have C : kC G p s m c cX12_fault 1 RX12 A := C
  have hx := C.1
  have hb := C.2.1
  have hl : lv_has ls 1 [(0, .ref (a 0))] := hl
  obtain ⟨locs, hlocs⟩ : ∃ q : List Loc, q = [] := ⟨_, rfl⟩
  rw [← hlocs] at hS
  rw [← hlocs]
  unfold fX12_fault at h
  refine lv_aload_n hx hb dX12_fault_0 rfl (lv_at hl 0 rfl) ?_
  refine lv_iconst (v := 0) hx hb dX12_fault_1 (by decide) ?_
  refine y_puti (Or.inl fl_X12_177) ft_X12_0 C hP hD hS (by decide) ms_0 rfl rfl rfl dX12_fault_2 h (fun g1 H locs h hP hD hS => ?_)
  refine lv_aload_n hx hb dX12_fault_5 rfl (lv_at hl 0 rfl) ?_
  refine x_getv (v := .int (g1 0 20)) (Or.inl fl_X12_56) C hP (by decide) ms_0 rfl dX12_fault_6 ?_
  exact y_iret C hr hlk hP hD hS h (Nat.le_of_ble_eq_true rfl) (Nat.le_of_ble_eq_true rfl) dX12_fault_9
