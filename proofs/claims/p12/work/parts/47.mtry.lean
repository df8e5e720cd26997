theorem tw_1497 : (Jvm.Cond.fieldLink "MarshBellsModel" (153 : Nat) "MarshBellsModel" "seen" "[I") ∈ lw_tbl := tk_7 (List.mem_of_getElem? (i := 57) rfl)
theorem fl_X12_153 : kFL RX12 153 12 88 74 := ⟨RX12, TX12, rfl, by decide, inWX12, tw_1497⟩
theorem dX12_see_0 : decode cX12_see 0 = .ok (.aload_n 0, 1) := by decide +kernel
theorem dX12_see_1 : decode cX12_see 1 = .ok (.iconst 0, 1) := by decide +kernel
theorem dX12_see_2 : decode cX12_see 2 = .ok (.putfield 177, 3) := by decide +kernel
theorem dX12_see_5 : decode cX12_see 5 = .ok (.aload_n 0, 1) := by decide +kernel
theorem dX12_see_6 : decode cX12_see 6 = .ok (.iload_n 1, 1) := by decide +kernel
theorem dX12_see_7 : decode cX12_see 7 = .ok (.invokevirtual 402, 3) := by decide +kernel
theorem dX12_see_10 : decode cX12_see 10 = .ok (.ifCond .ne 5, 3) := by decide +kernel
theorem dX12_see_15 : decode cX12_see 15 = .ok (.aload_n 0, 1) := by decide +kernel
theorem dX12_see_16 : decode cX12_see 16 = .ok (.getfield 348, 3) := by decide +kernel
theorem dX12_see_19 : decode cX12_see 19 = .ok (.bipush 8, 2) := by decide +kernel
theorem dX12_see_35 : decode cX12_see 35 = .ok (.aload_n 0, 1) := by decide +kernel
theorem dX12_see_36 : decode cX12_see 36 = .ok (.iconst 2, 1) := by decide +kernel
theorem dX12_see_37 : decode cX12_see 37 = .ok (.invokevirtual 411, 3) := by decide +kernel
theorem dX12_see_40 : decode cX12_see 40 = .ok (.ireturn, 1) := by decide +kernel
theorem dX12_see_21 : decode cX12_see 21 = .ok (.if_icmp .eq 14, 3) := by decide +kernel
theorem dX12_see_24 : decode cX12_see 24 = .ok (.iload_n 2, 1) := by decide +kernel
theorem dX12_see_25 : decode cX12_see 25 = .ok (.iconst 0, 1) := by decide +kernel
theorem dX12_see_26 : decode cX12_see 26 = .ok (.sipush 999, 3) := by decide +kernel
theorem dX12_see_29 : decode cX12_see 29 = .ok (.invokestatic 392, 3) := by decide +kernel
theorem dX12_see_32 : decode cX12_see 32 = .ok (.ifCond .ne 9, 3) := by decide +kernel
theorem dX12_see_41 : decode cX12_see 41 = .ok (.aload_n 0, 1) := by decide +kernel
theorem dX12_see_42 : decode cX12_see 42 = .ok (.getfield 153, 3) := by decide +kernel
theorem dX12_see_45 : decode cX12_see 45 = .ok (.iconst 2, 1) := by decide +kernel
theorem dX12_see_46 : decode cX12_see 46 = .ok (.aload_n 0, 1) := by decide +kernel
theorem dX12_see_47 : decode cX12_see 47 = .ok (.getfield 348, 3) := by decide +kernel
theorem dX12_see_50 : decode cX12_see 50 = .ok (.imul, 1) := by decide +kernel
theorem dX12_see_51 : decode cX12_see 51 = .ok (.iload_n 1, 1) := by decide +kernel
theorem dX12_see_52 : decode cX12_see 52 = .ok (.iastore, 1) := by decide +kernel
theorem dX12_see_53 : decode cX12_see 53 = .ok (.aload_n 0, 1) := by decide +kernel
theorem dX12_see_54 : decode cX12_see 54 = .ok (.getfield 153, 3) := by decide +kernel
theorem dX12_see_57 : decode cX12_see 57 = .ok (.iconst 2, 1) := by decide +kernel
theorem dX12_see_58 : decode cX12_see 58 = .ok (.aload_n 0, 1) := by decide +kernel
theorem dX12_see_59 : decode cX12_see 59 = .ok (.getfield 348, 3) := by decide +kernel
theorem dX12_see_62 : decode cX12_see 62 = .ok (.imul, 1) := by decide +kernel
theorem dX12_see_63 : decode cX12_see 63 = .ok (.iconst 1, 1) := by decide +kernel
theorem dX12_see_64 : decode cX12_see 64 = .ok (.iadd, 1) := by decide +kernel
theorem dX12_see_65 : decode cX12_see 65 = .ok (.iload_n 2, 1) := by decide +kernel
theorem dX12_see_66 : decode cX12_see 66 = .ok (.iastore, 1) := by decide +kernel
theorem dX12_see_67 : decode cX12_see 67 = .ok (.aload_n 0, 1) := by decide +kernel
theorem dX12_see_68 : decode cX12_see 68 = .ok (.dup, 1) := by decide +kernel
theorem dX12_see_69 : decode cX12_see 69 = .ok (.getfield 348, 3) := by decide +kernel
theorem dX12_see_72 : decode cX12_see 72 = .ok (.iconst 1, 1) := by decide +kernel
theorem dX12_see_73 : decode cX12_see 73 = .ok (.iadd, 1) := by decide +kernel
theorem dX12_see_74 : decode cX12_see 74 = .ok (.putfield 348, 3) := by decide +kernel
theorem dX12_see_77 : decode cX12_see 77 = .ok (.aload_n 0, 1) := by decide +kernel
theorem dX12_see_78 : decode cX12_see 78 = .ok (.getfield 348, 3) := by decide +kernel
theorem dX12_see_81 : decode cX12_see 81 = .ok (.ireturn, 1) := by decide +kernel
theorem dX12_see_13 : decode cX12_see 13 = .ok (.iconst 0, 1) := by decide +kernel
theorem dX12_see_14 : decode cX12_see 14 = .ok (.ireturn, 1) := by decide +kernel
theorem dX12_forget_0 : decode cX12_forget 0 = .ok (.aload_n 0, 1) := by decide +kernel
theorem dX12_forget_1 : decode cX12_forget 1 = .ok (.iconst 0, 1) := by decide +kernel
theorem dX12_forget_2 : decode cX12_forget 2 = .ok (.putfield 177, 3) := by decide +kernel
theorem dX12_forget_5 : decode cX12_forget 5 = .ok (.aload_n 0, 1) := by decide +kernel
theorem dX12_forget_6 : decode cX12_forget 6 = .ok (.iconst 0, 1) := by decide +kernel
theorem dX12_forget_7 : decode cX12_forget 7 = .ok (.putfield 348, 3) := by decide +kernel
theorem dX12_forget_10 : decode cX12_forget 10 = .ok (.return_, 1) := by decide +kernel
theorem dX12_isSeen_0 : decode cX12_isSeen 0 = .ok (.aload_n 0, 1) := by decide +kernel
theorem dX12_isSeen_1 : decode cX12_isSeen 1 = .ok (.invokevirtual 386, 3) := by decide +kernel
theorem dX12_isSeen_4 : decode cX12_isSeen 4 = .ok (.iconst 0, 1) := by decide +kernel
theorem dX12_isSeen_5 : decode cX12_isSeen 5 = .ok (.istore_n 1, 1) := by decide +kernel
theorem dX12_isSeen_6 : decode cX12_isSeen 6 = .ok (.iload_n 1, 1) := by decide +kernel
theorem dX12_isSeen_7 : decode cX12_isSeen 7 = .ok (.aload_n 0, 1) := by decide +kernel
theorem dX12_isSeen_8 : decode cX12_isSeen 8 = .ok (.getfield 348, 3) := by decide +kernel
theorem dX12_isSeen_11 : decode cX12_isSeen 11 = .ok (.if_icmp .ge 36, 3) := by decide +kernel
theorem dX12_isSeen_47 : decode cX12_isSeen 47 = .ok (.iconst 1, 1) := by decide +kernel
theorem dX12_isSeen_48 : decode cX12_isSeen 48 = .ok (.ireturn, 1) := by decide +kernel
theorem dX12_isSeen_14 : decode cX12_isSeen 14 = .ok (.aload_n 0, 1) := by decide +kernel
theorem dX12_isSeen_15 : decode cX12_isSeen 15 = .ok (.aload_n 0, 1) := by decide +kernel
theorem dX12_isSeen_16 : decode cX12_isSeen 16 = .ok (.getfield 153, 3) := by decide +kernel
theorem dX12_isSeen_19 : decode cX12_isSeen 19 = .ok (.iconst 2, 1) := by decide +kernel
theorem dX12_isSeen_20 : decode cX12_isSeen 20 = .ok (.iload_n 1, 1) := by decide +kernel
theorem dX12_isSeen_21 : decode cX12_isSeen 21 = .ok (.imul, 1) := by decide +kernel
theorem dX12_isSeen_22 : decode cX12_isSeen 22 = .ok (.iaload, 1) := by decide +kernel
theorem dX12_isSeen_23 : decode cX12_isSeen 23 = .ok (.invokevirtual 389, 3) := by decide +kernel
theorem dX12_isSeen_26 : decode cX12_isSeen 26 = .ok (.aload_n 0, 1) := by decide +kernel
theorem dX12_isSeen_27 : decode cX12_isSeen 27 = .ok (.getfield 153, 3) := by decide +kernel
theorem dX12_isSeen_30 : decode cX12_isSeen 30 = .ok (.iconst 2, 1) := by decide +kernel
theorem dX12_isSeen_31 : decode cX12_isSeen 31 = .ok (.iload_n 1, 1) := by decide +kernel
theorem dX12_isSeen_32 : decode cX12_isSeen 32 = .ok (.imul, 1) := by decide +kernel
theorem dX12_isSeen_33 : decode cX12_isSeen 33 = .ok (.iconst 1, 1) := by decide +kernel
theorem dX12_isSeen_34 : decode cX12_isSeen 34 = .ok (.iadd, 1) := by decide +kernel
theorem dX12_isSeen_35 : decode cX12_isSeen 35 = .ok (.iaload, 1) := by decide +kernel
theorem dX12_isSeen_36 : decode cX12_isSeen 36 = .ok (.if_icmp .eq 5, 3) := by decide +kernel
theorem dX12_isSeen_41 : decode cX12_isSeen 41 = .ok (.iinc 1 1, 3) := by decide +kernel
theorem dX12_isSeen_44 : decode cX12_isSeen 44 = .ok (.goto (-38), 3) := by decide +kernel
theorem dX12_isSeen_39 : decode cX12_isSeen 39 = .ok (.iconst 0, 1) := by decide +kernel
theorem dX12_isSeen_40 : decode cX12_isSeen 40 = .ok (.ireturn, 1) := by decide +kernel
theorem dX12_fits_0 : decode cX12_fits 0 = .ok (.aload_n 0, 1) := by decide +kernel
theorem dX12_fits_1 : decode cX12_fits 1 = .ok (.iconst 0, 1) := by decide +kernel
theorem dX12_fits_2 : decode cX12_fits 2 = .ok (.putfield 177, 3) := by decide +kernel
theorem dX12_fits_5 : decode cX12_fits 5 = .ok (.aload_n 0, 1) := by decide +kernel
theorem dX12_fits_6 : decode cX12_fits 6 = .ok (.iload_n 1, 1) := by decide +kernel
theorem dX12_fits_7 : decode cX12_fits 7 = .ok (.iconst 2, 1) := by decide +kernel
theorem dX12_fits_8 : decode cX12_fits 8 = .ok (.invokevirtual 405, 3) := by decide +kernel
theorem dX12_fits_11 : decode cX12_fits 11 = .ok (.ifCond .ne 5, 3) := by decide +kernel
theorem dX12_fits_16 : decode cX12_fits 16 = .ok (.iconst 0, 1) := by decide +kernel
theorem dX12_fits_17 : decode cX12_fits 17 = .ok (.istore_n 2, 1) := by decide +kernel
theorem dX12_fits_18 : decode cX12_fits 18 = .ok (.iconst (-1), 1) := by decide +kernel
theorem dX12_fits_19 : decode cX12_fits 19 = .ok (.istore_n 3, 1) := by decide +kernel
theorem dX12_fits_20 : decode cX12_fits 20 = .ok (.iconst (-1), 1) := by decide +kernel
theorem dX12_fits_21 : decode cX12_fits 21 = .ok (.istore 4, 2) := by decide +kernel
theorem dX12_fits_23 : decode cX12_fits 23 = .ok (.iconst 1, 1) := by decide +kernel
theorem dX12_fits_24 : decode cX12_fits 24 = .ok (.istore 5, 2) := by decide +kernel
theorem dX12_fits_26 : decode cX12_fits 26 = .ok (.iconst 0, 1) := by decide +kernel
theorem dX12_fits_27 : decode cX12_fits 27 = .ok (.istore 6, 2) := by decide +kernel
theorem dX12_fits_29 : decode cX12_fits 29 = .ok (.iload 6, 2) := by decide +kernel
theorem dX12_fits_31 : decode cX12_fits 31 = .ok (.aload_n 0, 1) := by decide +kernel
theorem dX12_fits_32 : decode cX12_fits 32 = .ok (.getfield 335, 3) := by decide +kernel
theorem dX12_fits_35 : decode cX12_fits 35 = .ok (.if_icmp .ge 114, 3) := by decide +kernel
theorem dX12_fits_149 : decode cX12_fits 149 = .ok (.iload_n 1, 1) := by decide +kernel
theorem dX12_fits_177 : decode cX12_fits 177 = .ok (.ireturn, 1) := by decide +kernel
theorem dX12_fits_150 : decode cX12_fits 150 = .ok (.ifCond .ne 7, 3) := by decide +kernel
theorem dX12_fits_157 : decode cX12_fits 157 = .ok (.iload_n 1, 1) := by decide +kernel
theorem dX12_fits_158 : decode cX12_fits 158 = .ok (.iconst 1, 1) := by decide +kernel
theorem dX12_fits_159 : decode cX12_fits 159 = .ok (.if_icmp .ne 7, 3) := by decide +kernel
theorem dX12_fits_166 : decode cX12_fits 166 = .ok (.iload 5, 2) := by decide +kernel
theorem dX12_fits_168 : decode cX12_fits 168 = .ok (.ifCond .eq 8, 3) := by decide +kernel
theorem dX12_fits_176 : decode cX12_fits 176 = .ok (.iconst (-1), 1) := by decide +kernel
theorem dX12_fits_171 : decode cX12_fits 171 = .ok (.iload 4, 2) := by decide +kernel
theorem dX12_fits_173 : decode cX12_fits 173 = .ok (.goto 4, 3) := by decide +kernel
theorem dX12_fits_162 : decode cX12_fits 162 = .ok (.iload_n 3, 1) := by decide +kernel
theorem dX12_fits_163 : decode cX12_fits 163 = .ok (.goto 14, 3) := by decide +kernel
theorem dX12_fits_153 : decode cX12_fits 153 = .ok (.iload_n 2, 1) := by decide +kernel
theorem dX12_fits_154 : decode cX12_fits 154 = .ok (.goto 23, 3) := by decide +kernel
theorem dX12_fits_38 : decode cX12_fits 38 = .ok (.aload_n 0, 1) := by decide +kernel
theorem dX12_fits_39 : decode cX12_fits 39 = .ok (.getfield 50, 3) := by decide +kernel
theorem dX12_fits_42 : decode cX12_fits 42 = .ok (.iconst 0, 1) := by decide +kernel
theorem dX12_fits_43 : decode cX12_fits 43 = .ok (.iload 6, 2) := by decide +kernel
theorem dX12_fits_45 : decode cX12_fits 45 = .ok (.iadd, 1) := by decide +kernel
theorem dX12_fits_46 : decode cX12_fits 46 = .ok (.iaload, 1) := by decide +kernel
theorem dX12_fits_47 : decode cX12_fits 47 = .ok (.istore 7, 2) := by decide +kernel
theorem dX12_fits_49 : decode cX12_fits 49 = .ok (.iconst 0, 1) := by decide +kernel
theorem dX12_fits_50 : decode cX12_fits 50 = .ok (.istore 8, 2) := by decide +kernel
theorem dX12_fits_52 : decode cX12_fits 52 = .ok (.iload 8, 2) := by decide +kernel
theorem dX12_fits_54 : decode cX12_fits 54 = .ok (.bipush 30, 2) := by decide +kernel
theorem dX12_fits_56 : decode cX12_fits 56 = .ok (.if_icmp .gt 76, 3) := by decide +kernel
theorem dX12_fits_132 : decode cX12_fits 132 = .ok (.aload_n 0, 1) := by decide +kernel
theorem dX12_fits_133 : decode cX12_fits 133 = .ok (.getfield 50, 3) := by decide +kernel
theorem dX12_fits_136 : decode cX12_fits 136 = .ok (.iconst 0, 1) := by decide +kernel
theorem dX12_fits_137 : decode cX12_fits 137 = .ok (.iload 6, 2) := by decide +kernel
theorem dX12_fits_139 : decode cX12_fits 139 = .ok (.iadd, 1) := by decide +kernel
theorem dX12_fits_140 : decode cX12_fits 140 = .ok (.iload 7, 2) := by decide +kernel
theorem dX12_fits_142 : decode cX12_fits 142 = .ok (.iastore, 1) := by decide +kernel
theorem dX12_fits_143 : decode cX12_fits 143 = .ok (.iinc 6 1, 3) := by decide +kernel
theorem dX12_fits_146 : decode cX12_fits 146 = .ok (.goto (-117), 3) := by decide +kernel
theorem dX12_fits_59 : decode cX12_fits 59 = .ok (.aload_n 0, 1) := by decide +kernel
theorem dX12_fits_60 : decode cX12_fits 60 = .ok (.getfield 50, 3) := by decide +kernel
theorem dX12_fits_63 : decode cX12_fits 63 = .ok (.iconst 0, 1) := by decide +kernel
theorem dX12_fits_64 : decode cX12_fits 64 = .ok (.iload 6, 2) := by decide +kernel
theorem dX12_fits_66 : decode cX12_fits 66 = .ok (.iadd, 1) := by decide +kernel
theorem dX12_fits_67 : decode cX12_fits 67 = .ok (.iload 8, 2) := by decide +kernel
theorem dX12_fits_69 : decode cX12_fits 69 = .ok (.iastore, 1) := by decide +kernel
theorem dX12_fits_70 : decode cX12_fits 70 = .ok (.aload_n 0, 1) := by decide +kernel
theorem tw_2042 : (Jvm.Cond.methodLink "MarshBellsModel" (462 : Nat) ({ cls := "MarshBellsModel", name := "isSeen", desc := "()Z" } : Jvm.MethodName)) ∈ lw_tbl := tk_9 (List.mem_of_getElem? (i := 122) rfl)
theorem tw_2045 : (Jvm.Cond.code ({ cls := "MarshBellsModel", name := "isSeen", desc := "()Z" } : Jvm.MethodName) prog_14_method_92_code (2 : Nat) (Option.some Jvm.ClassFile.FieldType.boolean)) ∈ lw_tbl := tk_9 (List.mem_of_getElem? (i := 125) rfl)
theorem tw_2044 : (Jvm.Cond.instanceMethod ({ cls := "MarshBellsModel", name := "isSeen", desc := "()Z" } : Jvm.MethodName)) ∈ lw_tbl := tk_9 (List.mem_of_getElem? (i := 124) rfl)
theorem se_X12_isSeen : Cond.selects RX12 yX12_isSeen yX12_isSeen ∈ lw_tbl := List.mem_append_left _ (List.mem_of_getElem? (i := 155) rfl)
theorem li_X12_462 : kLV RX12 462 RX12 yX12_isSeen cX12_isSeen 2 (some .boolean) 0 := ⟨tw_2042, tw_2044, se_X12_isSeen, tw_2045, tw_13, by decide +kernel⟩
theorem dX12_fits_71 : decode cX12_fits 71 = .ok (.invokevirtual 462, 3) := by decide +kernel
theorem dX12_fits_126 : decode cX12_fits 126 = .ok (.iinc 8 1, 3) := by decide +kernel
theorem dX12_fits_129 : decode cX12_fits 129 = .ok (.goto (-77), 3) := by decide +kernel
theorem dX12_fits_74 : decode cX12_fits 74 = .ok (.ifCond .ne 6, 3) := by decide +kernel
theorem dX12_fits_80 : decode cX12_fits 80 = .ok (.iinc 2 1, 3) := by decide +kernel
theorem dX12_fits_83 : decode cX12_fits 83 = .ok (.iload_n 3, 1) := by decide +kernel
theorem dX12_fits_84 : decode cX12_fits 84 = .ok (.iconst (-1), 1) := by decide +kernel
theorem dX12_fits_97 : decode cX12_fits 97 = .ok (.iload 5, 2) := by decide +kernel
theorem dX12_fits_120 : decode cX12_fits 120 = .ok (.istore 5, 2) := by decide +kernel
theorem dX12_fits_122 : decode cX12_fits 122 = .ok (.iload 6, 2) := by decide +kernel
theorem dX12_fits_124 : decode cX12_fits 124 = .ok (.istore 4, 2) := by decide +kernel
theorem dX12_fits_119 : decode cX12_fits 119 = .ok (.iconst 0, 1) := by decide +kernel
theorem dX12_fits_99 : decode cX12_fits 99 = .ok (.ifCond .eq 20, 3) := by decide +kernel
theorem dX12_fits_102 : decode cX12_fits 102 = .ok (.iload 4, 2) := by decide +kernel
theorem dX12_fits_104 : decode cX12_fits 104 = .ok (.iconst (-1), 1) := by decide +kernel
theorem dX12_fits_115 : decode cX12_fits 115 = .ok (.iconst 1, 1) := by decide +kernel
theorem dX12_fits_116 : decode cX12_fits 116 = .ok (.goto 4, 3) := by decide +kernel
theorem dX12_fits_105 : decode cX12_fits 105 = .ok (.if_icmp .eq 10, 3) := by decide +kernel
theorem dX12_fits_108 : decode cX12_fits 108 = .ok (.iload 4, 2) := by decide +kernel
theorem dX12_fits_110 : decode cX12_fits 110 = .ok (.iload 6, 2) := by decide +kernel
theorem dX12_fits_112 : decode cX12_fits 112 = .ok (.if_icmp .ne 7, 3) := by decide +kernel
theorem dX12_fits_85 : decode cX12_fits 85 = .ok (.if_icmp .ne 12, 3) := by decide +kernel
theorem dX12_fits_88 : decode cX12_fits 88 = .ok (.bipush 100, 2) := by decide +kernel
theorem dX12_fits_90 : decode cX12_fits 90 = .ok (.iload 6, 2) := by decide +kernel
theorem dX12_fits_92 : decode cX12_fits 92 = .ok (.imul, 1) := by decide +kernel
theorem dX12_fits_93 : decode cX12_fits 93 = .ok (.iload 8, 2) := by decide +kernel
theorem dX12_fits_95 : decode cX12_fits 95 = .ok (.iadd, 1) := by decide +kernel
theorem dX12_fits_96 : decode cX12_fits 96 = .ok (.istore_n 3, 1) := by decide +kernel
theorem dX12_fits_77 : decode cX12_fits 77 = .ok (.goto 49, 3) := by decide +kernel
theorem dX12_fits_14 : decode cX12_fits 14 = .ok (.iconst 0, 1) := by decide +kernel
theorem dX12_fits_15 : decode cX12_fits 15 = .ok (.ireturn, 1) := by decide +kernel
theorem tw_1498 : (Jvm.Cond.fieldLink "MarshBellsModel" (156 : Nat) "MarshBellsModel" "wayOf" "[I") ∈ lw_tbl := tk_7 (List.mem_of_getElem? (i := 58) rfl)
theorem fl_X12_156 : kFL RX12 156 12 88 75 := ⟨RX12, TX12, rfl, by decide, inWX12, tw_1498⟩
theorem tw_1502 : (Jvm.Cond.fieldLink "MarshBellsModel" (465 : Nat) "MarshBellsModel" "wayMany" "I") ∈ lw_tbl := tk_7 (List.mem_of_getElem? (i := 62) rfl)
theorem fl_X12_465 : kFL RX12 465 12 88 79 := ⟨RX12, TX12, rfl, by decide, inWX12, tw_1502⟩
theorem tw_1499 : (Jvm.Cond.fieldLink "MarshBellsModel" (159 : Nat) "MarshBellsModel" "wayAt" "[I") ∈ lw_tbl := tk_7 (List.mem_of_getElem? (i := 59) rfl)
theorem fl_X12_159 : kFL RX12 159 12 88 76 := ⟨RX12, TX12, rfl, by decide, inWX12, tw_1499⟩
theorem tw_1500 : (Jvm.Cond.fieldLink "MarshBellsModel" (162 : Nat) "MarshBellsModel" "wayLong" "[I") ∈ lw_tbl := tk_7 (List.mem_of_getElem? (i := 60) rfl)
theorem fl_X12_162 : kFL RX12 162 12 88 77 := ⟨RX12, TX12, rfl, by decide, inWX12, tw_1500⟩
theorem tw_1501 : (Jvm.Cond.fieldLink "MarshBellsModel" (165 : Nat) "MarshBellsModel" "wayUp" "[I") ∈ lw_tbl := tk_7 (List.mem_of_getElem? (i := 61) rfl)
theorem fl_X12_165 : kFL RX12 165 12 88 78 := ⟨RX12, TX12, rfl, by decide, inWX12, tw_1501⟩
theorem dX12_ways_0 : decode cX12_ways 0 = .ok (.aload_n 0, 1) := by decide +kernel
theorem dX12_ways_1 : decode cX12_ways 1 = .ok (.invokevirtual 386, 3) := by decide +kernel
theorem dX12_ways_4 : decode cX12_ways 4 = .ok (.aload_n 0, 1) := by decide +kernel
theorem dX12_ways_5 : decode cX12_ways 5 = .ok (.iconst 0, 1) := by decide +kernel
theorem ft_X12_79 : kFT 12 79 .int false RX12 := ⟨RX12, TX12, 88, tyX12, rfl, tyX12_ok, nmX12, rfl, by decide +kernel, rfl⟩
theorem dX12_ways_6 : decode cX12_ways 6 = .ok (.putfield 465, 3) := by decide +kernel
theorem dX12_ways_9 : decode cX12_ways 9 = .ok (.iconst 0, 1) := by decide +kernel
theorem dX12_ways_10 : decode cX12_ways 10 = .ok (.istore_n 1, 1) := by decide +kernel
theorem dX12_ways_11 : decode cX12_ways 11 = .ok (.iload_n 1, 1) := by decide +kernel
theorem dX12_ways_12 : decode cX12_ways 12 = .ok (.aload_n 0, 1) := by decide +kernel
theorem dX12_ways_13 : decode cX12_ways 13 = .ok (.getfield 335, 3) := by decide +kernel
theorem dX12_ways_16 : decode cX12_ways 16 = .ok (.if_icmp .ge 151, 3) := by decide +kernel
theorem dX12_ways_167 : decode cX12_ways 167 = .ok (.return_, 1) := by decide +kernel
theorem dX12_ways_19 : decode cX12_ways 19 = .ok (.iconst 0, 1) := by decide +kernel
theorem dX12_ways_20 : decode cX12_ways 20 = .ok (.istore_n 2, 1) := by decide +kernel
theorem dX12_ways_21 : decode cX12_ways 21 = .ok (.iload_n 2, 1) := by decide +kernel
theorem dX12_ways_22 : decode cX12_ways 22 = .ok (.aload_n 0, 1) := by decide +kernel
theorem dX12_ways_23 : decode cX12_ways 23 = .ok (.getfield 38, 3) := by decide +kernel
theorem dX12_ways_26 : decode cX12_ways 26 = .ok (.iload_n 1, 1) := by decide +kernel
theorem dX12_ways_27 : decode cX12_ways 27 = .ok (.iaload, 1) := by decide +kernel
theorem dX12_ways_28 : decode cX12_ways 28 = .ok (.if_icmp .ge 133, 3) := by decide +kernel
theorem dX12_ways_161 : decode cX12_ways 161 = .ok (.iinc 1 1, 3) := by decide +kernel
theorem dX12_ways_164 : decode cX12_ways 164 = .ok (.goto (-153), 3) := by decide +kernel
theorem dX12_ways_31 : decode cX12_ways 31 = .ok (.aload_n 0, 1) := by decide +kernel
theorem dX12_ways_32 : decode cX12_ways 32 = .ok (.getfield 41, 3) := by decide +kernel
theorem dX12_ways_35 : decode cX12_ways 35 = .ok (.bipush 6, 2) := by decide +kernel
theorem dX12_ways_37 : decode cX12_ways 37 = .ok (.iload_n 1, 1) := by decide +kernel
theorem dX12_ways_38 : decode cX12_ways 38 = .ok (.imul, 1) := by decide +kernel
theorem dX12_ways_39 : decode cX12_ways 39 = .ok (.iload_n 2, 1) := by decide +kernel
theorem dX12_ways_40 : decode cX12_ways 40 = .ok (.iadd, 1) := by decide +kernel
theorem dX12_ways_41 : decode cX12_ways 41 = .ok (.iaload, 1) := by decide +kernel
theorem dX12_ways_42 : decode cX12_ways 42 = .ok (.istore_n 3, 1) := by decide +kernel
theorem dX12_ways_43 : decode cX12_ways 43 = .ok (.aload_n 0, 1) := by decide +kernel
theorem dX12_ways_44 : decode cX12_ways 44 = .ok (.getfield 50, 3) := by decide +kernel
theorem dX12_ways_47 : decode cX12_ways 47 = .ok (.bipush 24, 2) := by decide +kernel
theorem dX12_ways_49 : decode cX12_ways 49 = .ok (.iload_n 3, 1) := by decide +kernel
theorem dX12_ways_50 : decode cX12_ways 50 = .ok (.iadd, 1) := by decide +kernel
theorem dX12_ways_51 : decode cX12_ways 51 = .ok (.iaload, 1) := by decide +kernel
theorem dX12_ways_52 : decode cX12_ways 52 = .ok (.aload_n 0, 1) := by decide +kernel
theorem dX12_ways_53 : decode cX12_ways 53 = .ok (.getfield 50, 3) := by decide +kernel
theorem dX12_ways_56 : decode cX12_ways 56 = .ok (.bipush 24, 2) := by decide +kernel
theorem dX12_ways_58 : decode cX12_ways 58 = .ok (.iload_n 1, 1) := by decide +kernel
theorem dX12_ways_59 : decode cX12_ways 59 = .ok (.iadd, 1) := by decide +kernel
theorem dX12_ways_60 : decode cX12_ways 60 = .ok (.iaload, 1) := by decide +kernel
theorem dX12_ways_61 : decode cX12_ways 61 = .ok (.invokestatic 364, 3) := by decide +kernel
theorem dX12_ways_155 : decode cX12_ways 155 = .ok (.iinc 2 1, 3) := by decide +kernel
theorem dX12_ways_158 : decode cX12_ways 158 = .ok (.goto (-137), 3) := by decide +kernel
theorem dX12_ways_64 : decode cX12_ways 64 = .ok (.ifCond .ne 6, 3) := by decide +kernel
theorem dX12_ways_70 : decode cX12_ways 70 = .ok (.aload_n 0, 1) := by decide +kernel
theorem dX12_ways_71 : decode cX12_ways 71 = .ok (.getfield 156, 3) := by decide +kernel
theorem dX12_ways_74 : decode cX12_ways 74 = .ok (.aload_n 0, 1) := by decide +kernel
theorem dX12_ways_75 : decode cX12_ways 75 = .ok (.getfield 465, 3) := by decide +kernel
theorem dX12_ways_78 : decode cX12_ways 78 = .ok (.iload_n 3, 1) := by decide +kernel
theorem dX12_ways_79 : decode cX12_ways 79 = .ok (.iastore, 1) := by decide +kernel
theorem dX12_ways_80 : decode cX12_ways 80 = .ok (.aload_n 0, 1) := by decide +kernel
theorem dX12_ways_81 : decode cX12_ways 81 = .ok (.getfield 159, 3) := by decide +kernel
theorem dX12_ways_84 : decode cX12_ways 84 = .ok (.aload_n 0, 1) := by decide +kernel
theorem dX12_ways_85 : decode cX12_ways 85 = .ok (.getfield 465, 3) := by decide +kernel
theorem dX12_ways_88 : decode cX12_ways 88 = .ok (.aload_n 0, 1) := by decide +kernel
theorem dX12_ways_89 : decode cX12_ways 89 = .ok (.getfield 117, 3) := by decide +kernel
theorem dX12_ways_92 : decode cX12_ways 92 = .ok (.iload_n 3, 1) := by decide +kernel
theorem dX12_ways_93 : decode cX12_ways 93 = .ok (.iaload, 1) := by decide +kernel
theorem dX12_ways_94 : decode cX12_ways 94 = .ok (.iastore, 1) := by decide +kernel
theorem dX12_ways_95 : decode cX12_ways 95 = .ok (.aload_n 0, 1) := by decide +kernel
theorem dX12_ways_96 : decode cX12_ways 96 = .ok (.getfield 162, 3) := by decide +kernel
theorem dX12_ways_99 : decode cX12_ways 99 = .ok (.aload_n 0, 1) := by decide +kernel
theorem dX12_ways_100 : decode cX12_ways 100 = .ok (.getfield 465, 3) := by decide +kernel
theorem dX12_ways_103 : decode cX12_ways 103 = .ok (.aload_n 0, 1) := by decide +kernel
theorem dX12_ways_104 : decode cX12_ways 104 = .ok (.iload_n 3, 1) := by decide +kernel
theorem dX12_ways_105 : decode cX12_ways 105 = .ok (.iload_n 1, 1) := by decide +kernel
theorem dX12_ways_106 : decode cX12_ways 106 = .ok (.invokevirtual 368, 3) := by decide +kernel
theorem dX12_ways_109 : decode cX12_ways 109 = .ok (.iastore, 1) := by decide +kernel
theorem dX12_ways_110 : decode cX12_ways 110 = .ok (.aload_n 0, 1) := by decide +kernel
theorem dX12_ways_111 : decode cX12_ways 111 = .ok (.getfield 165, 3) := by decide +kernel
theorem dX12_ways_114 : decode cX12_ways 114 = .ok (.aload_n 0, 1) := by decide +kernel
theorem dX12_ways_115 : decode cX12_ways 115 = .ok (.getfield 465, 3) := by decide +kernel
theorem dX12_ways_118 : decode cX12_ways 118 = .ok (.aload_n 0, 1) := by decide +kernel
theorem dX12_ways_119 : decode cX12_ways 119 = .ok (.getfield 50, 3) := by decide +kernel
theorem dX12_ways_122 : decode cX12_ways 122 = .ok (.bipush 24, 2) := by decide +kernel
theorem dX12_ways_124 : decode cX12_ways 124 = .ok (.iload_n 1, 1) := by decide +kernel
theorem dX12_ways_125 : decode cX12_ways 125 = .ok (.iadd, 1) := by decide +kernel
theorem dX12_ways_126 : decode cX12_ways 126 = .ok (.iaload, 1) := by decide +kernel
theorem dX12_ways_127 : decode cX12_ways 127 = .ok (.aload_n 0, 1) := by decide +kernel
theorem dX12_ways_128 : decode cX12_ways 128 = .ok (.getfield 50, 3) := by decide +kernel
theorem dX12_ways_131 : decode cX12_ways 131 = .ok (.bipush 24, 2) := by decide +kernel
theorem dX12_ways_133 : decode cX12_ways 133 = .ok (.iload_n 3, 1) := by decide +kernel
theorem dX12_ways_134 : decode cX12_ways 134 = .ok (.iadd, 1) := by decide +kernel
theorem dX12_ways_135 : decode cX12_ways 135 = .ok (.iaload, 1) := by decide +kernel
theorem dX12_ways_144 : decode cX12_ways 144 = .ok (.iastore, 1) := by decide +kernel
theorem dX12_ways_145 : decode cX12_ways 145 = .ok (.aload_n 0, 1) := by decide +kernel
theorem dX12_ways_146 : decode cX12_ways 146 = .ok (.dup, 1) := by decide +kernel
theorem dX12_ways_147 : decode cX12_ways 147 = .ok (.getfield 465, 3) := by decide +kernel
theorem dX12_ways_150 : decode cX12_ways 150 = .ok (.iconst 1, 1) := by decide +kernel
theorem dX12_ways_151 : decode cX12_ways 151 = .ok (.iadd, 1) := by decide +kernel
theorem dX12_ways_152 : decode cX12_ways 152 = .ok (.putfield 465, 3) := by decide +kernel
theorem dX12_ways_136 : decode cX12_ways 136 = .ok (.if_icmp .le 7, 3) := by decide +kernel
theorem dX12_ways_143 : decode cX12_ways 143 = .ok (.iconst 0, 1) := by decide +kernel
theorem dX12_ways_139 : decode cX12_ways 139 = .ok (.iconst 1, 1) := by decide +kernel
theorem dX12_ways_140 : decode cX12_ways 140 = .ok (.goto 4, 3) := by decide +kernel
theorem dX12_ways_67 : decode cX12_ways 67 = .ok (.goto 88, 3) := by decide +kernel
theorem dX12_streams_0 : decode cX12_streams 0 = .ok (.aload_n 0, 1) := by decide +kernel
theorem dX12_streams_1 : decode cX12_streams 1 = .ok (.iconst 0, 1) := by decide +kernel
theorem dX12_streams_2 : decode cX12_streams 2 = .ok (.putfield 177, 3) := by decide +kernel
theorem dX12_streams_5 : decode cX12_streams 5 = .ok (.aload_n 0, 1) := by decide +kernel
theorem tw_2050 : (Jvm.Cond.methodLink "MarshBellsModel" (468 : Nat) ({ cls := "MarshBellsModel", name := "ways", desc := "()V" } : Jvm.MethodName)) ∈ lw_tbl := tk_9 (List.mem_of_getElem? (i := 130) rfl)
theorem tw_2053 : (Jvm.Cond.code ({ cls := "MarshBellsModel", name := "ways", desc := "()V" } : Jvm.MethodName) prog_14_method_94_code (4 : Nat) (Option.none : Option Jvm.ClassFile.FieldType)) ∈ lw_tbl := tk_9 (List.mem_of_getElem? (i := 133) rfl)
theorem tw_2052 : (Jvm.Cond.instanceMethod ({ cls := "MarshBellsModel", name := "ways", desc := "()V" } : Jvm.MethodName)) ∈ lw_tbl := tk_9 (List.mem_of_getElem? (i := 132) rfl)
theorem se_X12_ways : Cond.selects RX12 yX12_ways yX12_ways ∈ lw_tbl := List.mem_append_left _ (List.mem_of_getElem? (i := 156) rfl)
theorem li_X12_468 : kLV RX12 468 RX12 yX12_ways cX12_ways 4 none 0 := ⟨tw_2050, tw_2052, se_X12_ways, tw_2053, tw_13, by decide +kernel⟩
theorem dX12_streams_6 : decode cX12_streams 6 = .ok (.invokevirtual 468, 3) := by decide +kernel
theorem dX12_streams_9 : decode cX12_streams 9 = .ok (.iconst 0, 1) := by decide +kernel
theorem dX12_streams_10 : decode cX12_streams 10 = .ok (.istore_n 1, 1) := by decide +kernel
theorem dX12_streams_11 : decode cX12_streams 11 = .ok (.iconst 0, 1) := by decide +kernel
theorem dX12_streams_12 : decode cX12_streams 12 = .ok (.istore_n 2, 1) := by decide +kernel
theorem dX12_streams_13 : decode cX12_streams 13 = .ok (.iload_n 2, 1) := by decide +kernel
theorem dX12_streams_14 : decode cX12_streams 14 = .ok (.aload_n 0, 1) := by decide +kernel
theorem dX12_streams_15 : decode cX12_streams 15 = .ok (.getfield 465, 3) := by decide +kernel
theorem dX12_streams_18 : decode cX12_streams 18 = .ok (.if_icmp .ge 97, 3) := by decide +kernel
theorem dX12_streams_115 : decode cX12_streams 115 = .ok (.iload_n 1, 1) := by decide +kernel
theorem dX12_streams_116 : decode cX12_streams 116 = .ok (.ireturn, 1) := by decide +kernel
theorem dX12_streams_21 : decode cX12_streams 21 = .ok (.iload_n 2, 1) := by decide +kernel
theorem dX12_streams_22 : decode cX12_streams 22 = .ok (.iconst 1, 1) := by decide +kernel
theorem dX12_streams_23 : decode cX12_streams 23 = .ok (.iadd, 1) := by decide +kernel
theorem dX12_streams_24 : decode cX12_streams 24 = .ok (.istore_n 3, 1) := by decide +kernel
theorem dX12_streams_25 : decode cX12_streams 25 = .ok (.iload_n 3, 1) := by decide +kernel
theorem dX12_streams_26 : decode cX12_streams 26 = .ok (.aload_n 0, 1) := by decide +kernel
theorem dX12_streams_27 : decode cX12_streams 27 = .ok (.getfield 465, 3) := by decide +kernel
theorem dX12_streams_30 : decode cX12_streams 30 = .ok (.if_icmp .ge 79, 3) := by decide +kernel
theorem dX12_streams_109 : decode cX12_streams 109 = .ok (.iinc 2 1, 3) := by decide +kernel
theorem dX12_streams_112 : decode cX12_streams 112 = .ok (.goto (-99), 3) := by decide +kernel
theorem dX12_streams_33 : decode cX12_streams 33 = .ok (.aload_n 0, 1) := by decide +kernel
theorem dX12_streams_34 : decode cX12_streams 34 = .ok (.getfield 165, 3) := by decide +kernel
theorem dX12_streams_37 : decode cX12_streams 37 = .ok (.iload_n 2, 1) := by decide +kernel
theorem dX12_streams_38 : decode cX12_streams 38 = .ok (.iaload, 1) := by decide +kernel
theorem dX12_streams_39 : decode cX12_streams 39 = .ok (.aload_n 0, 1) := by decide +kernel
theorem dX12_streams_40 : decode cX12_streams 40 = .ok (.getfield 165, 3) := by decide +kernel
theorem dX12_streams_43 : decode cX12_streams 43 = .ok (.iload_n 3, 1) := by decide +kernel
theorem dX12_streams_44 : decode cX12_streams 44 = .ok (.iaload, 1) := by decide +kernel
theorem dX12_streams_103 : decode cX12_streams 103 = .ok (.iinc 3 1, 3) := by decide +kernel
theorem dX12_streams_106 : decode cX12_streams 106 = .ok (.goto (-81), 3) := by decide +kernel
theorem dX12_streams_45 : decode cX12_streams 45 = .ok (.if_icmp .ne 6, 3) := by decide +kernel
theorem dX12_streams_51 : decode cX12_streams 51 = .ok (.iload_n 1, 1) := by decide +kernel
theorem dX12_streams_52 : decode cX12_streams 52 = .ok (.aload_n 0, 1) := by decide +kernel
theorem dX12_streams_53 : decode cX12_streams 53 = .ok (.getfield 159, 3) := by decide +kernel
theorem dX12_streams_56 : decode cX12_streams 56 = .ok (.iload_n 2, 1) := by decide +kernel
theorem dX12_streams_57 : decode cX12_streams 57 = .ok (.iaload, 1) := by decide +kernel
theorem dX12_streams_58 : decode cX12_streams 58 = .ok (.aload_n 0, 1) := by decide +kernel
theorem dX12_streams_59 : decode cX12_streams 59 = .ok (.getfield 159, 3) := by decide +kernel
theorem dX12_streams_62 : decode cX12_streams 62 = .ok (.iload_n 3, 1) := by decide +kernel
theorem dX12_streams_63 : decode cX12_streams 63 = .ok (.iaload, 1) := by decide +kernel
theorem dX12_streams_64 : decode cX12_streams 64 = .ok (.aload_n 0, 1) := by decide +kernel
theorem dX12_streams_65 : decode cX12_streams 65 = .ok (.getfield 162, 3) := by decide +kernel
theorem dX12_streams_68 : decode cX12_streams 68 = .ok (.iload_n 3, 1) := by decide +kernel
theorem dX12_streams_69 : decode cX12_streams 69 = .ok (.iaload, 1) := by decide +kernel
theorem dX12_streams_70 : decode cX12_streams 70 = .ok (.iadd, 1) := by decide +kernel
theorem dX12_streams_101 : decode cX12_streams 101 = .ok (.iadd, 1) := by decide +kernel
theorem dX12_streams_102 : decode cX12_streams 102 = .ok (.istore_n 1, 1) := by decide +kernel
theorem dX12_streams_100 : decode cX12_streams 100 = .ok (.iconst 0, 1) := by decide +kernel
theorem dX12_streams_71 : decode cX12_streams 71 = .ok (.if_icmp .ge 29, 3) := by decide +kernel
theorem dX12_streams_74 : decode cX12_streams 74 = .ok (.aload_n 0, 1) := by decide +kernel
theorem dX12_streams_75 : decode cX12_streams 75 = .ok (.getfield 159, 3) := by decide +kernel
theorem dX12_streams_78 : decode cX12_streams 78 = .ok (.iload_n 3, 1) := by decide +kernel
theorem dX12_streams_79 : decode cX12_streams 79 = .ok (.iaload, 1) := by decide +kernel
theorem dX12_streams_80 : decode cX12_streams 80 = .ok (.aload_n 0, 1) := by decide +kernel
theorem dX12_streams_81 : decode cX12_streams 81 = .ok (.getfield 159, 3) := by decide +kernel
theorem dX12_streams_84 : decode cX12_streams 84 = .ok (.iload_n 2, 1) := by decide +kernel
theorem dX12_streams_85 : decode cX12_streams 85 = .ok (.iaload, 1) := by decide +kernel
theorem dX12_streams_86 : decode cX12_streams 86 = .ok (.aload_n 0, 1) := by decide +kernel
theorem dX12_streams_87 : decode cX12_streams 87 = .ok (.getfield 162, 3) := by decide +kernel
theorem dX12_streams_90 : decode cX12_streams 90 = .ok (.iload_n 2, 1) := by decide +kernel
theorem dX12_streams_91 : decode cX12_streams 91 = .ok (.iaload, 1) := by decide +kernel
theorem dX12_streams_92 : decode cX12_streams 92 = .ok (.iadd, 1) := by decide +kernel
theorem dX12_streams_93 : decode cX12_streams 93 = .ok (.if_icmp .ge 7, 3) := by decide +kernel
theorem dX12_streams_96 : decode cX12_streams 96 = .ok (.iconst 1, 1) := by decide +kernel
theorem dX12_streams_97 : decode cX12_streams 97 = .ok (.goto 4, 3) := by decide +kernel
theorem dX12_streams_48 : decode cX12_streams 48 = .ok (.goto 55, 3) := by decide +kernel
theorem dX12_onStair_0 : decode cX12_onStair 0 = .ok (.iconst 0, 1) := by decide +kernel
theorem dX12_onStair_1 : decode cX12_onStair 1 = .ok (.istore_n 2, 1) := by decide +kernel
theorem dX12_onStair_2 : decode cX12_onStair 2 = .ok (.iconst 0, 1) := by decide +kernel
theorem dX12_onStair_3 : decode cX12_onStair 3 = .ok (.istore_n 3, 1) := by decide +kernel
theorem dX12_onStair_4 : decode cX12_onStair 4 = .ok (.iload_n 3, 1) := by decide +kernel
theorem dX12_onStair_5 : decode cX12_onStair 5 = .ok (.aload_n 0, 1) := by decide +kernel
theorem dX12_onStair_6 : decode cX12_onStair 6 = .ok (.getfield 465, 3) := by decide +kernel
theorem dX12_onStair_9 : decode cX12_onStair 9 = .ok (.if_icmp .ge 54, 3) := by decide +kernel
theorem dX12_onStair_63 : decode cX12_onStair 63 = .ok (.iload_n 2, 1) := by decide +kernel
theorem dX12_onStair_64 : decode cX12_onStair 64 = .ok (.ireturn, 1) := by decide +kernel
theorem dX12_onStair_12 : decode cX12_onStair 12 = .ok (.iload_n 2, 1) := by decide +kernel
theorem dX12_onStair_13 : decode cX12_onStair 13 = .ok (.iload_n 1, 1) := by decide +kernel
theorem dX12_onStair_14 : decode cX12_onStair 14 = .ok (.aload_n 0, 1) := by decide +kernel
theorem dX12_onStair_15 : decode cX12_onStair 15 = .ok (.getfield 159, 3) := by decide +kernel
theorem dX12_onStair_18 : decode cX12_onStair 18 = .ok (.iload_n 3, 1) := by decide +kernel
theorem dX12_onStair_19 : decode cX12_onStair 19 = .ok (.iaload, 1) := by decide +kernel
theorem dX12_onStair_55 : decode cX12_onStair 55 = .ok (.iadd, 1) := by decide +kernel
theorem dX12_onStair_56 : decode cX12_onStair 56 = .ok (.istore_n 2, 1) := by decide +kernel
theorem dX12_onStair_57 : decode cX12_onStair 57 = .ok (.iinc 3 1, 3) := by decide +kernel
theorem dX12_onStair_60 : decode cX12_onStair 60 = .ok (.goto (-56), 3) := by decide +kernel
theorem dX12_onStair_54 : decode cX12_onStair 54 = .ok (.iconst 0, 1) := by decide +kernel
theorem dX12_onStair_20 : decode cX12_onStair 20 = .ok (.if_icmp .lt 34, 3) := by decide +kernel
theorem dX12_onStair_23 : decode cX12_onStair 23 = .ok (.iload_n 1, 1) := by decide +kernel
theorem dX12_onStair_24 : decode cX12_onStair 24 = .ok (.aload_n 0, 1) := by decide +kernel
theorem dX12_onStair_25 : decode cX12_onStair 25 = .ok (.getfield 159, 3) := by decide +kernel
theorem dX12_onStair_28 : decode cX12_onStair 28 = .ok (.iload_n 3, 1) := by decide +kernel
theorem dX12_onStair_29 : decode cX12_onStair 29 = .ok (.iaload, 1) := by decide +kernel
theorem dX12_onStair_30 : decode cX12_onStair 30 = .ok (.aload_n 0, 1) := by decide +kernel
theorem dX12_onStair_31 : decode cX12_onStair 31 = .ok (.getfield 162, 3) := by decide +kernel
theorem dX12_onStair_34 : decode cX12_onStair 34 = .ok (.iload_n 3, 1) := by decide +kernel
theorem dX12_onStair_35 : decode cX12_onStair 35 = .ok (.iaload, 1) := by decide +kernel
theorem dX12_onStair_36 : decode cX12_onStair 36 = .ok (.iadd, 1) := by decide +kernel
theorem dX12_onStair_37 : decode cX12_onStair 37 = .ok (.if_icmp .ge 17, 3) := by decide +kernel
theorem dX12_onStair_40 : decode cX12_onStair 40 = .ok (.aload_n 0, 1) := by decide +kernel
theorem dX12_onStair_41 : decode cX12_onStair 41 = .ok (.getfield 26, 3) := by decide +kernel
theorem dX12_onStair_44 : decode cX12_onStair 44 = .ok (.aload_n 0, 1) := by decide +kernel
theorem dX12_onStair_45 : decode cX12_onStair 45 = .ok (.getfield 156, 3) := by decide +kernel
theorem dX12_onStair_48 : decode cX12_onStair 48 = .ok (.iload_n 3, 1) := by decide +kernel
theorem dX12_onStair_49 : decode cX12_onStair 49 = .ok (.iaload, 1) := by decide +kernel
theorem dX12_onStair_50 : decode cX12_onStair 50 = .ok (.iaload, 1) := by decide +kernel
theorem dX12_onStair_51 : decode cX12_onStair 51 = .ok (.goto 4, 3) := by decide +kernel
theorem dX12_on_0 : decode cX12_on 0 = .ok (.aload_n 0, 1) := by decide +kernel
theorem dX12_on_1 : decode cX12_on 1 = .ok (.iconst 0, 1) := by decide +kernel
theorem dX12_on_2 : decode cX12_on 2 = .ok (.putfield 177, 3) := by decide +kernel
theorem dX12_on_5 : decode cX12_on 5 = .ok (.aload_n 0, 1) := by decide +kernel
theorem dX12_on_6 : decode cX12_on 6 = .ok (.iload_n 2, 1) := by decide +kernel
theorem dX12_on_7 : decode cX12_on 7 = .ok (.iconst 1, 1) := by decide +kernel
theorem dX12_on_8 : decode cX12_on 8 = .ok (.invokevirtual 405, 3) := by decide +kernel
theorem dX12_on_30 : decode cX12_on 30 = .ok (.iconst 0, 1) := by decide +kernel
theorem dX12_on_31 : decode cX12_on 31 = .ok (.ireturn, 1) := by decide +kernel
theorem dX12_on_11 : decode cX12_on 11 = .ok (.ifCond .eq 19, 3) := by decide +kernel
theorem dX12_on_14 : decode cX12_on 14 = .ok (.aload_n 0, 1) := by decide +kernel
theorem dX12_on_15 : decode cX12_on 15 = .ok (.iload_n 1, 1) := by decide +kernel
theorem dX12_on_16 : decode cX12_on 16 = .ok (.iconst 0, 1) := by decide +kernel
theorem dX12_on_17 : decode cX12_on 17 = .ok (.sipush 4000, 3) := by decide +kernel
theorem dX12_on_20 : decode cX12_on 20 = .ok (.invokestatic 392, 3) := by decide +kernel
theorem dX12_on_23 : decode cX12_on 23 = .ok (.iconst 2, 1) := by decide +kernel
theorem dX12_on_24 : decode cX12_on 24 = .ok (.invokevirtual 328, 3) := by decide +kernel
theorem dX12_on_27 : decode cX12_on 27 = .ok (.ifCond .ne 5, 3) := by decide +kernel
theorem dX12_on_32 : decode cX12_on 32 = .ok (.aload_n 0, 1) := by decide +kernel
theorem dX12_on_33 : decode cX12_on 33 = .ok (.invokevirtual 468, 3) := by decide +kernel
theorem dX12_on_36 : decode cX12_on 36 = .ok (.iload_n 2, 1) := by decide +kernel
theorem dX12_on_37 : decode cX12_on 37 = .ok (.iconst 1, 1) := by decide +kernel
theorem dX12_on_38 : decode cX12_on 38 = .ok (.if_icmp .ne 9, 3) := by decide +kernel
theorem dX12_on_47 : decode cX12_on 47 = .ok (.iconst 0, 1) := by decide +kernel
theorem dX12_on_48 : decode cX12_on 48 = .ok (.istore_n 3, 1) := by decide +kernel
theorem dX12_on_49 : decode cX12_on 49 = .ok (.iconst 0, 1) := by decide +kernel
theorem dX12_on_50 : decode cX12_on 50 = .ok (.istore 4, 2) := by decide +kernel
theorem dX12_on_52 : decode cX12_on 52 = .ok (.iload 4, 2) := by decide +kernel
theorem dX12_on_54 : decode cX12_on 54 = .ok (.aload_n 0, 1) := by decide +kernel
theorem dX12_on_55 : decode cX12_on 55 = .ok (.getfield 335, 3) := by decide +kernel
theorem dX12_on_58 : decode cX12_on 58 = .ok (.if_icmp .ge 42, 3) := by decide +kernel
theorem dX12_on_100 : decode cX12_on 100 = .ok (.iload_n 3, 1) := by decide +kernel
theorem dX12_on_101 : decode cX12_on 101 = .ok (.ireturn, 1) := by decide +kernel
theorem dX12_on_61 : decode cX12_on 61 = .ok (.iload_n 3, 1) := by decide +kernel
theorem dX12_on_62 : decode cX12_on 62 = .ok (.aload_n 0, 1) := by decide +kernel
theorem dX12_on_63 : decode cX12_on 63 = .ok (.getfield 114, 3) := by decide +kernel
theorem dX12_on_66 : decode cX12_on 66 = .ok (.iload 4, 2) := by decide +kernel
theorem dX12_on_68 : decode cX12_on 68 = .ok (.iaload, 1) := by decide +kernel
theorem dX12_on_69 : decode cX12_on 69 = .ok (.iload_n 1, 1) := by decide +kernel
theorem dX12_on_92 : decode cX12_on 92 = .ok (.ior, 1) := by decide +kernel
theorem dX12_on_93 : decode cX12_on 93 = .ok (.istore_n 3, 1) := by decide +kernel
theorem dX12_on_94 : decode cX12_on 94 = .ok (.iinc 4 1, 3) := by decide +kernel
theorem dX12_on_97 : decode cX12_on 97 = .ok (.goto (-45), 3) := by decide +kernel
theorem dX12_on_91 : decode cX12_on 91 = .ok (.iconst 0, 1) := by decide +kernel
theorem dX12_on_70 : decode cX12_on 70 = .ok (.if_icmp .gt 21, 3) := by decide +kernel
theorem dX12_on_73 : decode cX12_on 73 = .ok (.iload_n 1, 1) := by decide +kernel
theorem dX12_on_74 : decode cX12_on 74 = .ok (.aload_n 0, 1) := by decide +kernel
theorem dX12_on_75 : decode cX12_on 75 = .ok (.getfield 117, 3) := by decide +kernel
theorem dX12_on_78 : decode cX12_on 78 = .ok (.iload 4, 2) := by decide +kernel
theorem dX12_on_80 : decode cX12_on 80 = .ok (.iaload, 1) := by decide +kernel
theorem dX12_on_81 : decode cX12_on 81 = .ok (.if_icmp .ge 10, 3) := by decide +kernel
theorem dX12_on_84 : decode cX12_on 84 = .ok (.iconst 1, 1) := by decide +kernel
theorem dX12_on_85 : decode cX12_on 85 = .ok (.iload 4, 2) := by decide +kernel
theorem dX12_on_87 : decode cX12_on 87 = .ok (.ishl, 1) := by decide +kernel
theorem dX12_on_88 : decode cX12_on 88 = .ok (.goto 4, 3) := by decide +kernel
theorem dX12_on_41 : decode cX12_on 41 = .ok (.aload_n 0, 1) := by decide +kernel
theorem dX12_on_42 : decode cX12_on 42 = .ok (.iload_n 1, 1) := by decide +kernel
theorem tw_2058 : (Jvm.Cond.methodLink "MarshBellsModel" (471 : Nat) ({ cls := "MarshBellsModel", name := "onStair", desc := "(I)I" } : Jvm.MethodName)) ∈ lw_tbl := tk_9 (List.mem_of_getElem? (i := 138) rfl)
theorem tw_2061 : (Jvm.Cond.code ({ cls := "MarshBellsModel", name := "onStair", desc := "(I)I" } : Jvm.MethodName) prog_14_method_96_code (4 : Nat) (Option.some Jvm.ClassFile.FieldType.int)) ∈ lw_tbl := tk_9 (List.mem_of_getElem? (i := 141) rfl)
theorem tw_2060 : (Jvm.Cond.instanceMethod ({ cls := "MarshBellsModel", name := "onStair", desc := "(I)I" } : Jvm.MethodName)) ∈ lw_tbl := tk_9 (List.mem_of_getElem? (i := 140) rfl)
theorem se_X12_onStair : Cond.selects RX12 yX12_onStair yX12_onStair ∈ lw_tbl := List.mem_append_left _ (List.mem_of_getElem? (i := 157) rfl)
theorem li_X12_471 : kLV RX12 471 RX12 yX12_onStair cX12_onStair 4 (some .int) 1 := ⟨tw_2058, tw_2060, se_X12_onStair, tw_2061, tw_13, by decide +kernel⟩
theorem dX12_on_43 : decode cX12_on 43 = .ok (.invokevirtual 471, 3) := by decide +kernel
theorem dX12_on_46 : decode cX12_on 46 = .ok (.ireturn, 1) := by decide +kernel
theorem dX12_busiest_0 : decode cX12_busiest 0 = .ok (.aload_n 0, 1) := by decide +kernel
theorem dX12_busiest_1 : decode cX12_busiest 1 = .ok (.iconst 0, 1) := by decide +kernel
theorem dX12_busiest_2 : decode cX12_busiest 2 = .ok (.putfield 177, 3) := by decide +kernel
theorem dX12_busiest_5 : decode cX12_busiest 5 = .ok (.aload_n 0, 1) := by decide +kernel
theorem dX12_busiest_6 : decode cX12_busiest 6 = .ok (.iload_n 1, 1) := by decide +kernel
theorem dX12_busiest_7 : decode cX12_busiest 7 = .ok (.iconst 1, 1) := by decide +kernel
theorem dX12_busiest_8 : decode cX12_busiest 8 = .ok (.invokevirtual 405, 3) := by decide +kernel
theorem dX12_busiest_11 : decode cX12_busiest 11 = .ok (.ifCond .ne 5, 3) := by decide +kernel
theorem dX12_busiest_16 : decode cX12_busiest 16 = .ok (.aload_n 0, 1) := by decide +kernel
theorem dX12_busiest_17 : decode cX12_busiest 17 = .ok (.invokevirtual 468, 3) := by decide +kernel
theorem dX12_busiest_20 : decode cX12_busiest 20 = .ok (.iconst (-1), 1) := by decide +kernel
theorem dX12_busiest_21 : decode cX12_busiest 21 = .ok (.istore_n 2, 1) := by decide +kernel
theorem dX12_busiest_22 : decode cX12_busiest 22 = .ok (.iconst 0, 1) := by decide +kernel
theorem dX12_busiest_23 : decode cX12_busiest 23 = .ok (.istore_n 3, 1) := by decide +kernel
theorem dX12_busiest_24 : decode cX12_busiest 24 = .ok (.iconst 0, 1) := by decide +kernel
theorem dX12_busiest_25 : decode cX12_busiest 25 = .ok (.istore 4, 2) := by decide +kernel
theorem dX12_busiest_27 : decode cX12_busiest 27 = .ok (.iload 4, 2) := by decide +kernel
theorem dX12_busiest_29 : decode cX12_busiest 29 = .ok (.aload_n 0, 1) := by decide +kernel
theorem dX12_busiest_30 : decode cX12_busiest 30 = .ok (.getfield 465, 3) := by decide +kernel
theorem dX12_busiest_33 : decode cX12_busiest 33 = .ok (.if_icmp .ge 64, 3) := by decide +kernel
theorem dX12_busiest_97 : decode cX12_busiest 97 = .ok (.iload_n 1, 1) := by decide +kernel
theorem dX12_busiest_106 : decode cX12_busiest 106 = .ok (.ireturn, 1) := by decide +kernel
theorem dX12_busiest_98 : decode cX12_busiest 98 = .ok (.ifCond .ne 7, 3) := by decide +kernel
theorem dX12_busiest_105 : decode cX12_busiest 105 = .ok (.iload_n 2, 1) := by decide +kernel
theorem dX12_busiest_101 : decode cX12_busiest 101 = .ok (.iload_n 3, 1) := by decide +kernel
theorem dX12_busiest_102 : decode cX12_busiest 102 = .ok (.goto 4, 3) := by decide +kernel
theorem dX12_busiest_36 : decode cX12_busiest 36 = .ok (.aload_n 0, 1) := by decide +kernel
theorem dX12_busiest_37 : decode cX12_busiest 37 = .ok (.aload_n 0, 1) := by decide +kernel
theorem dX12_busiest_38 : decode cX12_busiest 38 = .ok (.getfield 159, 3) := by decide +kernel
theorem dX12_busiest_41 : decode cX12_busiest 41 = .ok (.iload 4, 2) := by decide +kernel
theorem dX12_busiest_43 : decode cX12_busiest 43 = .ok (.iaload, 1) := by decide +kernel
theorem dX12_busiest_44 : decode cX12_busiest 44 = .ok (.invokevirtual 471, 3) := by decide +kernel
theorem dX12_busiest_47 : decode cX12_busiest 47 = .ok (.istore 5, 2) := by decide +kernel
theorem dX12_busiest_49 : decode cX12_busiest 49 = .ok (.iload 5, 2) := by decide +kernel
theorem dX12_busiest_51 : decode cX12_busiest 51 = .ok (.iload_n 3, 1) := by decide +kernel
theorem dX12_busiest_91 : decode cX12_busiest 91 = .ok (.iinc 4 1, 3) := by decide +kernel
theorem dX12_busiest_94 : decode cX12_busiest 94 = .ok (.goto (-67), 3) := by decide +kernel
theorem dX12_busiest_52 : decode cX12_busiest 52 = .ok (.if_icmp .lt 39, 3) := by decide +kernel
theorem dX12_busiest_55 : decode cX12_busiest 55 = .ok (.iload 5, 2) := by decide +kernel
theorem dX12_busiest_57 : decode cX12_busiest 57 = .ok (.iload_n 3, 1) := by decide +kernel
theorem dX12_busiest_80 : decode cX12_busiest 80 = .ok (.aload_n 0, 1) := by decide +kernel
theorem dX12_busiest_81 : decode cX12_busiest 81 = .ok (.getfield 159, 3) := by decide +kernel
theorem dX12_busiest_84 : decode cX12_busiest 84 = .ok (.iload 4, 2) := by decide +kernel
theorem dX12_busiest_86 : decode cX12_busiest 86 = .ok (.iaload, 1) := by decide +kernel
theorem dX12_busiest_87 : decode cX12_busiest 87 = .ok (.istore_n 2, 1) := by decide +kernel
theorem dX12_busiest_88 : decode cX12_busiest 88 = .ok (.iload 5, 2) := by decide +kernel
theorem dX12_busiest_90 : decode cX12_busiest 90 = .ok (.istore_n 3, 1) := by decide +kernel
theorem dX12_busiest_58 : decode cX12_busiest 58 = .ok (.if_icmp .ne 22, 3) := by decide +kernel
theorem dX12_busiest_61 : decode cX12_busiest 61 = .ok (.iload_n 2, 1) := by decide +kernel
theorem dX12_busiest_62 : decode cX12_busiest 62 = .ok (.iconst (-1), 1) := by decide +kernel
theorem dX12_busiest_63 : decode cX12_busiest 63 = .ok (.if_icmp .eq 17, 3) := by decide +kernel
theorem dX12_busiest_66 : decode cX12_busiest 66 = .ok (.aload_n 0, 1) := by decide +kernel
theorem dX12_busiest_67 : decode cX12_busiest 67 = .ok (.getfield 159, 3) := by decide +kernel
theorem dX12_busiest_70 : decode cX12_busiest 70 = .ok (.iload 4, 2) := by decide +kernel
theorem dX12_busiest_72 : decode cX12_busiest 72 = .ok (.iaload, 1) := by decide +kernel
theorem dX12_busiest_73 : decode cX12_busiest 73 = .ok (.iload_n 2, 1) := by decide +kernel
theorem dX12_busiest_74 : decode cX12_busiest 74 = .ok (.if_icmp .lt 6, 3) := by decide +kernel
theorem dX12_busiest_77 : decode cX12_busiest 77 = .ok (.goto 14, 3) := by decide +kernel
theorem dX12_busiest_14 : decode cX12_busiest 14 = .ok (.iconst 0, 1) := by decide +kernel
theorem dX12_busiest_15 : decode cX12_busiest 15 = .ok (.ireturn, 1) := by decide +kernel
theorem dX12_clash_0 : decode cX12_clash 0 = .ok (.aload_n 0, 1) := by decide +kernel
theorem dX12_clash_1 : decode cX12_clash 1 = .ok (.iconst 0, 1) := by decide +kernel
theorem dX12_clash_2 : decode cX12_clash 2 = .ok (.putfield 177, 3) := by decide +kernel
theorem dX12_clash_5 : decode cX12_clash 5 = .ok (.aload_n 0, 1) := by decide +kernel
theorem dX12_clash_6 : decode cX12_clash 6 = .ok (.iload_n 1, 1) := by decide +kernel
theorem dX12_clash_7 : decode cX12_clash 7 = .ok (.iconst 1, 1) := by decide +kernel
theorem dX12_clash_8 : decode cX12_clash 8 = .ok (.invokevirtual 405, 3) := by decide +kernel
theorem dX12_clash_11 : decode cX12_clash 11 = .ok (.ifCond .ne 5, 3) := by decide +kernel
theorem dX12_clash_16 : decode cX12_clash 16 = .ok (.aload_n 0, 1) := by decide +kernel
theorem dX12_clash_17 : decode cX12_clash 17 = .ok (.invokevirtual 386, 3) := by decide +kernel
theorem dX12_clash_20 : decode cX12_clash 20 = .ok (.iconst 0, 1) := by decide +kernel
theorem dX12_clash_21 : decode cX12_clash 21 = .ok (.istore_n 2, 1) := by decide +kernel
theorem dX12_clash_22 : decode cX12_clash 22 = .ok (.iconst (-1), 1) := by decide +kernel
theorem dX12_clash_23 : decode cX12_clash 23 = .ok (.istore_n 3, 1) := by decide +kernel
theorem dX12_clash_24 : decode cX12_clash 24 = .ok (.iconst 0, 1) := by decide +kernel
theorem dX12_clash_25 : decode cX12_clash 25 = .ok (.istore 4, 2) := by decide +kernel
theorem dX12_clash_27 : decode cX12_clash 27 = .ok (.iload 4, 2) := by decide +kernel
theorem dX12_clash_29 : decode cX12_clash 29 = .ok (.aload_n 0, 1) := by decide +kernel
theorem dX12_clash_30 : decode cX12_clash 30 = .ok (.getfield 335, 3) := by decide +kernel
theorem dX12_clash_33 : decode cX12_clash 33 = .ok (.if_icmp .ge 133, 3) := by decide +kernel
theorem dX12_clash_166 : decode cX12_clash 166 = .ok (.iload_n 1, 1) := by decide +kernel
theorem dX12_clash_175 : decode cX12_clash 175 = .ok (.ireturn, 1) := by decide +kernel
theorem dX12_clash_167 : decode cX12_clash 167 = .ok (.ifCond .ne 7, 3) := by decide +kernel
theorem dX12_clash_174 : decode cX12_clash 174 = .ok (.iload_n 3, 1) := by decide +kernel
theorem dX12_clash_170 : decode cX12_clash 170 = .ok (.iload_n 2, 1) := by decide +kernel
theorem dX12_clash_171 : decode cX12_clash 171 = .ok (.goto 4, 3) := by decide +kernel
theorem dX12_clash_36 : decode cX12_clash 36 = .ok (.iload 4, 2) := by decide +kernel
theorem dX12_clash_38 : decode cX12_clash 38 = .ok (.iconst 1, 1) := by decide +kernel
theorem dX12_clash_39 : decode cX12_clash 39 = .ok (.iadd, 1) := by decide +kernel
theorem dX12_clash_40 : decode cX12_clash 40 = .ok (.istore 5, 2) := by decide +kernel
theorem dX12_clash_42 : decode cX12_clash 42 = .ok (.iload 5, 2) := by decide +kernel
theorem dX12_clash_44 : decode cX12_clash 44 = .ok (.aload_n 0, 1) := by decide +kernel
theorem dX12_clash_45 : decode cX12_clash 45 = .ok (.getfield 335, 3) := by decide +kernel
theorem dX12_clash_48 : decode cX12_clash 48 = .ok (.if_icmp .ge 112, 3) := by decide +kernel
theorem dX12_clash_160 : decode cX12_clash 160 = .ok (.iinc 4 1, 3) := by decide +kernel
theorem dX12_clash_163 : decode cX12_clash 163 = .ok (.goto (-136), 3) := by decide +kernel
theorem dX12_clash_51 : decode cX12_clash 51 = .ok (.aload_n 0, 1) := by decide +kernel
theorem dX12_clash_52 : decode cX12_clash 52 = .ok (.getfield 114, 3) := by decide +kernel
theorem dX12_clash_55 : decode cX12_clash 55 = .ok (.iload 4, 2) := by decide +kernel
theorem dX12_clash_57 : decode cX12_clash 57 = .ok (.iaload, 1) := by decide +kernel
theorem dX12_clash_58 : decode cX12_clash 58 = .ok (.aload_n 0, 1) := by decide +kernel
theorem dX12_clash_59 : decode cX12_clash 59 = .ok (.getfield 114, 3) := by decide +kernel
theorem dX12_clash_62 : decode cX12_clash 62 = .ok (.iload 5, 2) := by decide +kernel
theorem dX12_clash_64 : decode cX12_clash 64 = .ok (.iaload, 1) := by decide +kernel
theorem dX12_clash_85 : decode cX12_clash 85 = .ok (.istore 6, 2) := by decide +kernel
theorem dX12_clash_87 : decode cX12_clash 87 = .ok (.aload_n 0, 1) := by decide +kernel
theorem dX12_clash_88 : decode cX12_clash 88 = .ok (.getfield 50, 3) := by decide +kernel
theorem dX12_clash_91 : decode cX12_clash 91 = .ok (.bipush 24, 2) := by decide +kernel
theorem dX12_clash_93 : decode cX12_clash 93 = .ok (.iload 4, 2) := by decide +kernel
theorem dX12_clash_95 : decode cX12_clash 95 = .ok (.iadd, 1) := by decide +kernel
theorem dX12_clash_96 : decode cX12_clash 96 = .ok (.iaload, 1) := by decide +kernel
theorem dX12_clash_97 : decode cX12_clash 97 = .ok (.aload_n 0, 1) := by decide +kernel
theorem dX12_clash_98 : decode cX12_clash 98 = .ok (.getfield 50, 3) := by decide +kernel
theorem dX12_clash_101 : decode cX12_clash 101 = .ok (.bipush 24, 2) := by decide +kernel
theorem dX12_clash_103 : decode cX12_clash 103 = .ok (.iload 5, 2) := by decide +kernel
theorem dX12_clash_105 : decode cX12_clash 105 = .ok (.iadd, 1) := by decide +kernel
theorem dX12_clash_106 : decode cX12_clash 106 = .ok (.iaload, 1) := by decide +kernel
theorem dX12_clash_154 : decode cX12_clash 154 = .ok (.iinc 5 1, 3) := by decide +kernel
theorem dX12_clash_157 : decode cX12_clash 157 = .ok (.goto (-115), 3) := by decide +kernel
theorem dX12_clash_107 : decode cX12_clash 107 = .ok (.if_icmp .ne 47, 3) := by decide +kernel
theorem dX12_clash_110 : decode cX12_clash 110 = .ok (.iload 6, 2) := by decide +kernel
theorem dX12_clash_112 : decode cX12_clash 112 = .ok (.aload_n 0, 1) := by decide +kernel
theorem dX12_clash_113 : decode cX12_clash 113 = .ok (.getfield 117, 3) := by decide +kernel
theorem dX12_clash_116 : decode cX12_clash 116 = .ok (.iload 4, 2) := by decide +kernel
theorem dX12_clash_118 : decode cX12_clash 118 = .ok (.iaload, 1) := by decide +kernel
theorem dX12_clash_119 : decode cX12_clash 119 = .ok (.if_icmp .ge 35, 3) := by decide +kernel
theorem dX12_clash_122 : decode cX12_clash 122 = .ok (.iload 6, 2) := by decide +kernel
theorem dX12_clash_124 : decode cX12_clash 124 = .ok (.aload_n 0, 1) := by decide +kernel
theorem dX12_clash_125 : decode cX12_clash 125 = .ok (.getfield 117, 3) := by decide +kernel
theorem dX12_clash_128 : decode cX12_clash 128 = .ok (.iload 5, 2) := by decide +kernel
theorem dX12_clash_130 : decode cX12_clash 130 = .ok (.iaload, 1) := by decide +kernel
theorem dX12_clash_131 : decode cX12_clash 131 = .ok (.if_icmp .lt 6, 3) := by decide +kernel
theorem dX12_clash_137 : decode cX12_clash 137 = .ok (.iinc 2 1, 3) := by decide +kernel
theorem dX12_clash_140 : decode cX12_clash 140 = .ok (.iload_n 3, 1) := by decide +kernel
theorem dX12_clash_141 : decode cX12_clash 141 = .ok (.iconst (-1), 1) := by decide +kernel
theorem dX12_clash_151 : decode cX12_clash 151 = .ok (.iload 6, 2) := by decide +kernel
theorem dX12_clash_153 : decode cX12_clash 153 = .ok (.istore_n 3, 1) := by decide +kernel
theorem dX12_clash_142 : decode cX12_clash 142 = .ok (.if_icmp .eq 9, 3) := by decide +kernel
theorem dX12_clash_145 : decode cX12_clash 145 = .ok (.iload 6, 2) := by decide +kernel
theorem dX12_clash_147 : decode cX12_clash 147 = .ok (.iload_n 3, 1) := by decide +kernel
theorem dX12_clash_148 : decode cX12_clash 148 = .ok (.if_icmp .ge 6, 3) := by decide +kernel
theorem dX12_clash_134 : decode cX12_clash 134 = .ok (.goto 20, 3) := by decide +kernel
theorem dX12_clash_65 : decode cX12_clash 65 = .ok (.if_icmp .le 13, 3) := by decide +kernel
theorem dX12_clash_78 : decode cX12_clash 78 = .ok (.aload_n 0, 1) := by decide +kernel
theorem dX12_clash_79 : decode cX12_clash 79 = .ok (.getfield 114, 3) := by decide +kernel
theorem dX12_clash_82 : decode cX12_clash 82 = .ok (.iload 5, 2) := by decide +kernel
theorem dX12_clash_84 : decode cX12_clash 84 = .ok (.iaload, 1) := by decide +kernel
theorem dX12_clash_68 : decode cX12_clash 68 = .ok (.aload_n 0, 1) := by decide +kernel
theorem dX12_clash_69 : decode cX12_clash 69 = .ok (.getfield 114, 3) := by decide +kernel
theorem dX12_clash_72 : decode cX12_clash 72 = .ok (.iload 4, 2) := by decide +kernel
theorem dX12_clash_74 : decode cX12_clash 74 = .ok (.iaload, 1) := by decide +kernel
theorem dX12_clash_75 : decode cX12_clash 75 = .ok (.goto 10, 3) := by decide +kernel
theorem dX12_clash_14 : decode cX12_clash 14 = .ok (.iconst 0, 1) := by decide +kernel
theorem dX12_clash_15 : decode cX12_clash 15 = .ok (.ireturn, 1) := by decide +kernel
theorem dX12_idle_0 : decode cX12_idle 0 = .ok (.aload_n 0, 1) := by decide +kernel
theorem dX12_idle_1 : decode cX12_idle 1 = .ok (.iconst 0, 1) := by decide +kernel
theorem dX12_idle_2 : decode cX12_idle 2 = .ok (.putfield 177, 3) := by decide +kernel
theorem dX12_idle_5 : decode cX12_idle 5 = .ok (.aload_n 0, 1) := by decide +kernel
theorem dX12_idle_6 : decode cX12_idle 6 = .ok (.invokevirtual 386, 3) := by decide +kernel
theorem dX12_idle_9 : decode cX12_idle 9 = .ok (.iconst 0, 1) := by decide +kernel
theorem dX12_idle_10 : decode cX12_idle 10 = .ok (.istore_n 1, 1) := by decide +kernel
theorem dX12_idle_11 : decode cX12_idle 11 = .ok (.iconst 0, 1) := by decide +kernel
theorem dX12_idle_12 : decode cX12_idle 12 = .ok (.istore_n 2, 1) := by decide +kernel
theorem dX12_idle_13 : decode cX12_idle 13 = .ok (.iload_n 2, 1) := by decide +kernel
theorem dX12_idle_14 : decode cX12_idle 14 = .ok (.aload_n 0, 1) := by decide +kernel
theorem dX12_idle_15 : decode cX12_idle 15 = .ok (.getfield 335, 3) := by decide +kernel
theorem dX12_idle_18 : decode cX12_idle 18 = .ok (.if_icmp .ge 78, 3) := by decide +kernel
theorem dX12_idle_96 : decode cX12_idle 96 = .ok (.iload_n 1, 1) := by decide +kernel
theorem dX12_idle_97 : decode cX12_idle 97 = .ok (.ireturn, 1) := by decide +kernel
theorem dX12_idle_21 : decode cX12_idle 21 = .ok (.iconst 0, 1) := by decide +kernel
theorem dX12_idle_22 : decode cX12_idle 22 = .ok (.istore_n 3, 1) := by decide +kernel
theorem dX12_idle_23 : decode cX12_idle 23 = .ok (.iload_n 3, 1) := by decide +kernel
theorem dX12_idle_24 : decode cX12_idle 24 = .ok (.aload_n 0, 1) := by decide +kernel
theorem dX12_idle_25 : decode cX12_idle 25 = .ok (.getfield 38, 3) := by decide +kernel
theorem dX12_idle_28 : decode cX12_idle 28 = .ok (.iload_n 2, 1) := by decide +kernel
theorem dX12_idle_29 : decode cX12_idle 29 = .ok (.iaload, 1) := by decide +kernel
theorem dX12_idle_30 : decode cX12_idle 30 = .ok (.if_icmp .ge 60, 3) := by decide +kernel
theorem dX12_idle_90 : decode cX12_idle 90 = .ok (.iinc 2 1, 3) := by decide +kernel
theorem dX12_idle_93 : decode cX12_idle 93 = .ok (.goto (-80), 3) := by decide +kernel
theorem dX12_idle_33 : decode cX12_idle 33 = .ok (.aload_n 0, 1) := by decide +kernel
theorem dX12_idle_34 : decode cX12_idle 34 = .ok (.getfield 41, 3) := by decide +kernel
theorem dX12_idle_37 : decode cX12_idle 37 = .ok (.bipush 6, 2) := by decide +kernel
theorem dX12_idle_39 : decode cX12_idle 39 = .ok (.iload_n 2, 1) := by decide +kernel
theorem dX12_idle_40 : decode cX12_idle 40 = .ok (.imul, 1) := by decide +kernel
theorem dX12_idle_41 : decode cX12_idle 41 = .ok (.iload_n 3, 1) := by decide +kernel
theorem dX12_idle_42 : decode cX12_idle 42 = .ok (.iadd, 1) := by decide +kernel
theorem dX12_idle_43 : decode cX12_idle 43 = .ok (.iaload, 1) := by decide +kernel
theorem dX12_idle_44 : decode cX12_idle 44 = .ok (.istore 4, 2) := by decide +kernel
theorem dX12_idle_46 : decode cX12_idle 46 = .ok (.aload_n 0, 1) := by decide +kernel
theorem dX12_idle_47 : decode cX12_idle 47 = .ok (.getfield 114, 3) := by decide +kernel
theorem dX12_idle_50 : decode cX12_idle 50 = .ok (.iload_n 2, 1) := by decide +kernel
theorem dX12_idle_51 : decode cX12_idle 51 = .ok (.iaload, 1) := by decide +kernel
theorem dX12_idle_52 : decode cX12_idle 52 = .ok (.aload_n 0, 1) := by decide +kernel
theorem dX12_idle_53 : decode cX12_idle 53 = .ok (.iload 4, 2) := by decide +kernel
theorem dX12_idle_55 : decode cX12_idle 55 = .ok (.iload_n 2, 1) := by decide +kernel
theorem dX12_idle_56 : decode cX12_idle 56 = .ok (.invokevirtual 371, 3) := by decide +kernel
theorem dX12_idle_59 : decode cX12_idle 59 = .ok (.isub, 1) := by decide +kernel
theorem dX12_idle_60 : decode cX12_idle 60 = .ok (.istore 5, 2) := by decide +kernel
theorem dX12_idle_62 : decode cX12_idle 62 = .ok (.iload_n 1, 1) := by decide +kernel
theorem dX12_idle_63 : decode cX12_idle 63 = .ok (.iload 5, 2) := by decide +kernel
theorem dX12_idle_82 : decode cX12_idle 82 = .ok (.iadd, 1) := by decide +kernel
theorem dX12_idle_83 : decode cX12_idle 83 = .ok (.istore_n 1, 1) := by decide +kernel
theorem dX12_idle_84 : decode cX12_idle 84 = .ok (.iinc 3 1, 3) := by decide +kernel
theorem dX12_idle_87 : decode cX12_idle 87 = .ok (.goto (-64), 3) := by decide +kernel
theorem dX12_idle_65 : decode cX12_idle 65 = .ok (.ifCond .le 16, 3) := by decide +kernel
theorem dX12_idle_81 : decode cX12_idle 81 = .ok (.iconst 0, 1) := by decide +kernel
theorem dX12_idle_68 : decode cX12_idle 68 = .ok (.aload_n 0, 1) := by decide +kernel
theorem dX12_idle_69 : decode cX12_idle 69 = .ok (.getfield 26, 3) := by decide +kernel
theorem dX12_idle_72 : decode cX12_idle 72 = .ok (.iload 4, 2) := by decide +kernel
theorem dX12_idle_74 : decode cX12_idle 74 = .ok (.iaload, 1) := by decide +kernel
theorem dX12_idle_75 : decode cX12_idle 75 = .ok (.iload 5, 2) := by decide +kernel
theorem dX12_idle_77 : decode cX12_idle 77 = .ok (.imul, 1) := by decide +kernel
theorem dX12_idle_78 : decode cX12_idle 78 = .ok (.goto 4, 3) := by decide +kernel
theorem tw_1503 : (Jvm.Cond.fieldLink "MarshBellsModel" (474 : Nat) "MarshBellsModel" "its" "I") ∈ lw_tbl := tk_7 (List.mem_of_getElem? (i := 63) rfl)
theorem fl_X12_474 : kFL RX12 474 12 88 80 := ⟨RX12, TX12, rfl, by decide, inWX12, tw_1503⟩
theorem dX12_draw_0 : decode cX12_draw 0 = .ok (.aload_n 0, 1) := by decide +kernel
theorem dX12_draw_1 : decode cX12_draw 1 = .ok (.aload_n 0, 1) := by decide +kernel
theorem dX12_draw_2 : decode cX12_draw 2 = .ok (.getfield 474, 3) := by decide +kernel
theorem tw_2082 : (Jvm.Cond.constant "MarshBellsModel" (477 : Nat) (1103515245 : Int32)) ∈ lw_tbl := tk_9 (List.mem_of_getElem? (i := 162) rfl)
theorem dX12_draw_5 : decode cX12_draw 5 = .ok (.ldc_w 477, 3) := by decide +kernel
theorem dX12_draw_8 : decode cX12_draw 8 = .ok (.imul, 1) := by decide +kernel
theorem dX12_draw_9 : decode cX12_draw 9 = .ok (.sipush 12345, 3) := by decide +kernel
theorem dX12_draw_12 : decode cX12_draw 12 = .ok (.iadd, 1) := by decide +kernel
theorem ft_X12_80 : kFT 12 80 .int false RX12 := ⟨RX12, TX12, 88, tyX12, rfl, tyX12_ok, nmX12, rfl, by decide +kernel, rfl⟩
theorem dX12_draw_13 : decode cX12_draw 13 = .ok (.putfield 474, 3) := by decide +kernel
theorem dX12_draw_16 : decode cX12_draw 16 = .ok (.aload_n 0, 1) := by decide +kernel
theorem dX12_draw_17 : decode cX12_draw 17 = .ok (.getfield 474, 3) := by decide +kernel
theorem dX12_draw_20 : decode cX12_draw 20 = .ok (.bipush 16, 2) := by decide +kernel
theorem dX12_draw_22 : decode cX12_draw 22 = .ok (.ishr, 1) := by decide +kernel
theorem dX12_draw_23 : decode cX12_draw 23 = .ok (.sipush 32767, 3) := by decide +kernel
theorem dX12_draw_26 : decode cX12_draw 26 = .ok (.iand, 1) := by decide +kernel
theorem dX12_draw_27 : decode cX12_draw 27 = .ok (.iload_n 1, 1) := by decide +kernel
theorem dX12_draw_28 : decode cX12_draw 28 = .ok (.irem, 1) := by decide +kernel
theorem dX12_draw_29 : decode cX12_draw 29 = .ok (.ireturn, 1) := by decide +kernel
theorem dX12_term_0 : decode cX12_term 0 = .ok (.aload_n 0, 1) := by decide +kernel
theorem dX12_term_1 : decode cX12_term 1 = .ok (.iconst 0, 1) := by decide +kernel
theorem dX12_term_2 : decode cX12_term 2 = .ok (.putfield 177, 3) := by decide +kernel
theorem dX12_term_5 : decode cX12_term 5 = .ok (.aload_n 0, 1) := by decide +kernel
theorem dX12_term_6 : decode cX12_term 6 = .ok (.iload_n 3, 1) := by decide +kernel
theorem dX12_term_7 : decode cX12_term 7 = .ok (.invokevirtual 402, 3) := by decide +kernel
theorem dX12_term_38 : decode cX12_term 38 = .ok (.iconst 0, 1) := by decide +kernel
theorem dX12_term_39 : decode cX12_term 39 = .ok (.ireturn, 1) := by decide +kernel
theorem dX12_term_10 : decode cX12_term 10 = .ok (.ifCond .eq 28, 3) := by decide +kernel
theorem dX12_term_13 : decode cX12_term 13 = .ok (.aload_n 0, 1) := by decide +kernel
theorem dX12_term_14 : decode cX12_term 14 = .ok (.iload 4, 2) := by decide +kernel
theorem dX12_term_16 : decode cX12_term 16 = .ok (.iconst 2, 1) := by decide +kernel
theorem dX12_term_17 : decode cX12_term 17 = .ok (.invokevirtual 405, 3) := by decide +kernel
theorem dX12_term_20 : decode cX12_term 20 = .ok (.ifCond .eq 18, 3) := by decide +kernel
theorem dX12_term_23 : decode cX12_term 23 = .ok (.aload_n 0, 1) := by decide +kernel
theorem dX12_term_24 : decode cX12_term 24 = .ok (.iload_n 2, 1) := by decide +kernel
theorem dX12_term_25 : decode cX12_term 25 = .ok (.iconst 0, 1) := by decide +kernel
theorem dX12_term_26 : decode cX12_term 26 = .ok (.bipush 60, 2) := by decide +kernel
theorem dX12_term_28 : decode cX12_term 28 = .ok (.invokestatic 392, 3) := by decide +kernel
theorem dX12_term_31 : decode cX12_term 31 = .ok (.iconst 2, 1) := by decide +kernel
theorem dX12_term_32 : decode cX12_term 32 = .ok (.invokevirtual 328, 3) := by decide +kernel
theorem dX12_term_35 : decode cX12_term 35 = .ok (.ifCond .ne 5, 3) := by decide +kernel
theorem dX12_term_40 : decode cX12_term 40 = .ok (.aload_n 0, 1) := by decide +kernel
theorem dX12_term_41 : decode cX12_term 41 = .ok (.iload_n 1, 1) := by decide +kernel
theorem dX12_term_42 : decode cX12_term 42 = .ok (.putfield 474, 3) := by decide +kernel
theorem dX12_term_45 : decode cX12_term 45 = .ok (.iconst 0, 1) := by decide +kernel
theorem dX12_term_46 : decode cX12_term 46 = .ok (.istore 5, 2) := by decide +kernel
theorem dX12_term_48 : decode cX12_term 48 = .ok (.iconst 0, 1) := by decide +kernel
theorem dX12_term_49 : decode cX12_term 49 = .ok (.istore 6, 2) := by decide +kernel
theorem dX12_term_51 : decode cX12_term 51 = .ok (.iconst 0, 1) := by decide +kernel
theorem dX12_term_52 : decode cX12_term 52 = .ok (.istore 7, 2) := by decide +kernel
theorem dX12_term_54 : decode cX12_term 54 = .ok (.iconst 0, 1) := by decide +kernel
theorem dX12_term_55 : decode cX12_term 55 = .ok (.istore 8, 2) := by decide +kernel
theorem dX12_term_57 : decode cX12_term 57 = .ok (.iload 8, 2) := by decide +kernel
theorem dX12_term_59 : decode cX12_term 59 = .ok (.iload_n 2, 1) := by decide +kernel
theorem dX12_term_60 : decode cX12_term 60 = .ok (.if_icmp .ge 120, 3) := by decide +kernel
theorem dX12_term_180 : decode cX12_term 180 = .ok (.aload_n 0, 1) := by decide +kernel
theorem dX12_term_181 : decode cX12_term 181 = .ok (.iconst 0, 1) := by decide +kernel
theorem dX12_term_182 : decode cX12_term 182 = .ok (.putfield 374, 3) := by decide +kernel
theorem dX12_term_185 : decode cX12_term 185 = .ok (.iload 4, 2) := by decide +kernel
theorem dX12_term_208 : decode cX12_term 208 = .ok (.ireturn, 1) := by decide +kernel
theorem dX12_term_187 : decode cX12_term 187 = .ok (.ifCond .ne 8, 3) := by decide +kernel
theorem dX12_term_195 : decode cX12_term 195 = .ok (.iload 4, 2) := by decide +kernel
theorem dX12_term_197 : decode cX12_term 197 = .ok (.iconst 1, 1) := by decide +kernel
theorem dX12_term_198 : decode cX12_term 198 = .ok (.if_icmp .ne 8, 3) := by decide +kernel
theorem dX12_term_206 : decode cX12_term 206 = .ok (.iload 7, 2) := by decide +kernel
theorem dX12_term_201 : decode cX12_term 201 = .ok (.iload 6, 2) := by decide +kernel
theorem dX12_term_203 : decode cX12_term 203 = .ok (.goto 5, 3) := by decide +kernel
theorem dX12_term_190 : decode cX12_term 190 = .ok (.iload 5, 2) := by decide +kernel
theorem dX12_term_192 : decode cX12_term 192 = .ok (.goto 16, 3) := by decide +kernel
theorem dX12_term_63 : decode cX12_term 63 = .ok (.aload_n 0, 1) := by decide +kernel
theorem dX12_term_64 : decode cX12_term 64 = .ok (.iconst 0, 1) := by decide +kernel
theorem dX12_term_65 : decode cX12_term 65 = .ok (.putfield 374, 3) := by decide +kernel
theorem dX12_term_68 : decode cX12_term 68 = .ok (.iconst 0, 1) := by decide +kernel
theorem dX12_term_69 : decode cX12_term 69 = .ok (.istore 9, 2) := by decide +kernel
theorem dX12_term_71 : decode cX12_term 71 = .ok (.iload 9, 2) := by decide +kernel
theorem dX12_term_73 : decode cX12_term 73 = .ok (.aload_n 0, 1) := by decide +kernel
theorem dX12_term_74 : decode cX12_term 74 = .ok (.getfield 335, 3) := by decide +kernel
theorem dX12_term_77 : decode cX12_term 77 = .ok (.if_icmp .ge 50, 3) := by decide +kernel
theorem dX12_term_127 : decode cX12_term 127 = .ok (.aload_n 0, 1) := by decide +kernel
theorem dX12_term_128 : decode cX12_term 128 = .ok (.invokevirtual 399, 3) := by decide +kernel
theorem dX12_term_131 : decode cX12_term 131 = .ok (.istore 9, 2) := by decide +kernel
theorem dX12_term_133 : decode cX12_term 133 = .ok (.iload 5, 2) := by decide +kernel
theorem dX12_term_135 : decode cX12_term 135 = .ok (.iload 9, 2) := by decide +kernel
theorem dX12_term_137 : decode cX12_term 137 = .ok (.iadd, 1) := by decide +kernel
theorem dX12_term_138 : decode cX12_term 138 = .ok (.istore 5, 2) := by decide +kernel
theorem dX12_term_140 : decode cX12_term 140 = .ok (.iload 9, 2) := by decide +kernel
theorem dX12_term_142 : decode cX12_term 142 = .ok (.iload 6, 2) := by decide +kernel
theorem dX12_term_154 : decode cX12_term 154 = .ok (.istore 6, 2) := by decide +kernel
theorem dX12_term_156 : decode cX12_term 156 = .ok (.iload 7, 2) := by decide +kernel
theorem dX12_term_158 : decode cX12_term 158 = .ok (.aload_n 0, 1) := by decide +kernel
theorem dX12_term_159 : decode cX12_term 159 = .ok (.iload_n 3, 1) := by decide +kernel
theorem dX12_term_160 : decode cX12_term 160 = .ok (.invokevirtual 389, 3) := by decide +kernel
theorem dX12_term_171 : decode cX12_term 171 = .ok (.iadd, 1) := by decide +kernel
theorem dX12_term_172 : decode cX12_term 172 = .ok (.istore 7, 2) := by decide +kernel
theorem dX12_term_174 : decode cX12_term 174 = .ok (.iinc 8 1, 3) := by decide +kernel
theorem dX12_term_177 : decode cX12_term 177 = .ok (.goto (-120), 3) := by decide +kernel
theorem dX12_term_163 : decode cX12_term 163 = .ok (.ifCond .le 7, 3) := by decide +kernel
theorem dX12_term_170 : decode cX12_term 170 = .ok (.iconst 0, 1) := by decide +kernel
theorem dX12_term_166 : decode cX12_term 166 = .ok (.iconst 1, 1) := by decide +kernel
theorem dX12_term_167 : decode cX12_term 167 = .ok (.goto 4, 3) := by decide +kernel
theorem dX12_term_144 : decode cX12_term 144 = .ok (.if_icmp .le 8, 3) := by decide +kernel
theorem dX12_term_152 : decode cX12_term 152 = .ok (.iload 6, 2) := by decide +kernel
theorem dX12_term_147 : decode cX12_term 147 = .ok (.iload 9, 2) := by decide +kernel
theorem dX12_term_149 : decode cX12_term 149 = .ok (.goto 5, 3) := by decide +kernel
theorem dX12_term_80 : decode cX12_term 80 = .ok (.aload_n 0, 1) := by decide +kernel
theorem dX12_term_81 : decode cX12_term 81 = .ok (.getfield 35, 3) := by decide +kernel
theorem dX12_term_84 : decode cX12_term 84 = .ok (.iload 9, 2) := by decide +kernel
theorem dX12_term_86 : decode cX12_term 86 = .ok (.iaload, 1) := by decide +kernel
theorem dX12_term_87 : decode cX12_term 87 = .ok (.bipush 10, 2) := by decide +kernel
theorem dX12_term_121 : decode cX12_term 121 = .ok (.iinc 9 1, 3) := by decide +kernel
theorem dX12_term_124 : decode cX12_term 124 = .ok (.goto (-53), 3) := by decide +kernel
theorem dX12_term_89 : decode cX12_term 89 = .ok (.if_icmp .eq 32, 3) := by decide +kernel
theorem dX12_term_92 : decode cX12_term 92 = .ok (.aload_n 0, 1) := by decide +kernel
theorem dX12_term_93 : decode cX12_term 93 = .ok (.bipush 10, 2) := by decide +kernel
theorem tw_2078 : (Jvm.Cond.methodLink "MarshBellsModel" (478 : Nat) ({ cls := "MarshBellsModel", name := "draw", desc := "(I)I" } : Jvm.MethodName)) ∈ lw_tbl := tk_9 (List.mem_of_getElem? (i := 158) rfl)
theorem tw_2081 : (Jvm.Cond.code ({ cls := "MarshBellsModel", name := "draw", desc := "(I)I" } : Jvm.MethodName) prog_14_method_101_code (2 : Nat) (Option.some Jvm.ClassFile.FieldType.int)) ∈ lw_tbl := tk_9 (List.mem_of_getElem? (i := 161) rfl)
theorem tw_2080 : (Jvm.Cond.instanceMethod ({ cls := "MarshBellsModel", name := "draw", desc := "(I)I" } : Jvm.MethodName)) ∈ lw_tbl := tk_9 (List.mem_of_getElem? (i := 160) rfl)
theorem se_X12_draw : Cond.selects RX12 yX12_draw yX12_draw ∈ lw_tbl := List.mem_append_left _ (List.mem_of_getElem? (i := 158) rfl)
theorem li_X12_478 : kLV RX12 478 RX12 yX12_draw cX12_draw 2 (some .int) 1 := ⟨tw_2078, tw_2080, se_X12_draw, tw_2081, tw_13, by decide +kernel⟩
theorem dX12_term_95 : decode cX12_term 95 = .ok (.invokevirtual 478, 3) := by decide +kernel
theorem dX12_term_98 : decode cX12_term 98 = .ok (.aload_n 0, 1) := by decide +kernel
theorem dX12_term_99 : decode cX12_term 99 = .ok (.getfield 35, 3) := by decide +kernel
theorem dX12_term_102 : decode cX12_term 102 = .ok (.iload 9, 2) := by decide +kernel
theorem dX12_term_104 : decode cX12_term 104 = .ok (.iaload, 1) := by decide +kernel
theorem dX12_term_105 : decode cX12_term 105 = .ok (.if_icmp .lt 16, 3) := by decide +kernel
theorem dX12_term_108 : decode cX12_term 108 = .ok (.aload_n 0, 1) := by decide +kernel
theorem dX12_term_109 : decode cX12_term 109 = .ok (.dup, 1) := by decide +kernel
theorem dX12_term_110 : decode cX12_term 110 = .ok (.getfield 374, 3) := by decide +kernel
theorem dX12_term_113 : decode cX12_term 113 = .ok (.iconst 1, 1) := by decide +kernel
theorem dX12_term_114 : decode cX12_term 114 = .ok (.iload 9, 2) := by decide +kernel
theorem dX12_term_116 : decode cX12_term 116 = .ok (.ishl, 1) := by decide +kernel
theorem dX12_term_117 : decode cX12_term 117 = .ok (.ior, 1) := by decide +kernel
theorem dX12_term_118 : decode cX12_term 118 = .ok (.putfield 374, 3) := by decide +kernel
theorem tw_1508 : (Jvm.Cond.fieldLink "MarshBellsModel" (168 : Nat) "MarshBellsModel" "imageNow" "[I") ∈ lw_tbl := tk_7 (List.mem_of_getElem? (i := 68) rfl)
theorem fl_X12_168 : kFL RX12 168 12 88 85 := ⟨RX12, TX12, rfl, by decide, inWX12, tw_1508⟩
theorem tw_1509 : (Jvm.Cond.fieldLink "MarshBellsModel" (171 : Nat) "MarshBellsModel" "imageAct" "[I") ∈ lw_tbl := tk_7 (List.mem_of_getElem? (i := 69) rfl)
theorem fl_X12_171 : kFL RX12 171 12 88 86 := ⟨RX12, TX12, rfl, by decide, inWX12, tw_1509⟩
theorem tw_1510 : (Jvm.Cond.fieldLink "MarshBellsModel" (174 : Nat) "MarshBellsModel" "imageSees" "[I") ∈ lw_tbl := tk_7 (List.mem_of_getElem? (i := 70) rfl)
theorem fl_X12_174 : kFL RX12 174 12 88 87 := ⟨RX12, TX12, rfl, by decide, inWX12, tw_1510⟩
theorem dX12_image_0 : decode cX12_image 0 = .ok (.aload_n 0, 1) := by decide +kernel
theorem dX12_image_1 : decode cX12_image 1 = .ok (.iconst 0, 1) := by decide +kernel
theorem dX12_image_2 : decode cX12_image 2 = .ok (.putfield 177, 3) := by decide +kernel
theorem dX12_image_5 : decode cX12_image 5 = .ok (.aload_n 0, 1) := by decide +kernel
theorem dX12_image_6 : decode cX12_image 6 = .ok (.iconst 1, 1) := by decide +kernel
theorem dX12_image_7 : decode cX12_image 7 = .ok (.putfield 355, 3) := by decide +kernel
theorem dX12_image_10 : decode cX12_image 10 = .ok (.aload_n 0, 1) := by decide +kernel
theorem dX12_image_11 : decode cX12_image 11 = .ok (.aload_n 0, 1) := by decide +kernel
theorem dX12_image_12 : decode cX12_image 12 = .ok (.getfield 105, 3) := by decide +kernel
theorem tw_1505 : (Jvm.Cond.fieldLink "MarshBellsModel" (481 : Nat) "MarshBellsModel" "imageForce" "I") ∈ lw_tbl := tk_7 (List.mem_of_getElem? (i := 65) rfl)
theorem fl_X12_481 : kFL RX12 481 12 88 82 := ⟨RX12, TX12, rfl, by decide, inWX12, tw_1505⟩
theorem ft_X12_82 : kFT 12 82 .int false RX12 := ⟨RX12, TX12, 88, tyX12, rfl, tyX12_ok, nmX12, rfl, by decide +kernel, rfl⟩
theorem dX12_image_15 : decode cX12_image 15 = .ok (.putfield 481, 3) := by decide +kernel
theorem dX12_image_18 : decode cX12_image 18 = .ok (.aload_n 0, 1) := by decide +kernel
theorem dX12_image_19 : decode cX12_image 19 = .ok (.aload_n 0, 1) := by decide +kernel
theorem dX12_image_20 : decode cX12_image 20 = .ok (.getfield 345, 3) := by decide +kernel
theorem tw_1506 : (Jvm.Cond.fieldLink "MarshBellsModel" (484 : Nat) "MarshBellsModel" "imageActs" "I") ∈ lw_tbl := tk_7 (List.mem_of_getElem? (i := 66) rfl)
theorem fl_X12_484 : kFL RX12 484 12 88 83 := ⟨RX12, TX12, rfl, by decide, inWX12, tw_1506⟩
theorem ft_X12_83 : kFT 12 83 .int false RX12 := ⟨RX12, TX12, 88, tyX12, rfl, tyX12_ok, nmX12, rfl, by decide +kernel, rfl⟩
theorem dX12_image_23 : decode cX12_image 23 = .ok (.putfield 484, 3) := by decide +kernel
theorem dX12_image_26 : decode cX12_image 26 = .ok (.aload_n 0, 1) := by decide +kernel
theorem dX12_image_27 : decode cX12_image 27 = .ok (.aload_n 0, 1) := by decide +kernel
theorem dX12_image_28 : decode cX12_image 28 = .ok (.getfield 348, 3) := by decide +kernel
theorem tw_1507 : (Jvm.Cond.fieldLink "MarshBellsModel" (487 : Nat) "MarshBellsModel" "imageSeen" "I") ∈ lw_tbl := tk_7 (List.mem_of_getElem? (i := 67) rfl)
theorem fl_X12_487 : kFL RX12 487 12 88 84 := ⟨RX12, TX12, rfl, by decide, inWX12, tw_1507⟩
theorem ft_X12_84 : kFT 12 84 .int false RX12 := ⟨RX12, TX12, 88, tyX12, rfl, tyX12_ok, nmX12, rfl, by decide +kernel, rfl⟩
theorem dX12_image_31 : decode cX12_image 31 = .ok (.putfield 487, 3) := by decide +kernel
theorem dX12_image_34 : decode cX12_image 34 = .ok (.aload_n 0, 1) := by decide +kernel
theorem dX12_image_35 : decode cX12_image 35 = .ok (.aload_n 0, 1) := by decide +kernel
theorem dX12_image_36 : decode cX12_image 36 = .ok (.getfield 50, 3) := by decide +kernel
theorem dX12_image_39 : decode cX12_image 39 = .ok (.aload_n 0, 1) := by decide +kernel
theorem dX12_image_40 : decode cX12_image 40 = .ok (.getfield 168, 3) := by decide +kernel
theorem dX12_image_43 : decode cX12_image 43 = .ok (.invokevirtual 341, 3) := by decide +kernel
theorem dX12_image_46 : decode cX12_image 46 = .ok (.aload_n 0, 1) := by decide +kernel
theorem dX12_image_47 : decode cX12_image 47 = .ok (.aload_n 0, 1) := by decide +kernel
theorem dX12_image_48 : decode cX12_image 48 = .ok (.getfield 132, 3) := by decide +kernel
theorem dX12_image_51 : decode cX12_image 51 = .ok (.aload_n 0, 1) := by decide +kernel
theorem dX12_image_52 : decode cX12_image 52 = .ok (.getfield 171, 3) := by decide +kernel
theorem dX12_image_55 : decode cX12_image 55 = .ok (.invokevirtual 341, 3) := by decide +kernel
theorem dX12_image_58 : decode cX12_image 58 = .ok (.aload_n 0, 1) := by decide +kernel
theorem dX12_image_59 : decode cX12_image 59 = .ok (.aload_n 0, 1) := by decide +kernel
theorem dX12_image_60 : decode cX12_image 60 = .ok (.getfield 153, 3) := by decide +kernel
theorem dX12_image_63 : decode cX12_image 63 = .ok (.aload_n 0, 1) := by decide +kernel
theorem dX12_image_64 : decode cX12_image 64 = .ok (.getfield 174, 3) := by decide +kernel
theorem dX12_image_67 : decode cX12_image 67 = .ok (.invokevirtual 341, 3) := by decide +kernel
theorem dX12_image_70 : decode cX12_image 70 = .ok (.return_, 1) := by decide +kernel
theorem dX12_restore_0 : decode cX12_restore 0 = .ok (.aload_n 0, 1) := by decide +kernel
theorem dX12_restore_1 : decode cX12_restore 1 = .ok (.iconst 0, 1) := by decide +kernel
theorem dX12_restore_2 : decode cX12_restore 2 = .ok (.putfield 177, 3) := by decide +kernel
theorem dX12_restore_5 : decode cX12_restore 5 = .ok (.aload_n 0, 1) := by decide +kernel
theorem dX12_restore_6 : decode cX12_restore 6 = .ok (.getfield 355, 3) := by decide +kernel
theorem dX12_restore_9 : decode cX12_restore 9 = .ok (.ifCond .ne 5, 3) := by decide +kernel
theorem dX12_restore_14 : decode cX12_restore 14 = .ok (.aload_n 0, 1) := by decide +kernel
theorem dX12_restore_15 : decode cX12_restore 15 = .ok (.aload_n 0, 1) := by decide +kernel
theorem dX12_restore_16 : decode cX12_restore 16 = .ok (.getfield 481, 3) := by decide +kernel
theorem dX12_restore_19 : decode cX12_restore 19 = .ok (.putfield 105, 3) := by decide +kernel
theorem dX12_restore_22 : decode cX12_restore 22 = .ok (.aload_n 0, 1) := by decide +kernel
theorem dX12_restore_23 : decode cX12_restore 23 = .ok (.aload_n 0, 1) := by decide +kernel
theorem dX12_restore_24 : decode cX12_restore 24 = .ok (.getfield 484, 3) := by decide +kernel
theorem dX12_restore_27 : decode cX12_restore 27 = .ok (.putfield 345, 3) := by decide +kernel
theorem dX12_restore_30 : decode cX12_restore 30 = .ok (.aload_n 0, 1) := by decide +kernel
theorem dX12_restore_31 : decode cX12_restore 31 = .ok (.aload_n 0, 1) := by decide +kernel
theorem dX12_restore_32 : decode cX12_restore 32 = .ok (.getfield 487, 3) := by decide +kernel
theorem dX12_restore_35 : decode cX12_restore 35 = .ok (.putfield 348, 3) := by decide +kernel
theorem dX12_restore_38 : decode cX12_restore 38 = .ok (.aload_n 0, 1) := by decide +kernel
theorem dX12_restore_39 : decode cX12_restore 39 = .ok (.aload_n 0, 1) := by decide +kernel
theorem dX12_restore_40 : decode cX12_restore 40 = .ok (.getfield 168, 3) := by decide +kernel
theorem dX12_restore_43 : decode cX12_restore 43 = .ok (.aload_n 0, 1) := by decide +kernel
theorem dX12_restore_44 : decode cX12_restore 44 = .ok (.getfield 50, 3) := by decide +kernel
theorem dX12_restore_47 : decode cX12_restore 47 = .ok (.invokevirtual 341, 3) := by decide +kernel
theorem dX12_restore_50 : decode cX12_restore 50 = .ok (.aload_n 0, 1) := by decide +kernel
theorem dX12_restore_51 : decode cX12_restore 51 = .ok (.aload_n 0, 1) := by decide +kernel
theorem dX12_restore_52 : decode cX12_restore 52 = .ok (.getfield 171, 3) := by decide +kernel
theorem dX12_restore_55 : decode cX12_restore 55 = .ok (.aload_n 0, 1) := by decide +kernel
theorem dX12_restore_56 : decode cX12_restore 56 = .ok (.getfield 132, 3) := by decide +kernel
theorem dX12_restore_59 : decode cX12_restore 59 = .ok (.invokevirtual 341, 3) := by decide +kernel
theorem dX12_restore_62 : decode cX12_restore 62 = .ok (.aload_n 0, 1) := by decide +kernel
theorem dX12_restore_63 : decode cX12_restore 63 = .ok (.aload_n 0, 1) := by decide +kernel
theorem dX12_restore_64 : decode cX12_restore 64 = .ok (.getfield 174, 3) := by decide +kernel
theorem dX12_restore_67 : decode cX12_restore 67 = .ok (.aload_n 0, 1) := by decide +kernel
theorem dX12_restore_68 : decode cX12_restore 68 = .ok (.getfield 153, 3) := by decide +kernel
theorem dX12_restore_71 : decode cX12_restore 71 = .ok (.invokevirtual 341, 3) := by decide +kernel
theorem dX12_restore_74 : decode cX12_restore 74 = .ok (.iconst 1, 1) := by decide +kernel
theorem dX12_restore_75 : decode cX12_restore 75 = .ok (.ireturn, 1) := by decide +kernel
theorem dX12_restore_12 : decode cX12_restore 12 = .ok (.iconst 0, 1) := by decide +kernel
theorem dX12_restore_13 : decode cX12_restore 13 = .ok (.ireturn, 1) := by decide +kernel
theorem dX12_thrown_0 : decode cX12_thrown 0 = .ok (.aload_n 0, 1) := by decide +kernel
theorem dX12_thrown_1 : decode cX12_thrown 1 = .ok (.getfield 177, 3) := by decide +kernel
theorem dX12_thrown_4 : decode cX12_thrown 4 = .ok (.ireturn, 1) := by decide +kernel
def fX12_see_p35 (fu : Nat) (g : Nat → Nat → Int32) (L : Nat → Nat → Int64) : Option ((Int32) × zS) :=
  cb (fX12_refuses fu 2 g L) (fun x7 g8 L9 =>
  some (x7, (g8, L9)))
def fX12_see (fu : Nat) (p1 : Int32) (p2 : Int32) (g : Nat → Nat → Int32) (L : Nat → Nat → Int64) : Option ((Int32) × zS) :=
  sti g 0 0 0 (fun g1 =>
  cb (fX12_isLesson fu p1 g1 L) (fun x2 g3 L4 =>
  if x2 = 0 then some (0, (g3, L4))
  else if (g3 0 73) = 8 then fX12_see_p35 fu g3 L4
  else cb (fX12_within fu p2 0 999 g3 L4) (fun x12 g13 L14 =>
  if x12 = 0 then fX12_see_p35 fu g13 L14
  else ck (2 * (g13 0 73)) 16 (sti g13 43 (Int32.toNatClampNeg (2 * (g13 0 73))) p1 (fun g17 =>
  ck ((2 * (g17 0 73)) + 1) 16 (sti g17 43 (Int32.toNatClampNeg ((2 * (g17 0 73)) + 1)) p2 (fun g18 =>
  sti g18 0 73 ((g18 0 73) + 1) (fun g19 =>
  some ((g19 0 73), (g19, L14))))))))))
set_option maxHeartbeats 4000000 in
set_option maxRecDepth 100000 in
theorem rX12_see (l : Launch) (G : kG) (sz : Nat) (a : Nat → Nat) (fu : Nat) (g : Nat → Nat → Int32) (L : Nat → Nat → Int64) (p1 : Int32) (p2 : Int32) (res : Int32) (s9 : zS) (h : fX12_see fu p1 p2 g L = some (res, s9)) : kM l yX12_see cX12_see 3 (some .int) { frames := 8, cells := 0, slots := 0, locals := 153 } G [.ref (a 0), .int p1, .int p2] (zw G MS 51 a g L) sz (kQi G (S := Unit) (fun r' _ => r' = res) (fun _ => zw G MS 51 a s9.1 s9.2)) := by
  refine kM.of (by decide) (Nat.le_of_ble_eq_true rfl) ?_
  intro p e s m below meth c A ls H C hr hlk hnm hP hD hS hl
  have C : kC G p s m c cX12_see 3 RX12 A := C
  have hx := C.1
  have hb := C.2.1
  have hl : lv_has ls 3 [(0, .ref (a 0)), (1, .int p1), (2, .int p2)] := hl
  obtain ⟨locs, hlocs⟩ : ∃ q : List Loc, q = [] := ⟨_, rfl⟩
  rw [← hlocs] at hS
  rw [← hlocs]
  unfold fX12_see at h
  refine lv_aload_n hx hb dX12_see_0 rfl (lv_at hl 0 rfl) ?_
  refine lv_iconst (v := 0) hx hb dX12_see_1 (by decide) ?_
  refine y_puti (Or.inl fl_X12_177) ft_X12_0 C hP hD hS (by decide) ms_0 rfl rfl rfl dX12_see_2 h (fun g1 H locs h hP hD hS => ?_)
  refine lv_aload_n hx hb dX12_see_5 rfl (lv_at hl 0 rfl) ?_
  refine lv_iload_n hx hb dX12_see_6 rfl (lv_at hl 1 rfl) ?_
  obtain ⟨z_, g3, L4, hf5, h⟩ := cb_some h
  refine x_callVi (rest := []) li_X12_402 C (rX12_isLesson l G H.size a fu g1 L p1 z_ (g3, L4) hf5) (kR rfl) hP hD hS 0 12 rfl (zat (by decide) ms_0) rfl hl.1 rfl (Nat.le_of_ble_eq_true rfl) dX12_see_7 (fun x2 u_ H locs e_ hP hD hS => ?_)
  have e_ : x2 = z_ := e_
  subst e_
  have hP : va_P G.1 vwCl (zw G MS 51 a g3 L4) H := hP
  have hD : va_D A (zw G MS 51 a g3 L4) := hD
  refine lv_if_ne (x := x2) (tgt := 15) hx hb dX12_see_10 (by decide) (fun c6 => ?_) (fun c6 => ?_)
  ·
    have h := ite_e c6 h
    refine lv_aload_n hx hb dX12_see_15 rfl (lv_at hl 0 rfl) ?_
    refine x_getv (v := .int (g3 0 73)) (Or.inl fl_X12_348) C hP (by decide) ms_0 rfl dX12_see_16 ?_
    refine lv_bipush (v := 8) hx hb dX12_see_19 (by decide) ?_
    have J35 : ∀ (g : Nat → Nat → Int32) (L : Nat → Nat → Int64) (H : Heap) (locs : List Loc) (ls : Array Slot), fX12_see_p35 fu g L = some (res, s9) → va_P G.1 vwCl (zw G MS 51 a g L) H → va_D A (zw G MS 51 a g L) → va_S A s.heap H locs → lv_has ls 3 [(0, .ref (a 0))] → W p l e { frames := 8, cells := 0, slots := 0, locals := 153 } s m [.ref (a 0), .int p1, .int p2].toArray below meth c H locs 0 0 (MQ below ((kQi G (S := Unit) (fun r' _ => r' = res) (fun _ => zw G MS 51 a s9.1 s9.2)) A) [.ref (a 0), .int p1, .int p2].toArray s 0 0 A) (F0 m 35 ls []) := by
      intro g L H locs ls h hP hD hS hl
      unfold fX12_see_p35 at h
      refine lv_aload_n hx hb dX12_see_35 rfl (lv_at hl 0 rfl) ?_
      refine lv_iconst (v := 2) hx hb dX12_see_36 (by decide) ?_
      obtain ⟨z_, g8, L9, hf10, h⟩ := cb_some h
      refine x_callVi (rest := []) li_X12_411 C (rX12_refuses l G H.size a fu g L 2 z_ (g8, L9) hf10) (kR rfl) hP hD hS 0 12 rfl (zat (by decide) ms_0) rfl hl.1 rfl (Nat.le_of_ble_eq_true rfl) dX12_see_37 (fun x7 u_ H locs e_ hP hD hS => ?_)
      have e_ : x7 = z_ := e_
      subst e_
      have hP : va_P G.1 vwCl (zw G MS 51 a g8 L9) H := hP
      have hD : va_D A (zw G MS 51 a g8 L9) := hD
      exact y_iret C hr hlk hP hD hS h (Nat.le_of_ble_eq_true rfl) (Nat.le_of_ble_eq_true rfl) dX12_see_40
    refine lv_icmp_eq (x := (g3 0 73)) (y := 8) (tgt := 35) hx hb dX12_see_21 (by decide) (fun c11 => ?_) (fun c11 => ?_)
    ·
      have h := ite_t c11 h
      exact J35 g3 L4 H locs ls h hP hD hS (lv_sub hl [0] rfl)
    ·
      have h := ite_e c11 h
      refine lv_iload_n hx hb dX12_see_24 rfl (lv_at hl 2 rfl) ?_
      refine lv_iconst (v := 0) hx hb dX12_see_25 (by decide) ?_
      refine lv_sipush (v := 999) hx hb dX12_see_26 (by decide) ?_
      obtain ⟨z_, g13, L14, hf15, h⟩ := cb_some h
      refine x_callSi (rest := []) li_X12_392 C (rX12_within l G H.size a fu g3 L4 p2 0 999 z_ (g13, L14) hf15) (kR rfl) hP hD hS rfl hl.1 rfl (Nat.le_of_ble_eq_true rfl) dX12_see_29 (fun x12 u_ H locs e_ hP hD hS => ?_)
      have e_ : x12 = z_ := e_
      subst e_
      have hP : va_P G.1 vwCl (zw G MS 51 a g13 L14) H := hP
      have hD : va_D A (zw G MS 51 a g13 L14) := hD
      refine lv_if_ne (x := x12) (tgt := 41) hx hb dX12_see_32 (by decide) (fun c16 => ?_) (fun c16 => ?_)
      ·
        have h := ite_e c16 h
        refine lv_aload_n hx hb dX12_see_41 rfl (lv_at hl 0 rfl) ?_
        refine x_getr (Or.inl fl_X12_153) C hP (by decide) ms_0 rfl dX12_see_42 ?_
        refine lv_iconst (v := 2) hx hb dX12_see_45 (by decide) ?_
        refine lv_aload_n hx hb dX12_see_46 rfl (lv_at hl 0 rfl) ?_
        refine x_getv (v := .int (g13 0 73)) (Or.inl fl_X12_348) C hP (by decide) ms_0 rfl dX12_see_47 ?_
        refine lv_imul hx hb dX12_see_50 ?_
        refine lv_iload_n hx hb dX12_see_51 rfl (lv_at hl 1 rfl) ?_
        refine y_ast C hP hD hS (by decide) ms_43 dX12_see_52 h (fun g17 H locs h hP hD hS => ?_)
        refine lv_aload_n hx hb dX12_see_53 rfl (lv_at hl 0 rfl) ?_
        refine x_getr (Or.inl fl_X12_153) C hP (by decide) ms_0 rfl dX12_see_54 ?_
        refine lv_iconst (v := 2) hx hb dX12_see_57 (by decide) ?_
        refine lv_aload_n hx hb dX12_see_58 rfl (lv_at hl 0 rfl) ?_
        refine x_getv (v := .int (g17 0 73)) (Or.inl fl_X12_348) C hP (by decide) ms_0 rfl dX12_see_59 ?_
        refine lv_imul hx hb dX12_see_62 ?_
        refine lv_iconst (v := 1) hx hb dX12_see_63 (by decide) ?_
        refine lv_iadd hx hb dX12_see_64 ?_
        refine lv_iload_n hx hb dX12_see_65 rfl (lv_at hl 2 rfl) ?_
        refine y_ast C hP hD hS (by decide) ms_43 dX12_see_66 h (fun g18 H locs h hP hD hS => ?_)
        refine lv_aload_n hx hb dX12_see_67 rfl (lv_at hl 0 rfl) ?_
        refine lv_dup hx hb dX12_see_68 rfl ?_
        refine x_getv (v := .int (g18 0 73)) (Or.inl fl_X12_348) C hP (by decide) ms_0 rfl dX12_see_69 ?_
        refine lv_iconst (v := 1) hx hb dX12_see_72 (by decide) ?_
        refine lv_iadd hx hb dX12_see_73 ?_
        refine y_puti (Or.inl fl_X12_348) ft_X12_73 C hP hD hS (by decide) ms_0 rfl rfl rfl dX12_see_74 h (fun g19 H locs h hP hD hS => ?_)
        refine lv_aload_n hx hb dX12_see_77 rfl (lv_at hl 0 rfl) ?_
        refine x_getv (v := .int (g19 0 73)) (Or.inl fl_X12_348) C hP (by decide) ms_0 rfl dX12_see_78 ?_
        exact y_iret C hr hlk hP hD hS h (Nat.le_of_ble_eq_true rfl) (Nat.le_of_ble_eq_true rfl) dX12_see_81
      ·
        have h := ite_t c16 h
        exact J35 g13 L14 H locs ls h hP hD hS (lv_sub hl [0] rfl)
  ·
    have h := ite_t c6 h
    refine lv_iconst (v := 0) hx hb dX12_see_13 (by decide) ?_
    exact y_iret C hr hlk hP hD hS h (Nat.le_of_ble_eq_true rfl) (Nat.le_of_ble_eq_true rfl) dX12_see_14
def fX12_forget (fu : Nat) (g : Nat → Nat → Int32) (L : Nat → Nat → Int64) : Option ((Unit) × zS) :=
  sti g 0 0 0 (fun g1 =>
  sti g1 0 73 0 (fun g2 =>
  some ((), (g2, L))))
set_option maxHeartbeats 4000000 in
set_option maxRecDepth 100000 in
theorem rX12_forget (l : Launch) (G : kG) (sz : Nat) (a : Nat → Nat) (fu : Nat) (g : Nat → Nat → Int32) (L : Nat → Nat → Int64) (res : Unit) (s9 : zS) (h : fX12_forget fu g L = some (res, s9)) : kM l yX12_forget cX12_forget 1 none { frames := 6, cells := 0, slots := 0, locals := 110 } G [.ref (a 0)] (zw G MS 51 a g L) sz (kQv G (S := Unit) (fun _ => True) (fun _ => zw G MS 51 a s9.1 s9.2)) := by
  refine kM.of (by decide) (Nat.le_of_ble_eq_true rfl) ?_
  intro p e s m below meth c A ls H C hr hlk hnm hP hD hS hl
  have C : kC G p s m c cX12_forget 1 RX12 A := C
  have hx := C.1
  have hb := C.2.1
  have hl : lv_has ls 1 [(0, .ref (a 0))] := hl
  obtain ⟨locs, hlocs⟩ : ∃ q : List Loc, q = [] := ⟨_, rfl⟩
  rw [← hlocs] at hS
  rw [← hlocs]
  unfold fX12_forget at h
  refine lv_aload_n hx hb dX12_forget_0 rfl (lv_at hl 0 rfl) ?_
  refine lv_iconst (v := 0) hx hb dX12_forget_1 (by decide) ?_
  refine y_puti (Or.inl fl_X12_177) ft_X12_0 C hP hD hS (by decide) ms_0 rfl rfl rfl dX12_forget_2 h (fun g1 H locs h hP hD hS => ?_)
  refine lv_aload_n hx hb dX12_forget_5 rfl (lv_at hl 0 rfl) ?_
  refine lv_iconst (v := 0) hx hb dX12_forget_6 (by decide) ?_
  refine y_puti (Or.inl fl_X12_348) ft_X12_73 C hP hD hS (by decide) ms_0 rfl rfl rfl dX12_forget_7 h (fun g2 H locs h hP hD hS => ?_)
  exact y_vret C hr hlk hP hD hS h (Nat.le_of_ble_eq_true rfl) (Nat.le_of_ble_eq_true rfl) dX12_forget_10
def fX12_isSeen_s6 (fu : Nat) (k6 : Int32 × (Nat → Nat → Int32) × (Nat → Nat → Int64) → Option ((Int32) × zS)) (v1 : Int32) (g : Nat → Nat → Int32) (L : Nat → Nat → Int64) : Option ((Int32) × zS) :=
  if (g 0 73) ≤ v1 then ckb 1 (some (1, (g, L)))
  else ck (2 * v1) 16 (
  cb (fX12_late fu (g 43 (Int32.toNatClampNeg (2 * v1))) g L) (fun x6 g7 L8 =>
  ck ((2 * v1) + 1) 16 (
  if x6 = (g7 43 (Int32.toNatClampNeg ((2 * v1) + 1))) then k6 ((v1 + 1), g7, L8)
  else ckb 0 (some (0, (g7, L8))))))
def fX12_isSeen_l6 (fu : Nat) (v1 : Int32) (g : Nat → Nat → Int32) (L : Nat → Nat → Int64) : Option ((Int32) × zS) :=
  whileK (fun k v => fX12_isSeen_s6 fu k v.1 v.2.1 v.2.2) fu (v1, g, L)
def fX12_isSeen (fu : Nat) (g : Nat → Nat → Int32) (L : Nat → Nat → Int64) : Option ((Int32) × zS) :=
  cb (fX12_works0 fu g L) (fun x1 g2 L3 =>
  fX12_isSeen_l6 fu 0 g2 L3)
set_option maxHeartbeats 4000000 in
set_option maxRecDepth 100000 in
theorem rX12_isSeen (l : Launch) (G : kG) (sz : Nat) (a : Nat → Nat) (fu : Nat) (g : Nat → Nat → Int32) (L : Nat → Nat → Int64) (res : Int32) (s9 : zS) (h : fX12_isSeen fu g L = some (res, s9)) : kM l yX12_isSeen cX12_isSeen 2 (some .boolean) { frames := 11, cells := 0, slots := 0, locals := 228 } G [.ref (a 0)] (zw G MS 51 a g L) sz (kQi G (S := Unit) (fun r' _ => r' = res) (fun _ => zw G MS 51 a s9.1 s9.2)) := by
  refine kM.of (by decide) (Nat.le_of_ble_eq_true rfl) ?_
  intro p e s m below meth c A ls H C hr hlk hnm hP hD hS hl
  have C : kC G p s m c cX12_isSeen 2 RX12 A := C
  have hx := C.1
  have hb := C.2.1
  have hl : lv_has ls 2 [(0, .ref (a 0))] := hl
  obtain ⟨locs, hlocs⟩ : ∃ q : List Loc, q = [] := ⟨_, rfl⟩
  rw [← hlocs] at hS
  rw [← hlocs]
  unfold fX12_isSeen at h
  refine lv_aload_n hx hb dX12_isSeen_0 rfl (lv_at hl 0 rfl) ?_
  obtain ⟨z_, g2, L3, hf4, h⟩ := cb_some h
  refine x_callVv (rest := []) li_X12_386 C (rX12_works0 l G H.size a fu g L z_ (g2, L3) hf4) (kR rfl) hP hD hS 0 12 rfl (zat (by decide) ms_0) rfl hl.1 rfl (Nat.le_of_ble_eq_true rfl) dX12_isSeen_1 (fun u_ H locs e_ hP hD hS => ?_)
  have hP : va_P G.1 vwCl (zw G MS 51 a g2 L3) H := hP
  have hD : va_D A (zw G MS 51 a g2 L3) := hD
  refine lv_iconst (v := 0) hx hb dX12_isSeen_4 (by decide) ?_
  refine lv_istore_n (lv' := [(1, .int 0), (0, .ref (a 0))]) hx hb dX12_isSeen_5 rfl hl (by decide) rfl (fun ls hl => ?_)
  have lp6 : ∀ (_ : True), ∀ (n : Nat) (v : Int32 × (Nat → Nat → Int32) × (Nat → Nat → Int64)), whileK (fun k v => fX12_isSeen_s6 fu k v.1 v.2.1 v.2.2) n v = some (res, s9) → ∀ (H : Heap) (locs : List Loc) (ls : Array Slot), va_P G.1 vwCl (zw G MS 51 a (v.2.1) (v.2.2)) H → va_D A (zw G MS 51 a (v.2.1) (v.2.2)) → va_S A s.heap H locs → lv_has ls 2 [(0, .ref (a 0)), (1, .int (v.1))] → W p l e { frames := 11, cells := 0, slots := 0, locals := 228 } s m [.ref (a 0)].toArray below meth c H locs 0 0 (MQ below ((kQi G (S := Unit) (fun r' _ => r' = res) (fun _ => zw G MS 51 a s9.1 s9.2)) A) [.ref (a 0)].toArray s 0 0 A) (F0 m 6 ls []) := by
    intro _
    refine while_ind (fun k6 ih6 v h => ?_)
    obtain ⟨v1, g, L⟩ := v
    intro H locs ls hP hD hS hl
    have h : fX12_isSeen_s6 fu k6 v1 g L = some (res, s9) := h
    have hP : va_P G.1 vwCl (zw G MS 51 a g L) H := hP
    have hD : va_D A (zw G MS 51 a g L) := hD
    have hl : lv_has ls 2 [(0, .ref (a 0)), (1, .int v1)] := hl
    show W p l e { frames := 11, cells := 0, slots := 0, locals := 228 } s m [.ref (a 0)].toArray below meth c H locs 0 0 (MQ below ((kQi G (S := Unit) (fun r' _ => r' = res) (fun _ => zw G MS 51 a s9.1 s9.2)) A) [.ref (a 0)].toArray s 0 0 A) (F0 m 6 ls [])
    unfold fX12_isSeen_s6 at h
    refine lv_iload_n hx hb dX12_isSeen_6 rfl (lv_at hl 1 rfl) ?_
    refine lv_aload_n hx hb dX12_isSeen_7 rfl (lv_at hl 0 rfl) ?_
    refine x_getv (v := .int (g 0 73)) (Or.inl fl_X12_348) C hP (by decide) ms_0 rfl dX12_isSeen_8 ?_
    refine lv_icmp_ge (x := v1) (y := (g 0 73)) (tgt := 47) hx hb dX12_isSeen_11 (by decide) (fun c5 => ?_) (fun c5 => ?_)
    ·
      have h := ite_t c5 h
      refine lv_iconst (v := 1) hx hb dX12_isSeen_47 (by decide) ?_
      exact y_zret C hr hlk hP hD hS h (Nat.le_of_ble_eq_true rfl) (Nat.le_of_ble_eq_true rfl) dX12_isSeen_48
    ·
      have h := ite_e c5 h
      refine lv_aload_n hx hb dX12_isSeen_14 rfl (lv_at hl 0 rfl) ?_
      refine lv_aload_n hx hb dX12_isSeen_15 rfl (lv_at hl 0 rfl) ?_
      refine x_getr (Or.inl fl_X12_153) C hP (by decide) ms_0 rfl dX12_isSeen_16 ?_
      refine lv_iconst (v := 2) hx hb dX12_isSeen_19 (by decide) ?_
      refine lv_iload_n hx hb dX12_isSeen_20 rfl (lv_at hl 1 rfl) ?_
      refine lv_imul hx hb dX12_isSeen_21 ?_
      refine y_ald C hP (by decide) ms_43 dX12_isSeen_22 h (fun h => ?_)
      obtain ⟨z_, g7, L8, hf9, h⟩ := cb_some h
      refine x_callVi (rest := []) li_X12_389 C (rX12_late l G H.size a fu g L (g 43 (Int32.toNatClampNeg (2 * v1))) z_ (g7, L8) hf9) (kR rfl) hP hD hS 0 12 rfl (zat (by decide) ms_0) rfl hl.1 rfl (Nat.le_of_ble_eq_true rfl) dX12_isSeen_23 (fun x6 u_ H locs e_ hP hD hS => ?_)
      have e_ : x6 = z_ := e_
      subst e_
      have hP : va_P G.1 vwCl (zw G MS 51 a g7 L8) H := hP
      have hD : va_D A (zw G MS 51 a g7 L8) := hD
      refine lv_aload_n hx hb dX12_isSeen_26 rfl (lv_at hl 0 rfl) ?_
      refine x_getr (Or.inl fl_X12_153) C hP (by decide) ms_0 rfl dX12_isSeen_27 ?_
      refine lv_iconst (v := 2) hx hb dX12_isSeen_30 (by decide) ?_
      refine lv_iload_n hx hb dX12_isSeen_31 rfl (lv_at hl 1 rfl) ?_
      refine lv_imul hx hb dX12_isSeen_32 ?_
      refine lv_iconst (v := 1) hx hb dX12_isSeen_33 (by decide) ?_
      refine lv_iadd hx hb dX12_isSeen_34 ?_
      refine y_ald C hP (by decide) ms_43 dX12_isSeen_35 h (fun h => ?_)
      refine lv_icmp_eq (x := x6) (y := (g7 43 (Int32.toNatClampNeg ((2 * v1) + 1)))) (tgt := 41) hx hb dX12_isSeen_36 (by decide) (fun c10 => ?_) (fun c10 => ?_)
      ·
        have h := ite_t c10 h
        refine lv_iinc (v := (v1 + 1)) (lv' := [(1, .int (v1 + 1)), (0, .ref (a 0))]) hx hb dX12_isSeen_41 hl (k := 1) rfl rfl (by decide) rfl (fun ls hl => ?_)
        refine lv_goto (tgt := 6) hx hb dX12_isSeen_44 (by decide) ?_
        exact ih6 ((v1 + 1), g7, L8) h H locs ls hP hD hS (lv_sub hl [1, 0] rfl)
      ·
        have h := ite_e c10 h
        refine lv_iconst (v := 0) hx hb dX12_isSeen_39 (by decide) ?_
        exact y_zret C hr hlk hP hD hS h (Nat.le_of_ble_eq_true rfl) (Nat.le_of_ble_eq_true rfl) dX12_isSeen_40
  exact lp6 trivial fu (0, g2, L3) h H locs ls hP hD hS (lv_sub hl [1, 0] rfl)
def fX12_fits_p177 (fu : Nat) (t0 : Int32) (g : Nat → Nat → Int32) (L : Nat → Nat → Int64) : Option ((Int32) × zS) :=
  some (t0, (g, L))
def fX12_fits_p126 (fu : Nat) (k29 : Int32 × Int32 × Int32 × Int32 × Int32 × (Nat → Nat → Int32) × (Nat → Nat → Int64) → Option ((Int32) × zS)) (k52 : Int32 × Int32 × Int32 × Int32 × Int32 × (Nat → Nat → Int32) × (Nat → Nat → Int64) → Option ((Int32) × zS)) (v1 : Int32) (v2 : Int32) (v3 : Int32) (v4 : Int32) (v5 : Int32) (v6 : Int32) (v7 : Int32) (v8 : Int32) (g : Nat → Nat → Int32) (L : Nat → Nat → Int64) : Option ((Int32) × zS) :=
  k52 (v2, v3, v4, v5, (v8 + 1), g, L)
def fX12_fits_p120 (fu : Nat) (k29 : Int32 × Int32 × Int32 × Int32 × Int32 × (Nat → Nat → Int32) × (Nat → Nat → Int64) → Option ((Int32) × zS)) (k52 : Int32 × Int32 × Int32 × Int32 × Int32 × (Nat → Nat → Int32) × (Nat → Nat → Int64) → Option ((Int32) × zS)) (v1 : Int32) (v2 : Int32) (v3 : Int32) (v6 : Int32) (v7 : Int32) (v8 : Int32) (t0 : Int32) (g : Nat → Nat → Int32) (L : Nat → Nat → Int64) : Option ((Int32) × zS) :=
  fX12_fits_p126 fu k29 k52 v1 v2 v3 v6 t0 v6 v7 v8 g L
def fX12_fits_p119 (fu : Nat) (k29 : Int32 × Int32 × Int32 × Int32 × Int32 × (Nat → Nat → Int32) × (Nat → Nat → Int64) → Option ((Int32) × zS)) (k52 : Int32 × Int32 × Int32 × Int32 × Int32 × (Nat → Nat → Int32) × (Nat → Nat → Int64) → Option ((Int32) × zS)) (v1 : Int32) (v2 : Int32) (v3 : Int32) (v6 : Int32) (v7 : Int32) (v8 : Int32) (g : Nat → Nat → Int32) (L : Nat → Nat → Int64) : Option ((Int32) × zS) :=
  fX12_fits_p120 fu k29 k52 v1 v2 v3 v6 v7 v8 0 g L
def fX12_fits_p115 (fu : Nat) (k29 : Int32 × Int32 × Int32 × Int32 × Int32 × (Nat → Nat → Int32) × (Nat → Nat → Int64) → Option ((Int32) × zS)) (k52 : Int32 × Int32 × Int32 × Int32 × Int32 × (Nat → Nat → Int32) × (Nat → Nat → Int64) → Option ((Int32) × zS)) (v1 : Int32) (v2 : Int32) (v3 : Int32) (v6 : Int32) (v7 : Int32) (v8 : Int32) (g : Nat → Nat → Int32) (L : Nat → Nat → Int64) : Option ((Int32) × zS) :=
  fX12_fits_p120 fu k29 k52 v1 v2 v3 v6 v7 v8 1 g L
def fX12_fits_p97 (fu : Nat) (k29 : Int32 × Int32 × Int32 × Int32 × Int32 × (Nat → Nat → Int32) × (Nat → Nat → Int64) → Option ((Int32) × zS)) (k52 : Int32 × Int32 × Int32 × Int32 × Int32 × (Nat → Nat → Int32) × (Nat → Nat → Int64) → Option ((Int32) × zS)) (v1 : Int32) (v2 : Int32) (v3 : Int32) (v4 : Int32) (v5 : Int32) (v6 : Int32) (v7 : Int32) (v8 : Int32) (g : Nat → Nat → Int32) (L : Nat → Nat → Int64) : Option ((Int32) × zS) :=
  if v5 = 0 then fX12_fits_p119 fu k29 k52 v1 v2 v3 v6 v7 v8 g L
  else if (v4 : Int32) = (-1) then fX12_fits_p115 fu k29 k52 v1 v2 v3 v6 v7 v8 g L
  else if (v4 : Int32) = v6 then fX12_fits_p115 fu k29 k52 v1 v2 v3 v6 v7 v8 g L
  else fX12_fits_p119 fu k29 k52 v1 v2 v3 v6 v7 v8 g L
def fX12_fits_s52 (fu : Nat) (k29 : Int32 × Int32 × Int32 × Int32 × Int32 × (Nat → Nat → Int32) × (Nat → Nat → Int64) → Option ((Int32) × zS)) (v1 : Int32) (v6 : Int32) (v7 : Int32) (k52 : Int32 × Int32 × Int32 × Int32 × Int32 × (Nat → Nat → Int32) × (Nat → Nat → Int64) → Option ((Int32) × zS)) (v2 : Int32) (v3 : Int32) (v4 : Int32) (v5 : Int32) (v8 : Int32) (g : Nat → Nat → Int32) (L : Nat → Nat → Int64) : Option ((Int32) × zS) :=
  if 30 < (v8 : Int32) then ck (0 + v6) 48 (sti g 12 (Int32.toNatClampNeg (0 + v6)) v7 (fun g13 =>
  k29 (v2, v3, v4, v5, (v6 + 1), g13, L)))
  else ck (0 + v6) 48 (sti g 12 (Int32.toNatClampNeg (0 + v6)) v8 (fun g14 =>
  cb (fX12_isSeen fu g14 L) (fun x15 g16 L17 =>
  if x15 = 0 then fX12_fits_p126 fu k29 k52 v1 v2 v3 v4 v5 v6 v7 v8 g16 L17
  else if (v3 : Int32) = (-1) then lti ((100 * v6) + v8) (fun x24 =>
  fX12_fits_p97 fu k29 k52 v1 (v2 + 1) x24 v4 v5 v6 v7 v8 g16 L17)
  else fX12_fits_p97 fu k29 k52 v1 (v2 + 1) v3 v4 v5 v6 v7 v8 g16 L17)))
def fX12_fits_l52 (fu : Nat) (k29 : Int32 × Int32 × Int32 × Int32 × Int32 × (Nat → Nat → Int32) × (Nat → Nat → Int64) → Option ((Int32) × zS)) (v1 : Int32) (v6 : Int32) (v7 : Int32) (v2 : Int32) (v3 : Int32) (v4 : Int32) (v5 : Int32) (v8 : Int32) (g : Nat → Nat → Int32) (L : Nat → Nat → Int64) : Option ((Int32) × zS) :=
  whileK (fun k v => fX12_fits_s52 fu k29 v1 v6 v7 k v.1 v.2.1 v.2.2.1 v.2.2.2.1 v.2.2.2.2.1 v.2.2.2.2.2.1 v.2.2.2.2.2.2) fu (v2, v3, v4, v5, v8, g, L)
def fX12_fits_s29 (fu : Nat) (v1 : Int32) (k29 : Int32 × Int32 × Int32 × Int32 × Int32 × (Nat → Nat → Int32) × (Nat → Nat → Int64) → Option ((Int32) × zS)) (v2 : Int32) (v3 : Int32) (v4 : Int32) (v5 : Int32) (v6 : Int32) (g : Nat → Nat → Int32) (L : Nat → Nat → Int64) : Option ((Int32) × zS) :=
  if (g 0 1) ≤ v6 then (if v1 = 0 then fX12_fits_p177 fu v2 g L
  else if (v1 : Int32) = 1 then fX12_fits_p177 fu v3 g L
  else if v5 = 0 then fX12_fits_p177 fu (-1) g L
  else fX12_fits_p177 fu v4 g L)
  else ck (0 + v6) 48 (
  lti (g 12 (Int32.toNatClampNeg (0 + v6))) (fun x11 =>
  fX12_fits_l52 fu k29 v1 v6 x11 v2 v3 v4 v5 0 g L))
def fX12_fits_l29 (fu : Nat) (v1 : Int32) (v2 : Int32) (v3 : Int32) (v4 : Int32) (v5 : Int32) (v6 : Int32) (g : Nat → Nat → Int32) (L : Nat → Nat → Int64) : Option ((Int32) × zS) :=
  whileK (fun k v => fX12_fits_s29 fu v1 k v.1 v.2.1 v.2.2.1 v.2.2.2.1 v.2.2.2.2.1 v.2.2.2.2.2.1 v.2.2.2.2.2.2) fu (v2, v3, v4, v5, v6, g, L)
def fX12_fits (fu : Nat) (p1 : Int32) (g : Nat → Nat → Int32) (L : Nat → Nat → Int64) : Option ((Int32) × zS) :=
  sti g 0 0 0 (fun g1 =>
  cb (fX12_isWhat fu p1 2 g1 L) (fun x2 g3 L4 =>
  if x2 = 0 then some (0, (g3, L4))
  else fX12_fits_l29 fu p1 0 (-1) (-1) 1 0 g3 L4))
set_option maxHeartbeats 4000000 in
set_option maxRecDepth 100000 in
theorem rX12_fits (l : Launch) (G : kG) (sz : Nat) (a : Nat → Nat) (fu : Nat) (g : Nat → Nat → Int32) (L : Nat → Nat → Int64) (p1 : Int32) (res : Int32) (s9 : zS) (h : fX12_fits fu p1 g L = some (res, s9)) : kM l yX12_fits cX12_fits 9 (some .int) { frames := 12, cells := 0, slots := 0, locals := 249 } G [.ref (a 0), .int p1] (zw G MS 51 a g L) sz (kQi G (S := Unit) (fun r' _ => r' = res) (fun _ => zw G MS 51 a s9.1 s9.2)) := by
  refine kM.of (by decide) (Nat.le_of_ble_eq_true rfl) ?_
  intro p e s m below meth c A ls H C hr hlk hnm hP hD hS hl
  have C : kC G p s m c cX12_fits 9 RX12 A := C
  have hx := C.1
  have hb := C.2.1
  have hl : lv_has ls 9 [(0, .ref (a 0)), (1, .int p1)] := hl
  obtain ⟨locs, hlocs⟩ : ∃ q : List Loc, q = [] := ⟨_, rfl⟩
  rw [← hlocs] at hS
  rw [← hlocs]
  unfold fX12_fits at h
  refine lv_aload_n hx hb dX12_fits_0 rfl (lv_at hl 0 rfl) ?_
  refine lv_iconst (v := 0) hx hb dX12_fits_1 (by decide) ?_
  refine y_puti (Or.inl fl_X12_177) ft_X12_0 C hP hD hS (by decide) ms_0 rfl rfl rfl dX12_fits_2 h (fun g1 H locs h hP hD hS => ?_)
  refine lv_aload_n hx hb dX12_fits_5 rfl (lv_at hl 0 rfl) ?_
  refine lv_iload_n hx hb dX12_fits_6 rfl (lv_at hl 1 rfl) ?_
  refine lv_iconst (v := 2) hx hb dX12_fits_7 (by decide) ?_
  obtain ⟨z_, g3, L4, hf5, h⟩ := cb_some h
  refine x_callVi (rest := []) li_X12_405 C (rX12_isWhat l G H.size a fu g1 L p1 2 z_ (g3, L4) hf5) (kR rfl) hP hD hS 0 12 rfl (zat (by decide) ms_0) rfl hl.1 rfl (Nat.le_of_ble_eq_true rfl) dX12_fits_8 (fun x2 u_ H locs e_ hP hD hS => ?_)
  have e_ : x2 = z_ := e_
  subst e_
  have hP : va_P G.1 vwCl (zw G MS 51 a g3 L4) H := hP
  have hD : va_D A (zw G MS 51 a g3 L4) := hD
  refine lv_if_ne (x := x2) (tgt := 16) hx hb dX12_fits_11 (by decide) (fun c6 => ?_) (fun c6 => ?_)
  ·
    have h := ite_e c6 h
    refine lv_iconst (v := 0) hx hb dX12_fits_16 (by decide) ?_
    refine lv_istore_n (lv' := [(2, .int 0), (0, .ref (a 0)), (1, .int p1)]) hx hb dX12_fits_17 rfl hl (by decide) rfl (fun ls hl => ?_)
    refine lv_iconst (v := -1) hx hb dX12_fits_18 (by decide) ?_
    refine lv_istore_n (lv' := [(3, .int (-1)), (2, .int 0), (0, .ref (a 0)), (1, .int p1)]) hx hb dX12_fits_19 rfl hl (by decide) rfl (fun ls hl => ?_)
    refine lv_iconst (v := -1) hx hb dX12_fits_20 (by decide) ?_
    refine lv_istore (lv' := [(4, .int (-1)), (3, .int (-1)), (2, .int 0), (0, .ref (a 0)), (1, .int p1)]) hx hb dX12_fits_21 hl (by decide) rfl (fun ls hl => ?_)
    refine lv_iconst (v := 1) hx hb dX12_fits_23 (by decide) ?_
    refine lv_istore (lv' := [(5, .int 1), (4, .int (-1)), (3, .int (-1)), (2, .int 0), (0, .ref (a 0)), (1, .int p1)]) hx hb dX12_fits_24 hl (by decide) rfl (fun ls hl => ?_)
    refine lv_iconst (v := 0) hx hb dX12_fits_26 (by decide) ?_
    refine lv_istore (lv' := [(6, .int 0), (5, .int 1), (4, .int (-1)), (3, .int (-1)), (2, .int 0), (0, .ref (a 0)), (1, .int p1)]) hx hb dX12_fits_27 hl (by decide) rfl (fun ls hl => ?_)
    have lp29 : ∀ (v1 : Int32), ∀ (n : Nat) (v : Int32 × Int32 × Int32 × Int32 × Int32 × (Nat → Nat → Int32) × (Nat → Nat → Int64)), whileK (fun k v => fX12_fits_s29 fu v1 k v.1 v.2.1 v.2.2.1 v.2.2.2.1 v.2.2.2.2.1 v.2.2.2.2.2.1 v.2.2.2.2.2.2) n v = some (res, s9) → ∀ (H : Heap) (locs : List Loc) (ls : Array Slot), va_P G.1 vwCl (zw G MS 51 a (v.2.2.2.2.2.1) (v.2.2.2.2.2.2)) H → va_D A (zw G MS 51 a (v.2.2.2.2.2.1) (v.2.2.2.2.2.2)) → va_S A s.heap H locs → lv_has ls 9 [(0, .ref (a 0)), (1, .int v1), (2, .int (v.1)), (3, .int (v.2.1)), (4, .int (v.2.2.1)), (5, .int (v.2.2.2.1)), (6, .int (v.2.2.2.2.1))] → W p l e { frames := 12, cells := 0, slots := 0, locals := 249 } s m [.ref (a 0), .int p1].toArray below meth c H locs 0 0 (MQ below ((kQi G (S := Unit) (fun r' _ => r' = res) (fun _ => zw G MS 51 a s9.1 s9.2)) A) [.ref (a 0), .int p1].toArray s 0 0 A) (F0 m 29 ls []) := by
      intro v1
      refine while_ind (fun k29 ih29 v h => ?_)
      obtain ⟨v2, v3, v4, v5, v6, g, L⟩ := v
      intro H locs ls hP hD hS hl
      have h : fX12_fits_s29 fu v1 k29 v2 v3 v4 v5 v6 g L = some (res, s9) := h
      have hP : va_P G.1 vwCl (zw G MS 51 a g L) H := hP
      have hD : va_D A (zw G MS 51 a g L) := hD
      have hl : lv_has ls 9 [(0, .ref (a 0)), (1, .int v1), (2, .int v2), (3, .int v3), (4, .int v4), (5, .int v5), (6, .int v6)] := hl
      show W p l e { frames := 12, cells := 0, slots := 0, locals := 249 } s m [.ref (a 0), .int p1].toArray below meth c H locs 0 0 (MQ below ((kQi G (S := Unit) (fun r' _ => r' = res) (fun _ => zw G MS 51 a s9.1 s9.2)) A) [.ref (a 0), .int p1].toArray s 0 0 A) (F0 m 29 ls [])
      unfold fX12_fits_s29 at h
      refine lv_iload hx hb dX12_fits_29 (lv_at hl 6 rfl) ?_
      refine lv_aload_n hx hb dX12_fits_31 rfl (lv_at hl 0 rfl) ?_
      refine x_getv (v := .int (g 0 1)) (Or.inl fl_X12_335) C hP (by decide) ms_0 rfl dX12_fits_32 ?_
      refine lv_icmp_ge (x := v6) (y := (g 0 1)) (tgt := 149) hx hb dX12_fits_35 (by decide) (fun c7 => ?_) (fun c7 => ?_)
      ·
        have h := ite_t c7 h
        refine lv_iload_n hx hb dX12_fits_149 rfl (lv_at hl 1 rfl) ?_
        have J177 : ∀ (t0 : Int32) (g : Nat → Nat → Int32) (L : Nat → Nat → Int64) (H : Heap) (locs : List Loc) (ls : Array Slot), fX12_fits_p177 fu t0 g L = some (res, s9) → va_P G.1 vwCl (zw G MS 51 a g L) H → va_D A (zw G MS 51 a g L) → va_S A s.heap H locs → lv_has ls 9 [] → W p l e { frames := 12, cells := 0, slots := 0, locals := 249 } s m [.ref (a 0), .int p1].toArray below meth c H locs 0 0 (MQ below ((kQi G (S := Unit) (fun r' _ => r' = res) (fun _ => zw G MS 51 a s9.1 s9.2)) A) [.ref (a 0), .int p1].toArray s 0 0 A) (F0 m 177 ls [.int t0]) := by
          intro t0 g L H locs ls h hP hD hS hl
          unfold fX12_fits_p177 at h
          exact y_iret C hr hlk hP hD hS h (Nat.le_of_ble_eq_true rfl) (Nat.le_of_ble_eq_true rfl) dX12_fits_177
        refine lv_if_ne (x := v1) (tgt := 157) hx hb dX12_fits_150 (by decide) (fun c8 => ?_) (fun c8 => ?_)
        ·
          have h := ite_e c8 h
          refine lv_iload_n hx hb dX12_fits_157 rfl (lv_at hl 1 rfl) ?_
          refine lv_iconst (v := 1) hx hb dX12_fits_158 (by decide) ?_
          refine lv_icmp_ne (x := v1) (y := 1) (tgt := 166) hx hb dX12_fits_159 (by decide) (fun c9 => ?_) (fun c9 => ?_)
          ·
            have h := ite_e c9 h
            refine lv_iload hx hb dX12_fits_166 (lv_at hl 5 rfl) ?_
            refine lv_if_eq (x := v5) (tgt := 176) hx hb dX12_fits_168 (by decide) (fun c10 => ?_) (fun c10 => ?_)
            ·
              have h := ite_t c10 h
              refine lv_iconst (v := -1) hx hb dX12_fits_176 (by decide) ?_
              exact J177 (-1) g L H locs ls h hP hD hS (lv_sub hl [] rfl)
            ·
              have h := ite_e c10 h
              refine lv_iload hx hb dX12_fits_171 (lv_at hl 4 rfl) ?_
              refine lv_goto (tgt := 177) hx hb dX12_fits_173 (by decide) ?_
              exact J177 v4 g L H locs ls h hP hD hS (lv_sub hl [] rfl)
          ·
            have h := ite_t c9 h
            refine lv_iload_n hx hb dX12_fits_162 rfl (lv_at hl 3 rfl) ?_
            refine lv_goto (tgt := 177) hx hb dX12_fits_163 (by decide) ?_
            exact J177 v3 g L H locs ls h hP hD hS (lv_sub hl [] rfl)
        ·
          have h := ite_t c8 h
          refine lv_iload_n hx hb dX12_fits_153 rfl (lv_at hl 2 rfl) ?_
          refine lv_goto (tgt := 177) hx hb dX12_fits_154 (by decide) ?_
          exact J177 v2 g L H locs ls h hP hD hS (lv_sub hl [] rfl)
      ·
        have h := ite_e c7 h
        refine lv_aload_n hx hb dX12_fits_38 rfl (lv_at hl 0 rfl) ?_
        refine x_getr (Or.inl fl_X12_50) C hP (by decide) ms_0 rfl dX12_fits_39 ?_
        refine lv_iconst (v := 0) hx hb dX12_fits_42 (by decide) ?_
        refine lv_iload hx hb dX12_fits_43 (lv_at hl 6 rfl) ?_
        refine lv_iadd hx hb dX12_fits_45 ?_
        refine y_ald C hP (by decide) ms_12 dX12_fits_46 h (fun h => ?_)
        refine y_let h (fun x11 h => ?_)
        refine lv_istore (lv' := [(7, .int x11), (0, .ref (a 0)), (1, .int v1), (2, .int v2), (3, .int v3), (4, .int v4), (5, .int v5), (6, .int v6)]) hx hb dX12_fits_47 hl (by decide) rfl (fun ls hl => ?_)
        refine lv_iconst (v := 0) hx hb dX12_fits_49 (by decide) ?_
        refine lv_istore (lv' := [(8, .int 0), (7, .int x11), (0, .ref (a 0)), (1, .int v1), (2, .int v2), (3, .int v3), (4, .int v4), (5, .int v5), (6, .int v6)]) hx hb dX12_fits_50 hl (by decide) rfl (fun ls hl => ?_)
        have lp52 : ∀ (v6 : Int32) (v7 : Int32), ∀ (n : Nat) (v : Int32 × Int32 × Int32 × Int32 × Int32 × (Nat → Nat → Int32) × (Nat → Nat → Int64)), whileK (fun k v => fX12_fits_s52 fu k29 v1 v6 v7 k v.1 v.2.1 v.2.2.1 v.2.2.2.1 v.2.2.2.2.1 v.2.2.2.2.2.1 v.2.2.2.2.2.2) n v = some (res, s9) → ∀ (H : Heap) (locs : List Loc) (ls : Array Slot), va_P G.1 vwCl (zw G MS 51 a (v.2.2.2.2.2.1) (v.2.2.2.2.2.2)) H → va_D A (zw G MS 51 a (v.2.2.2.2.2.1) (v.2.2.2.2.2.2)) → va_S A s.heap H locs → lv_has ls 9 [(0, .ref (a 0)), (1, .int v1), (2, .int (v.1)), (3, .int (v.2.1)), (4, .int (v.2.2.1)), (5, .int (v.2.2.2.1)), (6, .int v6), (7, .int v7), (8, .int (v.2.2.2.2.1))] → W p l e { frames := 12, cells := 0, slots := 0, locals := 249 } s m [.ref (a 0), .int p1].toArray below meth c H locs 0 0 (MQ below ((kQi G (S := Unit) (fun r' _ => r' = res) (fun _ => zw G MS 51 a s9.1 s9.2)) A) [.ref (a 0), .int p1].toArray s 0 0 A) (F0 m 52 ls []) := by
          intro v6 v7
          refine while_ind (fun k52 ih52 v h => ?_)
          obtain ⟨v2, v3, v4, v5, v8, g, L⟩ := v
          intro H locs ls hP hD hS hl
          have h : fX12_fits_s52 fu k29 v1 v6 v7 k52 v2 v3 v4 v5 v8 g L = some (res, s9) := h
          have hP : va_P G.1 vwCl (zw G MS 51 a g L) H := hP
          have hD : va_D A (zw G MS 51 a g L) := hD
          have hl : lv_has ls 9 [(0, .ref (a 0)), (1, .int v1), (2, .int v2), (3, .int v3), (4, .int v4), (5, .int v5), (6, .int v6), (7, .int v7), (8, .int v8)] := hl
          show W p l e { frames := 12, cells := 0, slots := 0, locals := 249 } s m [.ref (a 0), .int p1].toArray below meth c H locs 0 0 (MQ below ((kQi G (S := Unit) (fun r' _ => r' = res) (fun _ => zw G MS 51 a s9.1 s9.2)) A) [.ref (a 0), .int p1].toArray s 0 0 A) (F0 m 52 ls [])
          unfold fX12_fits_s52 at h
          refine lv_iload hx hb dX12_fits_52 (lv_at hl 8 rfl) ?_
          refine lv_bipush (v := 30) hx hb dX12_fits_54 (by decide) ?_
          refine lv_icmp_gt (x := v8) (y := 30) (tgt := 132) hx hb dX12_fits_56 (by decide) (fun c12 => ?_) (fun c12 => ?_)
          ·
            have h := ite_t c12 h
            refine lv_aload_n hx hb dX12_fits_132 rfl (lv_at hl 0 rfl) ?_
            refine x_getr (Or.inl fl_X12_50) C hP (by decide) ms_0 rfl dX12_fits_133 ?_
            refine lv_iconst (v := 0) hx hb dX12_fits_136 (by decide) ?_
            refine lv_iload hx hb dX12_fits_137 (lv_at hl 6 rfl) ?_
            refine lv_iadd hx hb dX12_fits_139 ?_
            refine lv_iload hx hb dX12_fits_140 (lv_at hl 7 rfl) ?_
            refine y_ast C hP hD hS (by decide) ms_12 dX12_fits_142 h (fun g13 H locs h hP hD hS => ?_)
            refine lv_iinc (v := (v6 + 1)) (lv' := [(6, .int (v6 + 1)), (0, .ref (a 0)), (1, .int v1), (2, .int v2), (3, .int v3), (4, .int v4), (5, .int v5), (7, .int v7), (8, .int v8)]) hx hb dX12_fits_143 hl (k := 6) rfl rfl (by decide) rfl (fun ls hl => ?_)
            refine lv_goto (tgt := 29) hx hb dX12_fits_146 (by decide) ?_
            exact ih29 (v2, v3, v4, v5, (v6 + 1), g13, L) h H locs ls hP hD hS (lv_sub hl [1, 2, 3, 4, 5, 6, 0] rfl)
          ·
            have h := ite_e c12 h
            refine lv_aload_n hx hb dX12_fits_59 rfl (lv_at hl 0 rfl) ?_
            refine x_getr (Or.inl fl_X12_50) C hP (by decide) ms_0 rfl dX12_fits_60 ?_
            refine lv_iconst (v := 0) hx hb dX12_fits_63 (by decide) ?_
            refine lv_iload hx hb dX12_fits_64 (lv_at hl 6 rfl) ?_
            refine lv_iadd hx hb dX12_fits_66 ?_
            refine lv_iload hx hb dX12_fits_67 (lv_at hl 8 rfl) ?_
            refine y_ast C hP hD hS (by decide) ms_12 dX12_fits_69 h (fun g14 H locs h hP hD hS => ?_)
            refine lv_aload_n hx hb dX12_fits_70 rfl (lv_at hl 0 rfl) ?_
            obtain ⟨z_, g16, L17, hf18, h⟩ := cb_some h
            refine x_callVi (rest := []) li_X12_462 C (rX12_isSeen l G H.size a fu g14 L z_ (g16, L17) hf18) (kR rfl) hP hD hS 0 12 rfl (zat (by decide) ms_0) rfl hl.1 rfl (Nat.le_of_ble_eq_true rfl) dX12_fits_71 (fun x15 u_ H locs e_ hP hD hS => ?_)
            have e_ : x15 = z_ := e_
            subst e_
            have hP : va_P G.1 vwCl (zw G MS 51 a g16 L17) H := hP
            have hD : va_D A (zw G MS 51 a g16 L17) := hD
            have J126 : ∀ (v2 : Int32) (v3 : Int32) (v4 : Int32) (v5 : Int32) (v8 : Int32) (g : Nat → Nat → Int32) (L : Nat → Nat → Int64) (H : Heap) (locs : List Loc) (ls : Array Slot), fX12_fits_p126 fu k29 k52 v1 v2 v3 v4 v5 v6 v7 v8 g L = some (res, s9) → va_P G.1 vwCl (zw G MS 51 a g L) H → va_D A (zw G MS 51 a g L) → va_S A s.heap H locs → lv_has ls 9 [(0, .ref (a 0)), (1, .int v1), (2, .int v2), (3, .int v3), (4, .int v4), (5, .int v5), (6, .int v6), (7, .int v7), (8, .int v8)] → W p l e { frames := 12, cells := 0, slots := 0, locals := 249 } s m [.ref (a 0), .int p1].toArray below meth c H locs 0 0 (MQ below ((kQi G (S := Unit) (fun r' _ => r' = res) (fun _ => zw G MS 51 a s9.1 s9.2)) A) [.ref (a 0), .int p1].toArray s 0 0 A) (F0 m 126 ls []) := by
              intro v2 v3 v4 v5 v8 g L H locs ls h hP hD hS hl
              unfold fX12_fits_p126 at h
              refine lv_iinc (v := (v8 + 1)) (lv' := [(8, .int (v8 + 1)), (0, .ref (a 0)), (1, .int v1), (2, .int v2), (3, .int v3), (4, .int v4), (5, .int v5), (6, .int v6), (7, .int v7)]) hx hb dX12_fits_126 hl (k := 8) rfl rfl (by decide) rfl (fun ls hl => ?_)
              refine lv_goto (tgt := 52) hx hb dX12_fits_129 (by decide) ?_
              exact ih52 (v2, v3, v4, v5, (v8 + 1), g, L) h H locs ls hP hD hS (lv_sub hl [1, 2, 3, 4, 5, 6, 7, 8, 0] rfl)
            refine lv_if_ne (x := x15) (tgt := 80) hx hb dX12_fits_74 (by decide) (fun c19 => ?_) (fun c19 => ?_)
            ·
              have h := ite_e c19 h
              refine lv_iinc (v := (v2 + 1)) (lv' := [(2, .int (v2 + 1)), (0, .ref (a 0)), (1, .int v1), (3, .int v3), (4, .int v4), (5, .int v5), (6, .int v6), (7, .int v7), (8, .int v8)]) hx hb dX12_fits_80 hl (k := 2) rfl rfl (by decide) rfl (fun ls hl => ?_)
              refine lv_iload_n hx hb dX12_fits_83 rfl (lv_at hl 3 rfl) ?_
              refine lv_iconst (v := -1) hx hb dX12_fits_84 (by decide) ?_
              have J97 : ∀ (v2 : Int32) (v3 : Int32) (v4 : Int32) (v5 : Int32) (v8 : Int32) (g : Nat → Nat → Int32) (L : Nat → Nat → Int64) (H : Heap) (locs : List Loc) (ls : Array Slot), fX12_fits_p97 fu k29 k52 v1 v2 v3 v4 v5 v6 v7 v8 g L = some (res, s9) → va_P G.1 vwCl (zw G MS 51 a g L) H → va_D A (zw G MS 51 a g L) → va_S A s.heap H locs → lv_has ls 9 [(0, .ref (a 0)), (1, .int v1), (2, .int v2), (3, .int v3), (4, .int v4), (5, .int v5), (6, .int v6), (7, .int v7), (8, .int v8)] → W p l e { frames := 12, cells := 0, slots := 0, locals := 249 } s m [.ref (a 0), .int p1].toArray below meth c H locs 0 0 (MQ below ((kQi G (S := Unit) (fun r' _ => r' = res) (fun _ => zw G MS 51 a s9.1 s9.2)) A) [.ref (a 0), .int p1].toArray s 0 0 A) (F0 m 97 ls []) := by
                intro v2 v3 v4 v5 v8 g L H locs ls h hP hD hS hl
                unfold fX12_fits_p97 at h
                refine lv_iload hx hb dX12_fits_97 (lv_at hl 5 rfl) ?_
                have J120 : ∀ (v2 : Int32) (v3 : Int32) (v8 : Int32) (t0 : Int32) (g : Nat → Nat → Int32) (L : Nat → Nat → Int64) (H : Heap) (locs : List Loc) (ls : Array Slot), fX12_fits_p120 fu k29 k52 v1 v2 v3 v6 v7 v8 t0 g L = some (res, s9) → va_P G.1 vwCl (zw G MS 51 a g L) H → va_D A (zw G MS 51 a g L) → va_S A s.heap H locs → lv_has ls 9 [(0, .ref (a 0)), (1, .int v1), (2, .int v2), (3, .int v3), (6, .int v6), (7, .int v7), (8, .int v8)] → W p l e { frames := 12, cells := 0, slots := 0, locals := 249 } s m [.ref (a 0), .int p1].toArray below meth c H locs 0 0 (MQ below ((kQi G (S := Unit) (fun r' _ => r' = res) (fun _ => zw G MS 51 a s9.1 s9.2)) A) [.ref (a 0), .int p1].toArray s 0 0 A) (F0 m 120 ls [.int t0]) := by
                  intro v2 v3 v8 t0 g L H locs ls h hP hD hS hl
                  unfold fX12_fits_p120 at h
                  refine lv_istore (lv' := [(5, .int t0), (0, .ref (a 0)), (1, .int v1), (2, .int v2), (3, .int v3), (6, .int v6), (7, .int v7), (8, .int v8)]) hx hb dX12_fits_120 hl (by decide) rfl (fun ls hl => ?_)
                  refine lv_iload hx hb dX12_fits_122 (lv_at hl 5 rfl) ?_
                  refine lv_istore (lv' := [(4, .int v6), (5, .int t0), (0, .ref (a 0)), (1, .int v1), (2, .int v2), (3, .int v3), (6, .int v6), (7, .int v7), (8, .int v8)]) hx hb dX12_fits_124 hl (by decide) rfl (fun ls hl => ?_)
                  exact J126 v2 v3 v6 t0 v8 g L H locs ls h hP hD hS (lv_sub hl [2, 3, 4, 5, 0, 1, 6, 7, 8] rfl)
                have J119 : ∀ (v2 : Int32) (v3 : Int32) (v8 : Int32) (g : Nat → Nat → Int32) (L : Nat → Nat → Int64) (H : Heap) (locs : List Loc) (ls : Array Slot), fX12_fits_p119 fu k29 k52 v1 v2 v3 v6 v7 v8 g L = some (res, s9) → va_P G.1 vwCl (zw G MS 51 a g L) H → va_D A (zw G MS 51 a g L) → va_S A s.heap H locs → lv_has ls 9 [(0, .ref (a 0)), (1, .int v1), (2, .int v2), (3, .int v3), (6, .int v6), (7, .int v7), (8, .int v8)] → W p l e { frames := 12, cells := 0, slots := 0, locals := 249 } s m [.ref (a 0), .int p1].toArray below meth c H locs 0 0 (MQ below ((kQi G (S := Unit) (fun r' _ => r' = res) (fun _ => zw G MS 51 a s9.1 s9.2)) A) [.ref (a 0), .int p1].toArray s 0 0 A) (F0 m 119 ls []) := by
                  intro v2 v3 v8 g L H locs ls h hP hD hS hl
                  unfold fX12_fits_p119 at h
                  refine lv_iconst (v := 0) hx hb dX12_fits_119 (by decide) ?_
                  exact J120 v2 v3 v8 0 g L H locs ls h hP hD hS (lv_sub hl [0, 1, 2, 3, 4, 5, 6] rfl)
                refine lv_if_eq (x := v5) (tgt := 119) hx hb dX12_fits_99 (by decide) (fun c20 => ?_) (fun c20 => ?_)
                ·
                  have h := ite_t c20 h
                  exact J119 v2 v3 v8 g L H locs ls h hP hD hS (lv_sub hl [0, 1, 2, 3, 6, 7, 8] rfl)
                ·
                  have h := ite_e c20 h
                  refine lv_iload hx hb dX12_fits_102 (lv_at hl 4 rfl) ?_
                  refine lv_iconst (v := -1) hx hb dX12_fits_104 (by decide) ?_
                  have J115 : ∀ (v2 : Int32) (v3 : Int32) (v8 : Int32) (g : Nat → Nat → Int32) (L : Nat → Nat → Int64) (H : Heap) (locs : List Loc) (ls : Array Slot), fX12_fits_p115 fu k29 k52 v1 v2 v3 v6 v7 v8 g L = some (res, s9) → va_P G.1 vwCl (zw G MS 51 a g L) H → va_D A (zw G MS 51 a g L) → va_S A s.heap H locs → lv_has ls 9 [(0, .ref (a 0)), (1, .int v1), (2, .int v2), (3, .int v3), (6, .int v6), (7, .int v7), (8, .int v8)] → W p l e { frames := 12, cells := 0, slots := 0, locals := 249 } s m [.ref (a 0), .int p1].toArray below meth c H locs 0 0 (MQ below ((kQi G (S := Unit) (fun r' _ => r' = res) (fun _ => zw G MS 51 a s9.1 s9.2)) A) [.ref (a 0), .int p1].toArray s 0 0 A) (F0 m 115 ls []) := by
                    intro v2 v3 v8 g L H locs ls h hP hD hS hl
                    unfold fX12_fits_p115 at h
                    refine lv_iconst (v := 1) hx hb dX12_fits_115 (by decide) ?_
                    refine lv_goto (tgt := 120) hx hb dX12_fits_116 (by decide) ?_
                    exact J120 v2 v3 v8 1 g L H locs ls h hP hD hS (lv_sub hl [0, 1, 2, 3, 4, 5, 6] rfl)
                  refine lv_icmp_eq (x := v4) (y := (-1)) (tgt := 115) hx hb dX12_fits_105 (by decide) (fun c21 => ?_) (fun c21 => ?_)
                  ·
                    have h := ite_t c21 h
                    exact J115 v2 v3 v8 g L H locs ls h hP hD hS (lv_sub hl [0, 1, 2, 3, 6, 7, 8] rfl)
                  ·
                    have h := ite_e c21 h
                    refine lv_iload hx hb dX12_fits_108 (lv_at hl 4 rfl) ?_
                    refine lv_iload hx hb dX12_fits_110 (lv_at hl 6 rfl) ?_
                    refine lv_icmp_ne (x := v4) (y := v6) (tgt := 119) hx hb dX12_fits_112 (by decide) (fun c22 => ?_) (fun c22 => ?_)
                    ·
                      have h := ite_e c22 h
                      exact J119 v2 v3 v8 g L H locs ls h hP hD hS (lv_sub hl [0, 1, 2, 3, 6, 7, 8] rfl)
                    ·
                      have h := ite_t c22 h
                      exact J115 v2 v3 v8 g L H locs ls h hP hD hS (lv_sub hl [0, 1, 2, 3, 6, 7, 8] rfl)
              refine lv_icmp_ne (x := v3) (y := (-1)) (tgt := 97) hx hb dX12_fits_85 (by decide) (fun c23 => ?_) (fun c23 => ?_)
              ·
                have h := ite_e c23 h
                exact J97 (v2 + 1) v3 v4 v5 v8 g16 L17 H locs ls h hP hD hS (lv_sub hl [1, 2, 0, 3, 4, 5, 6, 7, 8] rfl)
              ·
                have h := ite_t c23 h
                refine lv_bipush (v := 100) hx hb dX12_fits_88 (by decide) ?_
                refine lv_iload hx hb dX12_fits_90 (lv_at hl 6 rfl) ?_
                refine lv_imul hx hb dX12_fits_92 ?_
                refine lv_iload hx hb dX12_fits_93 (lv_at hl 8 rfl) ?_
                refine lv_iadd hx hb dX12_fits_95 ?_
                refine y_let h (fun x24 h => ?_)
                refine lv_istore_n (lv' := [(3, .int x24), (2, .int (v2 + 1)), (0, .ref (a 0)), (1, .int v1), (4, .int v4), (5, .int v5), (6, .int v6), (7, .int v7), (8, .int v8)]) hx hb dX12_fits_96 rfl hl (by decide) rfl (fun ls hl => ?_)
                exact J97 (v2 + 1) x24 v4 v5 v8 g16 L17 H locs ls h hP hD hS (lv_sub hl [2, 3, 1, 0, 4, 5, 6, 7, 8] rfl)
            ·
              have h := ite_t c19 h
              refine lv_goto (tgt := 126) hx hb dX12_fits_77 (by decide) ?_
              exact J126 v2 v3 v4 v5 v8 g16 L17 H locs ls h hP hD hS (lv_sub hl [0, 1, 2, 3, 4, 5, 6, 7, 8] rfl)
        exact lp52 v6 x11 fu (v2, v3, v4, v5, 0, g, L) h H locs ls hP hD hS (lv_sub hl [2, 3, 4, 5, 6, 7, 8, 1, 0] rfl)
    exact lp29 p1 fu (0, (-1), (-1), 1, 0, g3, L4) h H locs ls hP hD hS (lv_sub hl [5, 6, 4, 3, 2, 1, 0] rfl)
  ·
    have h := ite_t c6 h
    refine lv_iconst (v := 0) hx hb dX12_fits_14 (by decide) ?_
    exact y_iret C hr hlk hP hD hS h (Nat.le_of_ble_eq_true rfl) (Nat.le_of_ble_eq_true rfl) dX12_fits_15
def fX12_ways_p155 (fu : Nat) (k11 : Int32 × (Nat → Nat → Int32) × (Nat → Nat → Int64) → Option ((Unit) × zS)) (k21 : Int32 × (Nat → Nat → Int32) × (Nat → Nat → Int64) → Option ((Unit) × zS)) (v1 : Int32) (v2 : Int32) (g : Nat → Nat → Int32) (L : Nat → Nat → Int64) : Option ((Unit) × zS) :=
  k21 ((v2 + 1), g, L)
def fX12_ways_p144 (fu : Nat) (k11 : Int32 × (Nat → Nat → Int32) × (Nat → Nat → Int64) → Option ((Unit) × zS)) (k21 : Int32 × (Nat → Nat → Int32) × (Nat → Nat → Int64) → Option ((Unit) × zS)) (v1 : Int32) (v2 : Int32) (t0 : Int32) (t1 : Int32) (g : Nat → Nat → Int32) (L : Nat → Nat → Int64) : Option ((Unit) × zS) :=
  ck t1 72 (sti g 47 (Int32.toNatClampNeg t1) t0 (fun g21 =>
  sti g21 0 79 ((g21 0 79) + 1) (fun g22 =>
  fX12_ways_p155 fu k11 k21 v1 v2 g22 L)))
def fX12_ways_s21 (fu : Nat) (k11 : Int32 × (Nat → Nat → Int32) × (Nat → Nat → Int64) → Option ((Unit) × zS)) (v1 : Int32) (k21 : Int32 × (Nat → Nat → Int32) × (Nat → Nat → Int64) → Option ((Unit) × zS)) (v2 : Int32) (g : Nat → Nat → Int32) (L : Nat → Nat → Int64) : Option ((Unit) × zS) :=
  ck v1 12 (
  if (g 8 (Int32.toNatClampNeg v1)) ≤ v2 then k11 ((v1 + 1), g, L)
  else ck ((6 * v1) + v2) 72 (
  lti (g 9 (Int32.toNatClampNeg ((6 * v1) + v2))) (fun x8 =>
  ck (24 + x8) 48 (
  ck (24 + v1) 48 (
  cb (fX12_isStair fu (g 12 (Int32.toNatClampNeg (24 + x8))) (g 12 (Int32.toNatClampNeg (24 + v1))) g L) (fun x9 g10 L11 =>
  if x9 = 0 then fX12_ways_p155 fu k11 k21 v1 v2 g10 L11
  else ck (g10 0 79) 72 (sti g10 44 (Int32.toNatClampNeg (g10 0 79)) x8 (fun g14 =>
  ck x8 12 (
  ck (g14 0 79) 72 (sti g14 45 (Int32.toNatClampNeg (g14 0 79)) (g14 32 (Int32.toNatClampNeg x8)) (fun g15 =>
  cb (fX12_way fu x8 v1 g15 L11) (fun x16 g17 L18 =>
  ck (g15 0 79) 72 (sti g17 46 (Int32.toNatClampNeg (g15 0 79)) x16 (fun g20 =>
  ck (24 + v1) 48 (
  ck (24 + x8) 48 (
  if (g20 12 (Int32.toNatClampNeg (24 + v1))) ≤ (g20 12 (Int32.toNatClampNeg (24 + x8))) then fX12_ways_p144 fu k11 k21 v1 v2 0 (g20 0 79) g20 L18
  else fX12_ways_p144 fu k11 k21 v1 v2 1 (g20 0 79) g20 L18))))))))))))))))
def fX12_ways_l21 (fu : Nat) (k11 : Int32 × (Nat → Nat → Int32) × (Nat → Nat → Int64) → Option ((Unit) × zS)) (v1 : Int32) (v2 : Int32) (g : Nat → Nat → Int32) (L : Nat → Nat → Int64) : Option ((Unit) × zS) :=
  whileK (fun k v => fX12_ways_s21 fu k11 v1 k v.1 v.2.1 v.2.2) fu (v2, g, L)
def fX12_ways_s11 (fu : Nat) (k11 : Int32 × (Nat → Nat → Int32) × (Nat → Nat → Int64) → Option ((Unit) × zS)) (v1 : Int32) (g : Nat → Nat → Int32) (L : Nat → Nat → Int64) : Option ((Unit) × zS) :=
  if (g 0 1) ≤ v1 then some ((), (g, L))
  else fX12_ways_l21 fu k11 v1 0 g L
def fX12_ways_l11 (fu : Nat) (v1 : Int32) (g : Nat → Nat → Int32) (L : Nat → Nat → Int64) : Option ((Unit) × zS) :=
  whileK (fun k v => fX12_ways_s11 fu k v.1 v.2.1 v.2.2) fu (v1, g, L)
def fX12_ways (fu : Nat) (g : Nat → Nat → Int32) (L : Nat → Nat → Int64) : Option ((Unit) × zS) :=
  cb (fX12_works0 fu g L) (fun x1 g2 L3 =>
  sti g2 0 79 0 (fun g5 =>
  fX12_ways_l11 fu 0 g5 L3))
set_option maxHeartbeats 4000000 in
set_option maxRecDepth 100000 in
theorem rX12_ways (l : Launch) (G : kG) (sz : Nat) (a : Nat → Nat) (fu : Nat) (g : Nat → Nat → Int32) (L : Nat → Nat → Int64) (res : Unit) (s9 : zS) (h : fX12_ways fu g L = some (res, s9)) : kM l yX12_ways cX12_ways 4 none { frames := 11, cells := 0, slots := 0, locals := 228 } G [.ref (a 0)] (zw G MS 51 a g L) sz (kQv G (S := Unit) (fun _ => True) (fun _ => zw G MS 51 a s9.1 s9.2)) := by
  refine kM.of (by decide) (Nat.le_of_ble_eq_true rfl) ?_
  intro p e s m below meth c A ls H C hr hlk hnm hP hD hS hl
  have C : kC G p s m c cX12_ways 4 RX12 A := C
  have hx := C.1
  have hb := C.2.1
  have hl : lv_has ls 4 [(0, .ref (a 0))] := hl
  obtain ⟨locs, hlocs⟩ : ∃ q : List Loc, q = [] := ⟨_, rfl⟩
  rw [← hlocs] at hS
  rw [← hlocs]
  unfold fX12_ways at h
  refine lv_aload_n hx hb dX12_ways_0 rfl (lv_at hl 0 rfl) ?_
  obtain ⟨z_, g2, L3, hf4, h⟩ := cb_some h
  refine x_callVv (rest := []) li_X12_386 C (rX12_works0 l G H.size a fu g L z_ (g2, L3) hf4) (kR rfl) hP hD hS 0 12 rfl (zat (by decide) ms_0) rfl hl.1 rfl (Nat.le_of_ble_eq_true rfl) dX12_ways_1 (fun u_ H locs e_ hP hD hS => ?_)
  have hP : va_P G.1 vwCl (zw G MS 51 a g2 L3) H := hP
  have hD : va_D A (zw G MS 51 a g2 L3) := hD
  refine lv_aload_n hx hb dX12_ways_4 rfl (lv_at hl 0 rfl) ?_
  refine lv_iconst (v := 0) hx hb dX12_ways_5 (by decide) ?_
  refine y_puti (Or.inl fl_X12_465) ft_X12_79 C hP hD hS (by decide) ms_0 rfl rfl rfl dX12_ways_6 h (fun g5 H locs h hP hD hS => ?_)
  refine lv_iconst (v := 0) hx hb dX12_ways_9 (by decide) ?_
  refine lv_istore_n (lv' := [(1, .int 0), (0, .ref (a 0))]) hx hb dX12_ways_10 rfl hl (by decide) rfl (fun ls hl => ?_)
  have lp11 : ∀ (_ : True), ∀ (n : Nat) (v : Int32 × (Nat → Nat → Int32) × (Nat → Nat → Int64)), whileK (fun k v => fX12_ways_s11 fu k v.1 v.2.1 v.2.2) n v = some (res, s9) → ∀ (H : Heap) (locs : List Loc) (ls : Array Slot), va_P G.1 vwCl (zw G MS 51 a (v.2.1) (v.2.2)) H → va_D A (zw G MS 51 a (v.2.1) (v.2.2)) → va_S A s.heap H locs → lv_has ls 4 [(0, .ref (a 0)), (1, .int (v.1))] → W p l e { frames := 11, cells := 0, slots := 0, locals := 228 } s m [.ref (a 0)].toArray below meth c H locs 0 0 (MQ below ((kQv G (S := Unit) (fun _ => True) (fun _ => zw G MS 51 a s9.1 s9.2)) A) [.ref (a 0)].toArray s 0 0 A) (F0 m 11 ls []) := by
    intro _
    refine while_ind (fun k11 ih11 v h => ?_)
    obtain ⟨v1, g, L⟩ := v
    intro H locs ls hP hD hS hl
    have h : fX12_ways_s11 fu k11 v1 g L = some (res, s9) := h
    have hP : va_P G.1 vwCl (zw G MS 51 a g L) H := hP
    have hD : va_D A (zw G MS 51 a g L) := hD
    have hl : lv_has ls 4 [(0, .ref (a 0)), (1, .int v1)] := hl
    show W p l e { frames := 11, cells := 0, slots := 0, locals := 228 } s m [.ref (a 0)].toArray below meth c H locs 0 0 (MQ below ((kQv G (S := Unit) (fun _ => True) (fun _ => zw G MS 51 a s9.1 s9.2)) A) [.ref (a 0)].toArray s 0 0 A) (F0 m 11 ls [])
    unfold fX12_ways_s11 at h
    refine lv_iload_n hx hb dX12_ways_11 rfl (lv_at hl 1 rfl) ?_
    refine lv_aload_n hx hb dX12_ways_12 rfl (lv_at hl 0 rfl) ?_
    refine x_getv (v := .int (g 0 1)) (Or.inl fl_X12_335) C hP (by decide) ms_0 rfl dX12_ways_13 ?_
    refine lv_icmp_ge (x := v1) (y := (g 0 1)) (tgt := 167) hx hb dX12_ways_16 (by decide) (fun c6 => ?_) (fun c6 => ?_)
    ·
      have h := ite_t c6 h
      exact y_vret C hr hlk hP hD hS h (Nat.le_of_ble_eq_true rfl) (Nat.le_of_ble_eq_true rfl) dX12_ways_167
    ·
      have h := ite_e c6 h
      refine lv_iconst (v := 0) hx hb dX12_ways_19 (by decide) ?_
      refine lv_istore_n (lv' := [(2, .int 0), (0, .ref (a 0)), (1, .int v1)]) hx hb dX12_ways_20 rfl hl (by decide) rfl (fun ls hl => ?_)
      have lp21 : ∀ (v1 : Int32), ∀ (n : Nat) (v : Int32 × (Nat → Nat → Int32) × (Nat → Nat → Int64)), whileK (fun k v => fX12_ways_s21 fu k11 v1 k v.1 v.2.1 v.2.2) n v = some (res, s9) → ∀ (H : Heap) (locs : List Loc) (ls : Array Slot), va_P G.1 vwCl (zw G MS 51 a (v.2.1) (v.2.2)) H → va_D A (zw G MS 51 a (v.2.1) (v.2.2)) → va_S A s.heap H locs → lv_has ls 4 [(0, .ref (a 0)), (1, .int v1), (2, .int (v.1))] → W p l e { frames := 11, cells := 0, slots := 0, locals := 228 } s m [.ref (a 0)].toArray below meth c H locs 0 0 (MQ below ((kQv G (S := Unit) (fun _ => True) (fun _ => zw G MS 51 a s9.1 s9.2)) A) [.ref (a 0)].toArray s 0 0 A) (F0 m 21 ls []) := by
        intro v1
        refine while_ind (fun k21 ih21 v h => ?_)
        obtain ⟨v2, g, L⟩ := v
        intro H locs ls hP hD hS hl
        have h : fX12_ways_s21 fu k11 v1 k21 v2 g L = some (res, s9) := h
        have hP : va_P G.1 vwCl (zw G MS 51 a g L) H := hP
        have hD : va_D A (zw G MS 51 a g L) := hD
        have hl : lv_has ls 4 [(0, .ref (a 0)), (1, .int v1), (2, .int v2)] := hl
        show W p l e { frames := 11, cells := 0, slots := 0, locals := 228 } s m [.ref (a 0)].toArray below meth c H locs 0 0 (MQ below ((kQv G (S := Unit) (fun _ => True) (fun _ => zw G MS 51 a s9.1 s9.2)) A) [.ref (a 0)].toArray s 0 0 A) (F0 m 21 ls [])
        unfold fX12_ways_s21 at h
        refine lv_iload_n hx hb dX12_ways_21 rfl (lv_at hl 2 rfl) ?_
        refine lv_aload_n hx hb dX12_ways_22 rfl (lv_at hl 0 rfl) ?_
        refine x_getr (Or.inl fl_X12_38) C hP (by decide) ms_0 rfl dX12_ways_23 ?_
        refine lv_iload_n hx hb dX12_ways_26 rfl (lv_at hl 1 rfl) ?_
        refine y_ald C hP (by decide) ms_8 dX12_ways_27 h (fun h => ?_)
        refine lv_icmp_ge (x := v2) (y := (g 8 (Int32.toNatClampNeg v1))) (tgt := 161) hx hb dX12_ways_28 (by decide) (fun c7 => ?_) (fun c7 => ?_)
        ·
          have h := ite_t c7 h
          refine lv_iinc (v := (v1 + 1)) (lv' := [(1, .int (v1 + 1)), (0, .ref (a 0)), (2, .int v2)]) hx hb dX12_ways_161 hl (k := 1) rfl rfl (by decide) rfl (fun ls hl => ?_)
          refine lv_goto (tgt := 11) hx hb dX12_ways_164 (by decide) ?_
          exact ih11 ((v1 + 1), g, L) h H locs ls hP hD hS (lv_sub hl [1, 0] rfl)
        ·
          have h := ite_e c7 h
          refine lv_aload_n hx hb dX12_ways_31 rfl (lv_at hl 0 rfl) ?_
          refine x_getr (Or.inl fl_X12_41) C hP (by decide) ms_0 rfl dX12_ways_32 ?_
          refine lv_bipush (v := 6) hx hb dX12_ways_35 (by decide) ?_
          refine lv_iload_n hx hb dX12_ways_37 rfl (lv_at hl 1 rfl) ?_
          refine lv_imul hx hb dX12_ways_38 ?_
          refine lv_iload_n hx hb dX12_ways_39 rfl (lv_at hl 2 rfl) ?_
          refine lv_iadd hx hb dX12_ways_40 ?_
          refine y_ald C hP (by decide) ms_9 dX12_ways_41 h (fun h => ?_)
          refine y_let h (fun x8 h => ?_)
          refine lv_istore_n (lv' := [(3, .int x8), (0, .ref (a 0)), (1, .int v1), (2, .int v2)]) hx hb dX12_ways_42 rfl hl (by decide) rfl (fun ls hl => ?_)
          refine lv_aload_n hx hb dX12_ways_43 rfl (lv_at hl 1 rfl) ?_
          refine x_getr (Or.inl fl_X12_50) C hP (by decide) ms_0 rfl dX12_ways_44 ?_
          refine lv_bipush (v := 24) hx hb dX12_ways_47 (by decide) ?_
          refine lv_iload_n hx hb dX12_ways_49 rfl (lv_at hl 0 rfl) ?_
          refine lv_iadd hx hb dX12_ways_50 ?_
          refine y_ald C hP (by decide) ms_12 dX12_ways_51 h (fun h => ?_)
          refine lv_aload_n hx hb dX12_ways_52 rfl (lv_at hl 1 rfl) ?_
          refine x_getr (Or.inl fl_X12_50) C hP (by decide) ms_0 rfl dX12_ways_53 ?_
          refine lv_bipush (v := 24) hx hb dX12_ways_56 (by decide) ?_
          refine lv_iload_n hx hb dX12_ways_58 rfl (lv_at hl 2 rfl) ?_
          refine lv_iadd hx hb dX12_ways_59 ?_
          refine y_ald C hP (by decide) ms_12 dX12_ways_60 h (fun h => ?_)
          obtain ⟨z_, g10, L11, hf12, h⟩ := cb_some h
          refine x_callSi (rest := []) li_X12_364 C (rX12_isStair l G H.size a fu g L (g 12 (Int32.toNatClampNeg (24 + x8))) (g 12 (Int32.toNatClampNeg (24 + v1))) z_ (g10, L11) hf12) (kR rfl) hP hD hS rfl hl.1 rfl (Nat.le_of_ble_eq_true rfl) dX12_ways_61 (fun x9 u_ H locs e_ hP hD hS => ?_)
          have e_ : x9 = z_ := e_
          subst e_
          have hP : va_P G.1 vwCl (zw G MS 51 a g10 L11) H := hP
          have hD : va_D A (zw G MS 51 a g10 L11) := hD
          have J155 : ∀ (v2 : Int32) (g : Nat → Nat → Int32) (L : Nat → Nat → Int64) (H : Heap) (locs : List Loc) (ls : Array Slot), fX12_ways_p155 fu k11 k21 v1 v2 g L = some (res, s9) → va_P G.1 vwCl (zw G MS 51 a g L) H → va_D A (zw G MS 51 a g L) → va_S A s.heap H locs → lv_has ls 4 [(0, .ref (a 0)), (1, .int v1), (2, .int v2)] → W p l e { frames := 11, cells := 0, slots := 0, locals := 228 } s m [.ref (a 0)].toArray below meth c H locs 0 0 (MQ below ((kQv G (S := Unit) (fun _ => True) (fun _ => zw G MS 51 a s9.1 s9.2)) A) [.ref (a 0)].toArray s 0 0 A) (F0 m 155 ls []) := by
            intro v2 g L H locs ls h hP hD hS hl
            unfold fX12_ways_p155 at h
            refine lv_iinc (v := (v2 + 1)) (lv' := [(2, .int (v2 + 1)), (0, .ref (a 0)), (1, .int v1)]) hx hb dX12_ways_155 hl (k := 2) rfl rfl (by decide) rfl (fun ls hl => ?_)
            refine lv_goto (tgt := 21) hx hb dX12_ways_158 (by decide) ?_
            exact ih21 ((v2 + 1), g, L) h H locs ls hP hD hS (lv_sub hl [1, 2, 0] rfl)
          refine lv_if_ne (x := x9) (tgt := 70) hx hb dX12_ways_64 (by decide) (fun c13 => ?_) (fun c13 => ?_)
          ·
            have h := ite_e c13 h
            refine lv_aload_n hx hb dX12_ways_70 rfl (lv_at hl 1 rfl) ?_
            refine x_getr (Or.inl fl_X12_156) C hP (by decide) ms_0 rfl dX12_ways_71 ?_
            refine lv_aload_n hx hb dX12_ways_74 rfl (lv_at hl 1 rfl) ?_
            refine x_getv (v := .int (g10 0 79)) (Or.inl fl_X12_465) C hP (by decide) ms_0 rfl dX12_ways_75 ?_
            refine lv_iload_n hx hb dX12_ways_78 rfl (lv_at hl 0 rfl) ?_
            refine y_ast C hP hD hS (by decide) ms_44 dX12_ways_79 h (fun g14 H locs h hP hD hS => ?_)
            refine lv_aload_n hx hb dX12_ways_80 rfl (lv_at hl 1 rfl) ?_
            refine x_getr (Or.inl fl_X12_159) C hP (by decide) ms_0 rfl dX12_ways_81 ?_
            refine lv_aload_n hx hb dX12_ways_84 rfl (lv_at hl 1 rfl) ?_
            refine x_getv (v := .int (g14 0 79)) (Or.inl fl_X12_465) C hP (by decide) ms_0 rfl dX12_ways_85 ?_
            refine lv_aload_n hx hb dX12_ways_88 rfl (lv_at hl 1 rfl) ?_
            refine x_getr (Or.inl fl_X12_117) C hP (by decide) ms_0 rfl dX12_ways_89 ?_
            refine lv_iload_n hx hb dX12_ways_92 rfl (lv_at hl 0 rfl) ?_
            refine y_ald C hP (by decide) ms_32 dX12_ways_93 h (fun h => ?_)
            refine y_ast C hP hD hS (by decide) ms_45 dX12_ways_94 h (fun g15 H locs h hP hD hS => ?_)
            refine lv_aload_n hx hb dX12_ways_95 rfl (lv_at hl 1 rfl) ?_
            refine x_getr (Or.inl fl_X12_162) C hP (by decide) ms_0 rfl dX12_ways_96 ?_
            refine lv_aload_n hx hb dX12_ways_99 rfl (lv_at hl 1 rfl) ?_
            refine x_getv (v := .int (g15 0 79)) (Or.inl fl_X12_465) C hP (by decide) ms_0 rfl dX12_ways_100 ?_
            refine lv_aload_n hx hb dX12_ways_103 rfl (lv_at hl 1 rfl) ?_
            refine lv_iload_n hx hb dX12_ways_104 rfl (lv_at hl 0 rfl) ?_
            refine lv_iload_n hx hb dX12_ways_105 rfl (lv_at hl 2 rfl) ?_
            obtain ⟨z_, g17, L18, hf19, h⟩ := cb_some h
            refine x_callVi (rest := [.int (g15 0 79), .ref (a 46)]) li_X12_368 C (rX12_way l G H.size a fu g15 L11 x8 v1 z_ (g17, L18) hf19) (kR rfl) hP hD hS 0 12 rfl (zat (by decide) ms_0) rfl hl.1 rfl (Nat.le_of_ble_eq_true rfl) dX12_ways_106 (fun x16 u_ H locs e_ hP hD hS => ?_)
            have e_ : x16 = z_ := e_
            subst e_
            have hP : va_P G.1 vwCl (zw G MS 51 a g17 L18) H := hP
            have hD : va_D A (zw G MS 51 a g17 L18) := hD
            refine y_ast C hP hD hS (by decide) ms_46 dX12_ways_109 h (fun g20 H locs h hP hD hS => ?_)
            refine lv_aload_n hx hb dX12_ways_110 rfl (lv_at hl 1 rfl) ?_
            refine x_getr (Or.inl fl_X12_165) C hP (by decide) ms_0 rfl dX12_ways_111 ?_
            refine lv_aload_n hx hb dX12_ways_114 rfl (lv_at hl 1 rfl) ?_
            refine x_getv (v := .int (g20 0 79)) (Or.inl fl_X12_465) C hP (by decide) ms_0 rfl dX12_ways_115 ?_
            refine lv_aload_n hx hb dX12_ways_118 rfl (lv_at hl 1 rfl) ?_
            refine x_getr (Or.inl fl_X12_50) C hP (by decide) ms_0 rfl dX12_ways_119 ?_
            refine lv_bipush (v := 24) hx hb dX12_ways_122 (by decide) ?_
            refine lv_iload_n hx hb dX12_ways_124 rfl (lv_at hl 2 rfl) ?_
            refine lv_iadd hx hb dX12_ways_125 ?_
            refine y_ald C hP (by decide) ms_12 dX12_ways_126 h (fun h => ?_)
            refine lv_aload_n hx hb dX12_ways_127 rfl (lv_at hl 1 rfl) ?_
            refine x_getr (Or.inl fl_X12_50) C hP (by decide) ms_0 rfl dX12_ways_128 ?_
            refine lv_bipush (v := 24) hx hb dX12_ways_131 (by decide) ?_
            refine lv_iload_n hx hb dX12_ways_133 rfl (lv_at hl 0 rfl) ?_
            refine lv_iadd hx hb dX12_ways_134 ?_
            refine y_ald C hP (by decide) ms_12 dX12_ways_135 h (fun h => ?_)
            have J144 : ∀ (v2 : Int32) (t0 : Int32) (t1 : Int32) (g : Nat → Nat → Int32) (L : Nat → Nat → Int64) (H : Heap) (locs : List Loc) (ls : Array Slot), fX12_ways_p144 fu k11 k21 v1 v2 t0 t1 g L = some (res, s9) → va_P G.1 vwCl (zw G MS 51 a g L) H → va_D A (zw G MS 51 a g L) → va_S A s.heap H locs → lv_has ls 4 [(0, .ref (a 0)), (1, .int v1), (2, .int v2)] → W p l e { frames := 11, cells := 0, slots := 0, locals := 228 } s m [.ref (a 0)].toArray below meth c H locs 0 0 (MQ below ((kQv G (S := Unit) (fun _ => True) (fun _ => zw G MS 51 a s9.1 s9.2)) A) [.ref (a 0)].toArray s 0 0 A) (F0 m 144 ls [.int t0, .int t1, .ref (a 47)]) := by
              intro v2 t0 t1 g L H locs ls h hP hD hS hl
              unfold fX12_ways_p144 at h
              refine y_ast C hP hD hS (by decide) ms_47 dX12_ways_144 h (fun g21 H locs h hP hD hS => ?_)
              refine lv_aload_n hx hb dX12_ways_145 rfl (lv_at hl 0 rfl) ?_
              refine lv_dup hx hb dX12_ways_146 rfl ?_
              refine x_getv (v := .int (g21 0 79)) (Or.inl fl_X12_465) C hP (by decide) ms_0 rfl dX12_ways_147 ?_
              refine lv_iconst (v := 1) hx hb dX12_ways_150 (by decide) ?_
              refine lv_iadd hx hb dX12_ways_151 ?_
              refine y_puti (Or.inl fl_X12_465) ft_X12_79 C hP hD hS (by decide) ms_0 rfl rfl rfl dX12_ways_152 h (fun g22 H locs h hP hD hS => ?_)
              exact J155 v2 g22 L H locs ls h hP hD hS (lv_sub hl [0, 1, 2] rfl)
            refine lv_icmp_le (x := (g20 12 (Int32.toNatClampNeg (24 + v1)))) (y := (g20 12 (Int32.toNatClampNeg (24 + x8)))) (tgt := 143) hx hb dX12_ways_136 (by decide) (fun c23 => ?_) (fun c23 => ?_)
            ·
              have h := ite_t c23 h
              refine lv_iconst (v := 0) hx hb dX12_ways_143 (by decide) ?_
              exact J144 v2 0 (g20 0 79) g20 L18 H locs ls h hP hD hS (lv_sub hl [1, 2, 3] rfl)
            ·
              have h := ite_e c23 h
              refine lv_iconst (v := 1) hx hb dX12_ways_139 (by decide) ?_
              refine lv_goto (tgt := 144) hx hb dX12_ways_140 (by decide) ?_
              exact J144 v2 1 (g20 0 79) g20 L18 H locs ls h hP hD hS (lv_sub hl [1, 2, 3] rfl)
          ·
            have h := ite_t c13 h
            refine lv_goto (tgt := 155) hx hb dX12_ways_67 (by decide) ?_
            exact J155 v2 g10 L11 H locs ls h hP hD hS (lv_sub hl [1, 2, 3] rfl)
      exact lp21 v1 fu (0, g, L) h H locs ls hP hD hS (lv_sub hl [1, 2, 0] rfl)
  exact lp11 trivial fu (0, g5, L3) h H locs ls hP hD hS (lv_sub hl [1, 0] rfl)
def fX12_streams_p103 (fu : Nat) (k13 : Int32 × Int32 × (Nat → Nat → Int32) × (Nat → Nat → Int64) → Option ((Int32) × zS)) (k25 : Int32 × Int32 × (Nat → Nat → Int32) × (Nat → Nat → Int64) → Option ((Int32) × zS)) (v1 : Int32) (v2 : Int32) (v3 : Int32) (g : Nat → Nat → Int32) (L : Nat → Nat → Int64) : Option ((Int32) × zS) :=
  k25 (v1, (v3 + 1), g, L)
def fX12_streams_p101 (fu : Nat) (k13 : Int32 × Int32 × (Nat → Nat → Int32) × (Nat → Nat → Int64) → Option ((Int32) × zS)) (k25 : Int32 × Int32 × (Nat → Nat → Int32) × (Nat → Nat → Int64) → Option ((Int32) × zS)) (v2 : Int32) (v3 : Int32) (t0 : Int32) (t1 : Int32) (g : Nat → Nat → Int32) (L : Nat → Nat → Int64) : Option ((Int32) × zS) :=
  lti (t1 + t0) (fun x10 =>
  fX12_streams_p103 fu k13 k25 x10 v2 v3 g L)
def fX12_streams_p100 (fu : Nat) (k13 : Int32 × Int32 × (Nat → Nat → Int32) × (Nat → Nat → Int64) → Option ((Int32) × zS)) (k25 : Int32 × Int32 × (Nat → Nat → Int32) × (Nat → Nat → Int64) → Option ((Int32) × zS)) (v2 : Int32) (v3 : Int32) (t0 : Int32) (g : Nat → Nat → Int32) (L : Nat → Nat → Int64) : Option ((Int32) × zS) :=
  fX12_streams_p101 fu k13 k25 v2 v3 0 t0 g L
def fX12_streams_s25 (fu : Nat) (k13 : Int32 × Int32 × (Nat → Nat → Int32) × (Nat → Nat → Int64) → Option ((Int32) × zS)) (v2 : Int32) (k25 : Int32 × Int32 × (Nat → Nat → Int32) × (Nat → Nat → Int64) → Option ((Int32) × zS)) (v1 : Int32) (v3 : Int32) (g : Nat → Nat → Int32) (L : Nat → Nat → Int64) : Option ((Int32) × zS) :=
  if (g 0 79) ≤ v3 then k13 (v1, (v2 + 1), g, L)
  else ck v2 72 (
  ck v3 72 (
  if (g 47 (Int32.toNatClampNeg v2)) = (g 47 (Int32.toNatClampNeg v3)) then fX12_streams_p103 fu k13 k25 v1 v2 v3 g L
  else ck v2 72 (
  ck v3 72 (
  ck v3 72 (
  if ((g 45 (Int32.toNatClampNeg v3)) + (g 46 (Int32.toNatClampNeg v3))) ≤ (g 45 (Int32.toNatClampNeg v2)) then fX12_streams_p100 fu k13 k25 v2 v3 v1 g L
  else ck v3 72 (
  ck v2 72 (
  ck v2 72 (
  if ((g 45 (Int32.toNatClampNeg v2)) + (g 46 (Int32.toNatClampNeg v2))) ≤ (g 45 (Int32.toNatClampNeg v3)) then fX12_streams_p100 fu k13 k25 v2 v3 v1 g L
  else fX12_streams_p101 fu k13 k25 v2 v3 1 v1 g L))))))))
def fX12_streams_l25 (fu : Nat) (k13 : Int32 × Int32 × (Nat → Nat → Int32) × (Nat → Nat → Int64) → Option ((Int32) × zS)) (v2 : Int32) (v1 : Int32) (v3 : Int32) (g : Nat → Nat → Int32) (L : Nat → Nat → Int64) : Option ((Int32) × zS) :=
  whileK (fun k v => fX12_streams_s25 fu k13 v2 k v.1 v.2.1 v.2.2.1 v.2.2.2) fu (v1, v3, g, L)
def fX12_streams_s13 (fu : Nat) (k13 : Int32 × Int32 × (Nat → Nat → Int32) × (Nat → Nat → Int64) → Option ((Int32) × zS)) (v1 : Int32) (v2 : Int32) (g : Nat → Nat → Int32) (L : Nat → Nat → Int64) : Option ((Int32) × zS) :=
  if (g 0 79) ≤ v2 then some (v1, (g, L))
  else lti (v2 + 1) (fun x7 =>
  fX12_streams_l25 fu k13 v2 v1 x7 g L)
def fX12_streams_l13 (fu : Nat) (v1 : Int32) (v2 : Int32) (g : Nat → Nat → Int32) (L : Nat → Nat → Int64) : Option ((Int32) × zS) :=
  whileK (fun k v => fX12_streams_s13 fu k v.1 v.2.1 v.2.2.1 v.2.2.2) fu (v1, v2, g, L)
def fX12_streams (fu : Nat) (g : Nat → Nat → Int32) (L : Nat → Nat → Int64) : Option ((Int32) × zS) :=
  sti g 0 0 0 (fun g1 =>
  cb (fX12_ways fu g1 L) (fun x2 g3 L4 =>
  fX12_streams_l13 fu 0 0 g3 L4))
set_option maxHeartbeats 4000000 in
set_option maxRecDepth 100000 in
theorem rX12_streams (l : Launch) (G : kG) (sz : Nat) (a : Nat → Nat) (fu : Nat) (g : Nat → Nat → Int32) (L : Nat → Nat → Int64) (res : Int32) (s9 : zS) (h : fX12_streams fu g L = some (res, s9)) : kM l yX12_streams cX12_streams 4 (some .int) { frames := 12, cells := 0, slots := 0, locals := 251 } G [.ref (a 0)] (zw G MS 51 a g L) sz (kQi G (S := Unit) (fun r' _ => r' = res) (fun _ => zw G MS 51 a s9.1 s9.2)) := by
  refine kM.of (by decide) (Nat.le_of_ble_eq_true rfl) ?_
  intro p e s m below meth c A ls H C hr hlk hnm hP hD hS hl
  have C : kC G p s m c cX12_streams 4 RX12 A := C
  have hx := C.1
  have hb := C.2.1
  have hl : lv_has ls 4 [(0, .ref (a 0))] := hl
  obtain ⟨locs, hlocs⟩ : ∃ q : List Loc, q = [] := ⟨_, rfl⟩
  rw [← hlocs] at hS
  rw [← hlocs]
  unfold fX12_streams at h
  refine lv_aload_n hx hb dX12_streams_0 rfl (lv_at hl 0 rfl) ?_
  refine lv_iconst (v := 0) hx hb dX12_streams_1 (by decide) ?_
  refine y_puti (Or.inl fl_X12_177) ft_X12_0 C hP hD hS (by decide) ms_0 rfl rfl rfl dX12_streams_2 h (fun g1 H locs h hP hD hS => ?_)
  refine lv_aload_n hx hb dX12_streams_5 rfl (lv_at hl 0 rfl) ?_
  obtain ⟨z_, g3, L4, hf5, h⟩ := cb_some h
  refine x_callVv (rest := []) li_X12_468 C (rX12_ways l G H.size a fu g1 L z_ (g3, L4) hf5) (kR rfl) hP hD hS 0 12 rfl (zat (by decide) ms_0) rfl hl.1 rfl (Nat.le_of_ble_eq_true rfl) dX12_streams_6 (fun u_ H locs e_ hP hD hS => ?_)
  have hP : va_P G.1 vwCl (zw G MS 51 a g3 L4) H := hP
  have hD : va_D A (zw G MS 51 a g3 L4) := hD
  refine lv_iconst (v := 0) hx hb dX12_streams_9 (by decide) ?_
  refine lv_istore_n (lv' := [(1, .int 0), (0, .ref (a 0))]) hx hb dX12_streams_10 rfl hl (by decide) rfl (fun ls hl => ?_)
  refine lv_iconst (v := 0) hx hb dX12_streams_11 (by decide) ?_
  refine lv_istore_n (lv' := [(2, .int 0), (1, .int 0), (0, .ref (a 0))]) hx hb dX12_streams_12 rfl hl (by decide) rfl (fun ls hl => ?_)
  have lp13 : ∀ (_ : True), ∀ (n : Nat) (v : Int32 × Int32 × (Nat → Nat → Int32) × (Nat → Nat → Int64)), whileK (fun k v => fX12_streams_s13 fu k v.1 v.2.1 v.2.2.1 v.2.2.2) n v = some (res, s9) → ∀ (H : Heap) (locs : List Loc) (ls : Array Slot), va_P G.1 vwCl (zw G MS 51 a (v.2.2.1) (v.2.2.2)) H → va_D A (zw G MS 51 a (v.2.2.1) (v.2.2.2)) → va_S A s.heap H locs → lv_has ls 4 [(0, .ref (a 0)), (1, .int (v.1)), (2, .int (v.2.1))] → W p l e { frames := 12, cells := 0, slots := 0, locals := 251 } s m [.ref (a 0)].toArray below meth c H locs 0 0 (MQ below ((kQi G (S := Unit) (fun r' _ => r' = res) (fun _ => zw G MS 51 a s9.1 s9.2)) A) [.ref (a 0)].toArray s 0 0 A) (F0 m 13 ls []) := by
    intro _
    refine while_ind (fun k13 ih13 v h => ?_)
    obtain ⟨v1, v2, g, L⟩ := v
    intro H locs ls hP hD hS hl
    have h : fX12_streams_s13 fu k13 v1 v2 g L = some (res, s9) := h
    have hP : va_P G.1 vwCl (zw G MS 51 a g L) H := hP
    have hD : va_D A (zw G MS 51 a g L) := hD
    have hl : lv_has ls 4 [(0, .ref (a 0)), (1, .int v1), (2, .int v2)] := hl
    show W p l e { frames := 12, cells := 0, slots := 0, locals := 251 } s m [.ref (a 0)].toArray below meth c H locs 0 0 (MQ below ((kQi G (S := Unit) (fun r' _ => r' = res) (fun _ => zw G MS 51 a s9.1 s9.2)) A) [.ref (a 0)].toArray s 0 0 A) (F0 m 13 ls [])
    unfold fX12_streams_s13 at h
    refine lv_iload_n hx hb dX12_streams_13 rfl (lv_at hl 2 rfl) ?_
    refine lv_aload_n hx hb dX12_streams_14 rfl (lv_at hl 0 rfl) ?_
    refine x_getv (v := .int (g 0 79)) (Or.inl fl_X12_465) C hP (by decide) ms_0 rfl dX12_streams_15 ?_
    refine lv_icmp_ge (x := v2) (y := (g 0 79)) (tgt := 115) hx hb dX12_streams_18 (by decide) (fun c6 => ?_) (fun c6 => ?_)
    ·
      have h := ite_t c6 h
      refine lv_iload_n hx hb dX12_streams_115 rfl (lv_at hl 1 rfl) ?_
      exact y_iret C hr hlk hP hD hS h (Nat.le_of_ble_eq_true rfl) (Nat.le_of_ble_eq_true rfl) dX12_streams_116
    ·
      have h := ite_e c6 h
      refine lv_iload_n hx hb dX12_streams_21 rfl (lv_at hl 2 rfl) ?_
      refine lv_iconst (v := 1) hx hb dX12_streams_22 (by decide) ?_
      refine lv_iadd hx hb dX12_streams_23 ?_
      refine y_let h (fun x7 h => ?_)
      refine lv_istore_n (lv' := [(3, .int x7), (0, .ref (a 0)), (1, .int v1), (2, .int v2)]) hx hb dX12_streams_24 rfl hl (by decide) rfl (fun ls hl => ?_)
      have lp25 : ∀ (v2 : Int32), ∀ (n : Nat) (v : Int32 × Int32 × (Nat → Nat → Int32) × (Nat → Nat → Int64)), whileK (fun k v => fX12_streams_s25 fu k13 v2 k v.1 v.2.1 v.2.2.1 v.2.2.2) n v = some (res, s9) → ∀ (H : Heap) (locs : List Loc) (ls : Array Slot), va_P G.1 vwCl (zw G MS 51 a (v.2.2.1) (v.2.2.2)) H → va_D A (zw G MS 51 a (v.2.2.1) (v.2.2.2)) → va_S A s.heap H locs → lv_has ls 4 [(0, .ref (a 0)), (1, .int (v.1)), (2, .int v2), (3, .int (v.2.1))] → W p l e { frames := 12, cells := 0, slots := 0, locals := 251 } s m [.ref (a 0)].toArray below meth c H locs 0 0 (MQ below ((kQi G (S := Unit) (fun r' _ => r' = res) (fun _ => zw G MS 51 a s9.1 s9.2)) A) [.ref (a 0)].toArray s 0 0 A) (F0 m 25 ls []) := by
        intro v2
        refine while_ind (fun k25 ih25 v h => ?_)
        obtain ⟨v1, v3, g, L⟩ := v
        intro H locs ls hP hD hS hl
        have h : fX12_streams_s25 fu k13 v2 k25 v1 v3 g L = some (res, s9) := h
        have hP : va_P G.1 vwCl (zw G MS 51 a g L) H := hP
        have hD : va_D A (zw G MS 51 a g L) := hD
        have hl : lv_has ls 4 [(0, .ref (a 0)), (1, .int v1), (2, .int v2), (3, .int v3)] := hl
        show W p l e { frames := 12, cells := 0, slots := 0, locals := 251 } s m [.ref (a 0)].toArray below meth c H locs 0 0 (MQ below ((kQi G (S := Unit) (fun r' _ => r' = res) (fun _ => zw G MS 51 a s9.1 s9.2)) A) [.ref (a 0)].toArray s 0 0 A) (F0 m 25 ls [])
        unfold fX12_streams_s25 at h
        refine lv_iload_n hx hb dX12_streams_25 rfl (lv_at hl 3 rfl) ?_
        refine lv_aload_n hx hb dX12_streams_26 rfl (lv_at hl 0 rfl) ?_
        refine x_getv (v := .int (g 0 79)) (Or.inl fl_X12_465) C hP (by decide) ms_0 rfl dX12_streams_27 ?_
        refine lv_icmp_ge (x := v3) (y := (g 0 79)) (tgt := 109) hx hb dX12_streams_30 (by decide) (fun c8 => ?_) (fun c8 => ?_)
        ·
          have h := ite_t c8 h
          refine lv_iinc (v := (v2 + 1)) (lv' := [(2, .int (v2 + 1)), (0, .ref (a 0)), (1, .int v1), (3, .int v3)]) hx hb dX12_streams_109 hl (k := 2) rfl rfl (by decide) rfl (fun ls hl => ?_)
          refine lv_goto (tgt := 13) hx hb dX12_streams_112 (by decide) ?_
          exact ih13 (v1, (v2 + 1), g, L) h H locs ls hP hD hS (lv_sub hl [1, 2, 0] rfl)
        ·
          have h := ite_e c8 h
          refine lv_aload_n hx hb dX12_streams_33 rfl (lv_at hl 0 rfl) ?_
          refine x_getr (Or.inl fl_X12_165) C hP (by decide) ms_0 rfl dX12_streams_34 ?_
          refine lv_iload_n hx hb dX12_streams_37 rfl (lv_at hl 2 rfl) ?_
          refine y_ald C hP (by decide) ms_47 dX12_streams_38 h (fun h => ?_)
          refine lv_aload_n hx hb dX12_streams_39 rfl (lv_at hl 0 rfl) ?_
          refine x_getr (Or.inl fl_X12_165) C hP (by decide) ms_0 rfl dX12_streams_40 ?_
          refine lv_iload_n hx hb dX12_streams_43 rfl (lv_at hl 3 rfl) ?_
          refine y_ald C hP (by decide) ms_47 dX12_streams_44 h (fun h => ?_)
          have J103 : ∀ (v1 : Int32) (v3 : Int32) (g : Nat → Nat → Int32) (L : Nat → Nat → Int64) (H : Heap) (locs : List Loc) (ls : Array Slot), fX12_streams_p103 fu k13 k25 v1 v2 v3 g L = some (res, s9) → va_P G.1 vwCl (zw G MS 51 a g L) H → va_D A (zw G MS 51 a g L) → va_S A s.heap H locs → lv_has ls 4 [(0, .ref (a 0)), (1, .int v1), (2, .int v2), (3, .int v3)] → W p l e { frames := 12, cells := 0, slots := 0, locals := 251 } s m [.ref (a 0)].toArray below meth c H locs 0 0 (MQ below ((kQi G (S := Unit) (fun r' _ => r' = res) (fun _ => zw G MS 51 a s9.1 s9.2)) A) [.ref (a 0)].toArray s 0 0 A) (F0 m 103 ls []) := by
            intro v1 v3 g L H locs ls h hP hD hS hl
            unfold fX12_streams_p103 at h
            refine lv_iinc (v := (v3 + 1)) (lv' := [(3, .int (v3 + 1)), (0, .ref (a 0)), (1, .int v1), (2, .int v2)]) hx hb dX12_streams_103 hl (k := 3) rfl rfl (by decide) rfl (fun ls hl => ?_)
            refine lv_goto (tgt := 25) hx hb dX12_streams_106 (by decide) ?_
            exact ih25 (v1, (v3 + 1), g, L) h H locs ls hP hD hS (lv_sub hl [1, 2, 3, 0] rfl)
          refine lv_icmp_ne (x := (g 47 (Int32.toNatClampNeg v2))) (y := (g 47 (Int32.toNatClampNeg v3))) (tgt := 51) hx hb dX12_streams_45 (by decide) (fun c9 => ?_) (fun c9 => ?_)
          ·
            have h := ite_e c9 h
            refine lv_iload_n hx hb dX12_streams_51 rfl (lv_at hl 1 rfl) ?_
            refine lv_aload_n hx hb dX12_streams_52 rfl (lv_at hl 0 rfl) ?_
            refine x_getr (Or.inl fl_X12_159) C hP (by decide) ms_0 rfl dX12_streams_53 ?_
            refine lv_iload_n hx hb dX12_streams_56 rfl (lv_at hl 2 rfl) ?_
            refine y_ald C hP (by decide) ms_45 dX12_streams_57 h (fun h => ?_)
            refine lv_aload_n hx hb dX12_streams_58 rfl (lv_at hl 0 rfl) ?_
            refine x_getr (Or.inl fl_X12_159) C hP (by decide) ms_0 rfl dX12_streams_59 ?_
            refine lv_iload_n hx hb dX12_streams_62 rfl (lv_at hl 3 rfl) ?_
            refine y_ald C hP (by decide) ms_45 dX12_streams_63 h (fun h => ?_)
            refine lv_aload_n hx hb dX12_streams_64 rfl (lv_at hl 0 rfl) ?_
            refine x_getr (Or.inl fl_X12_162) C hP (by decide) ms_0 rfl dX12_streams_65 ?_
            refine lv_iload_n hx hb dX12_streams_68 rfl (lv_at hl 3 rfl) ?_
            refine y_ald C hP (by decide) ms_46 dX12_streams_69 h (fun h => ?_)
            refine lv_iadd hx hb dX12_streams_70 ?_
            have J101 : ∀ (v3 : Int32) (t0 : Int32) (t1 : Int32) (g : Nat → Nat → Int32) (L : Nat → Nat → Int64) (H : Heap) (locs : List Loc) (ls : Array Slot), fX12_streams_p101 fu k13 k25 v2 v3 t0 t1 g L = some (res, s9) → va_P G.1 vwCl (zw G MS 51 a g L) H → va_D A (zw G MS 51 a g L) → va_S A s.heap H locs → lv_has ls 4 [(0, .ref (a 0)), (2, .int v2), (3, .int v3)] → W p l e { frames := 12, cells := 0, slots := 0, locals := 251 } s m [.ref (a 0)].toArray below meth c H locs 0 0 (MQ below ((kQi G (S := Unit) (fun r' _ => r' = res) (fun _ => zw G MS 51 a s9.1 s9.2)) A) [.ref (a 0)].toArray s 0 0 A) (F0 m 101 ls [.int t0, .int t1]) := by
              intro v3 t0 t1 g L H locs ls h hP hD hS hl
              unfold fX12_streams_p101 at h
              refine lv_iadd hx hb dX12_streams_101 ?_
              refine y_let h (fun x10 h => ?_)
              refine lv_istore_n (lv' := [(1, .int x10), (0, .ref (a 0)), (2, .int v2), (3, .int v3)]) hx hb dX12_streams_102 rfl hl (by decide) rfl (fun ls hl => ?_)
              exact J103 x10 v3 g L H locs ls h hP hD hS (lv_sub hl [1, 0, 2, 3] rfl)
            have J100 : ∀ (v3 : Int32) (t0 : Int32) (g : Nat → Nat → Int32) (L : Nat → Nat → Int64) (H : Heap) (locs : List Loc) (ls : Array Slot), fX12_streams_p100 fu k13 k25 v2 v3 t0 g L = some (res, s9) → va_P G.1 vwCl (zw G MS 51 a g L) H → va_D A (zw G MS 51 a g L) → va_S A s.heap H locs → lv_has ls 4 [(0, .ref (a 0)), (2, .int v2), (3, .int v3)] → W p l e { frames := 12, cells := 0, slots := 0, locals := 251 } s m [.ref (a 0)].toArray below meth c H locs 0 0 (MQ below ((kQi G (S := Unit) (fun r' _ => r' = res) (fun _ => zw G MS 51 a s9.1 s9.2)) A) [.ref (a 0)].toArray s 0 0 A) (F0 m 100 ls [.int t0]) := by
              intro v3 t0 g L H locs ls h hP hD hS hl
              unfold fX12_streams_p100 at h
              refine lv_iconst (v := 0) hx hb dX12_streams_100 (by decide) ?_
              exact J101 v3 0 t0 g L H locs ls h hP hD hS (lv_sub hl [0, 1, 2] rfl)
            refine lv_icmp_ge (x := (g 45 (Int32.toNatClampNeg v2))) (y := ((g 45 (Int32.toNatClampNeg v3)) + (g 46 (Int32.toNatClampNeg v3)))) (tgt := 100) hx hb dX12_streams_71 (by decide) (fun c11 => ?_) (fun c11 => ?_)
            ·
              have h := ite_t c11 h
              exact J100 v3 v1 g L H locs ls h hP hD hS (lv_sub hl [0, 2, 3] rfl)
            ·
              have h := ite_e c11 h
              refine lv_aload_n hx hb dX12_streams_74 rfl (lv_at hl 0 rfl) ?_
              refine x_getr (Or.inl fl_X12_159) C hP (by decide) ms_0 rfl dX12_streams_75 ?_
              refine lv_iload_n hx hb dX12_streams_78 rfl (lv_at hl 3 rfl) ?_
              refine y_ald C hP (by decide) ms_45 dX12_streams_79 h (fun h => ?_)
              refine lv_aload_n hx hb dX12_streams_80 rfl (lv_at hl 0 rfl) ?_
              refine x_getr (Or.inl fl_X12_159) C hP (by decide) ms_0 rfl dX12_streams_81 ?_
              refine lv_iload_n hx hb dX12_streams_84 rfl (lv_at hl 2 rfl) ?_
              refine y_ald C hP (by decide) ms_45 dX12_streams_85 h (fun h => ?_)
              refine lv_aload_n hx hb dX12_streams_86 rfl (lv_at hl 0 rfl) ?_
              refine x_getr (Or.inl fl_X12_162) C hP (by decide) ms_0 rfl dX12_streams_87 ?_
              refine lv_iload_n hx hb dX12_streams_90 rfl (lv_at hl 2 rfl) ?_
              refine y_ald C hP (by decide) ms_46 dX12_streams_91 h (fun h => ?_)
              refine lv_iadd hx hb dX12_streams_92 ?_
              refine lv_icmp_ge (x := (g 45 (Int32.toNatClampNeg v3))) (y := ((g 45 (Int32.toNatClampNeg v2)) + (g 46 (Int32.toNatClampNeg v2)))) (tgt := 100) hx hb dX12_streams_93 (by decide) (fun c12 => ?_) (fun c12 => ?_)
              ·
                have h := ite_t c12 h
                exact J100 v3 v1 g L H locs ls h hP hD hS (lv_sub hl [0, 2, 3] rfl)
              ·
                have h := ite_e c12 h
                refine lv_iconst (v := 1) hx hb dX12_streams_96 (by decide) ?_
                refine lv_goto (tgt := 101) hx hb dX12_streams_97 (by decide) ?_
                exact J101 v3 1 v1 g L H locs ls h hP hD hS (lv_sub hl [0, 2, 3] rfl)
          ·
            have h := ite_t c9 h
            refine lv_goto (tgt := 103) hx hb dX12_streams_48 (by decide) ?_
            exact J103 v1 v3 g L H locs ls h hP hD hS (lv_sub hl [0, 1, 2, 3] rfl)
      exact lp25 v2 fu (v1, x7, g, L) h H locs ls hP hD hS (lv_sub hl [1, 2, 3, 0] rfl)
  exact lp13 trivial fu (0, 0, g3, L4) h H locs ls hP hD hS (lv_sub hl [2, 1, 0] rfl)
def fX12_onStair_p55 (fu : Nat) (k4 : Int32 × Int32 × (Nat → Nat → Int32) × (Nat → Nat → Int64) → Option ((Int32) × zS)) (v1 : Int32) (v3 : Int32) (t0 : Int32) (t1 : Int32) (g : Nat → Nat → Int32) (L : Nat → Nat → Int64) : Option ((Int32) × zS) :=
  lti (t1 + t0) (fun x2 =>
  k4 (x2, (v3 + 1), g, L))
def fX12_onStair_p54 (fu : Nat) (k4 : Int32 × Int32 × (Nat → Nat → Int32) × (Nat → Nat → Int64) → Option ((Int32) × zS)) (v1 : Int32) (v3 : Int32) (t0 : Int32) (g : Nat → Nat → Int32) (L : Nat → Nat → Int64) : Option ((Int32) × zS) :=
  fX12_onStair_p55 fu k4 v1 v3 0 t0 g L
def fX12_onStair_s4 (fu : Nat) (v1 : Int32) (k4 : Int32 × Int32 × (Nat → Nat → Int32) × (Nat → Nat → Int64) → Option ((Int32) × zS)) (v2 : Int32) (v3 : Int32) (g : Nat → Nat → Int32) (L : Nat → Nat → Int64) : Option ((Int32) × zS) :=
  if (g 0 79) ≤ v3 then some (v2, (g, L))
  else ck v3 72 (
  if v1 < (g 45 (Int32.toNatClampNeg v3)) then fX12_onStair_p54 fu k4 v1 v3 v2 g L
  else ck v3 72 (
  ck v3 72 (
  if ((g 45 (Int32.toNatClampNeg v3)) + (g 46 (Int32.toNatClampNeg v3))) ≤ v1 then fX12_onStair_p54 fu k4 v1 v3 v2 g L
  else ck v3 72 (
  ck (g 44 (Int32.toNatClampNeg v3)) 12 (
  fX12_onStair_p55 fu k4 v1 v3 (g 4 (Int32.toNatClampNeg (g 44 (Int32.toNatClampNeg v3)))) v2 g L)))))
def fX12_onStair_l4 (fu : Nat) (v1 : Int32) (v2 : Int32) (v3 : Int32) (g : Nat → Nat → Int32) (L : Nat → Nat → Int64) : Option ((Int32) × zS) :=
  whileK (fun k v => fX12_onStair_s4 fu v1 k v.1 v.2.1 v.2.2.1 v.2.2.2) fu (v2, v3, g, L)
def fX12_onStair (fu : Nat) (p1 : Int32) (g : Nat → Nat → Int32) (L : Nat → Nat → Int64) : Option ((Int32) × zS) :=
  fX12_onStair_l4 fu p1 0 0 g L
set_option maxHeartbeats 4000000 in
set_option maxRecDepth 100000 in
theorem rX12_onStair (l : Launch) (G : kG) (sz : Nat) (a : Nat → Nat) (fu : Nat) (g : Nat → Nat → Int32) (L : Nat → Nat → Int64) (p1 : Int32) (res : Int32) (s9 : zS) (h : fX12_onStair fu p1 g L = some (res, s9)) : kM l yX12_onStair cX12_onStair 4 (some .int) { frames := 6, cells := 0, slots := 0, locals := 110 } G [.ref (a 0), .int p1] (zw G MS 51 a g L) sz (kQi G (S := Unit) (fun r' _ => r' = res) (fun _ => zw G MS 51 a s9.1 s9.2)) := by
  refine kM.of (by decide) (Nat.le_of_ble_eq_true rfl) ?_
  intro p e s m below meth c A ls H C hr hlk hnm hP hD hS hl
  have C : kC G p s m c cX12_onStair 4 RX12 A := C
  have hx := C.1
  have hb := C.2.1
  have hl : lv_has ls 4 [(0, .ref (a 0)), (1, .int p1)] := hl
  obtain ⟨locs, hlocs⟩ : ∃ q : List Loc, q = [] := ⟨_, rfl⟩
  rw [← hlocs] at hS
  rw [← hlocs]
  unfold fX12_onStair at h
  refine lv_iconst (v := 0) hx hb dX12_onStair_0 (by decide) ?_
  refine lv_istore_n (lv' := [(2, .int 0), (0, .ref (a 0)), (1, .int p1)]) hx hb dX12_onStair_1 rfl hl (by decide) rfl (fun ls hl => ?_)
  refine lv_iconst (v := 0) hx hb dX12_onStair_2 (by decide) ?_
  refine lv_istore_n (lv' := [(3, .int 0), (2, .int 0), (0, .ref (a 0)), (1, .int p1)]) hx hb dX12_onStair_3 rfl hl (by decide) rfl (fun ls hl => ?_)
  have lp4 : ∀ (v1 : Int32), ∀ (n : Nat) (v : Int32 × Int32 × (Nat → Nat → Int32) × (Nat → Nat → Int64)), whileK (fun k v => fX12_onStair_s4 fu v1 k v.1 v.2.1 v.2.2.1 v.2.2.2) n v = some (res, s9) → ∀ (H : Heap) (locs : List Loc) (ls : Array Slot), va_P G.1 vwCl (zw G MS 51 a (v.2.2.1) (v.2.2.2)) H → va_D A (zw G MS 51 a (v.2.2.1) (v.2.2.2)) → va_S A s.heap H locs → lv_has ls 4 [(0, .ref (a 0)), (1, .int v1), (2, .int (v.1)), (3, .int (v.2.1))] → W p l e { frames := 6, cells := 0, slots := 0, locals := 110 } s m [.ref (a 0), .int p1].toArray below meth c H locs 0 0 (MQ below ((kQi G (S := Unit) (fun r' _ => r' = res) (fun _ => zw G MS 51 a s9.1 s9.2)) A) [.ref (a 0), .int p1].toArray s 0 0 A) (F0 m 4 ls []) := by
    intro v1
    refine while_ind (fun k4 ih4 v h => ?_)
    obtain ⟨v2, v3, g, L⟩ := v
    intro H locs ls hP hD hS hl
    have h : fX12_onStair_s4 fu v1 k4 v2 v3 g L = some (res, s9) := h
    have hP : va_P G.1 vwCl (zw G MS 51 a g L) H := hP
    have hD : va_D A (zw G MS 51 a g L) := hD
    have hl : lv_has ls 4 [(0, .ref (a 0)), (1, .int v1), (2, .int v2), (3, .int v3)] := hl
    show W p l e { frames := 6, cells := 0, slots := 0, locals := 110 } s m [.ref (a 0), .int p1].toArray below meth c H locs 0 0 (MQ below ((kQi G (S := Unit) (fun r' _ => r' = res) (fun _ => zw G MS 51 a s9.1 s9.2)) A) [.ref (a 0), .int p1].toArray s 0 0 A) (F0 m 4 ls [])
    unfold fX12_onStair_s4 at h
    refine lv_iload_n hx hb dX12_onStair_4 rfl (lv_at hl 3 rfl) ?_
    refine lv_aload_n hx hb dX12_onStair_5 rfl (lv_at hl 0 rfl) ?_
    refine x_getv (v := .int (g 0 79)) (Or.inl fl_X12_465) C hP (by decide) ms_0 rfl dX12_onStair_6 ?_
    refine lv_icmp_ge (x := v3) (y := (g 0 79)) (tgt := 63) hx hb dX12_onStair_9 (by decide) (fun c1 => ?_) (fun c1 => ?_)
    ·
      have h := ite_t c1 h
      refine lv_iload_n hx hb dX12_onStair_63 rfl (lv_at hl 2 rfl) ?_
      exact y_iret C hr hlk hP hD hS h (Nat.le_of_ble_eq_true rfl) (Nat.le_of_ble_eq_true rfl) dX12_onStair_64
    ·
      have h := ite_e c1 h
      refine lv_iload_n hx hb dX12_onStair_12 rfl (lv_at hl 2 rfl) ?_
      refine lv_iload_n hx hb dX12_onStair_13 rfl (lv_at hl 1 rfl) ?_
      refine lv_aload_n hx hb dX12_onStair_14 rfl (lv_at hl 0 rfl) ?_
      refine x_getr (Or.inl fl_X12_159) C hP (by decide) ms_0 rfl dX12_onStair_15 ?_
      refine lv_iload_n hx hb dX12_onStair_18 rfl (lv_at hl 3 rfl) ?_
      refine y_ald C hP (by decide) ms_45 dX12_onStair_19 h (fun h => ?_)
      have J55 : ∀ (v3 : Int32) (t0 : Int32) (t1 : Int32) (g : Nat → Nat → Int32) (L : Nat → Nat → Int64) (H : Heap) (locs : List Loc) (ls : Array Slot), fX12_onStair_p55 fu k4 v1 v3 t0 t1 g L = some (res, s9) → va_P G.1 vwCl (zw G MS 51 a g L) H → va_D A (zw G MS 51 a g L) → va_S A s.heap H locs → lv_has ls 4 [(0, .ref (a 0)), (1, .int v1), (3, .int v3)] → W p l e { frames := 6, cells := 0, slots := 0, locals := 110 } s m [.ref (a 0), .int p1].toArray below meth c H locs 0 0 (MQ below ((kQi G (S := Unit) (fun r' _ => r' = res) (fun _ => zw G MS 51 a s9.1 s9.2)) A) [.ref (a 0), .int p1].toArray s 0 0 A) (F0 m 55 ls [.int t0, .int t1]) := by
        intro v3 t0 t1 g L H locs ls h hP hD hS hl
        unfold fX12_onStair_p55 at h
        refine lv_iadd hx hb dX12_onStair_55 ?_
        refine y_let h (fun x2 h => ?_)
        refine lv_istore_n (lv' := [(2, .int x2), (0, .ref (a 0)), (1, .int v1), (3, .int v3)]) hx hb dX12_onStair_56 rfl hl (by decide) rfl (fun ls hl => ?_)
        refine lv_iinc (v := (v3 + 1)) (lv' := [(3, .int (v3 + 1)), (2, .int x2), (0, .ref (a 0)), (1, .int v1)]) hx hb dX12_onStair_57 hl (k := 3) rfl rfl (by decide) rfl (fun ls hl => ?_)
        refine lv_goto (tgt := 4) hx hb dX12_onStair_60 (by decide) ?_
        exact ih4 (x2, (v3 + 1), g, L) h H locs ls hP hD hS (lv_sub hl [2, 3, 1, 0] rfl)
      have J54 : ∀ (v3 : Int32) (t0 : Int32) (g : Nat → Nat → Int32) (L : Nat → Nat → Int64) (H : Heap) (locs : List Loc) (ls : Array Slot), fX12_onStair_p54 fu k4 v1 v3 t0 g L = some (res, s9) → va_P G.1 vwCl (zw G MS 51 a g L) H → va_D A (zw G MS 51 a g L) → va_S A s.heap H locs → lv_has ls 4 [(0, .ref (a 0)), (1, .int v1), (3, .int v3)] → W p l e { frames := 6, cells := 0, slots := 0, locals := 110 } s m [.ref (a 0), .int p1].toArray below meth c H locs 0 0 (MQ below ((kQi G (S := Unit) (fun r' _ => r' = res) (fun _ => zw G MS 51 a s9.1 s9.2)) A) [.ref (a 0), .int p1].toArray s 0 0 A) (F0 m 54 ls [.int t0]) := by
        intro v3 t0 g L H locs ls h hP hD hS hl
        unfold fX12_onStair_p54 at h
        refine lv_iconst (v := 0) hx hb dX12_onStair_54 (by decide) ?_
        exact J55 v3 0 t0 g L H locs ls h hP hD hS (lv_sub hl [0, 1, 2] rfl)
      refine lv_icmp_lt (x := v1) (y := (g 45 (Int32.toNatClampNeg v3))) (tgt := 54) hx hb dX12_onStair_20 (by decide) (fun c3 => ?_) (fun c3 => ?_)
      ·
        have h := ite_t c3 h
        exact J54 v3 v2 g L H locs ls h hP hD hS (lv_sub hl [0, 1, 3] rfl)
      ·
        have h := ite_e c3 h
        refine lv_iload_n hx hb dX12_onStair_23 rfl (lv_at hl 1 rfl) ?_
        refine lv_aload_n hx hb dX12_onStair_24 rfl (lv_at hl 0 rfl) ?_
        refine x_getr (Or.inl fl_X12_159) C hP (by decide) ms_0 rfl dX12_onStair_25 ?_
        refine lv_iload_n hx hb dX12_onStair_28 rfl (lv_at hl 3 rfl) ?_
        refine y_ald C hP (by decide) ms_45 dX12_onStair_29 h (fun h => ?_)
        refine lv_aload_n hx hb dX12_onStair_30 rfl (lv_at hl 0 rfl) ?_
        refine x_getr (Or.inl fl_X12_162) C hP (by decide) ms_0 rfl dX12_onStair_31 ?_
        refine lv_iload_n hx hb dX12_onStair_34 rfl (lv_at hl 3 rfl) ?_
        refine y_ald C hP (by decide) ms_46 dX12_onStair_35 h (fun h => ?_)
        refine lv_iadd hx hb dX12_onStair_36 ?_
        refine lv_icmp_ge (x := v1) (y := ((g 45 (Int32.toNatClampNeg v3)) + (g 46 (Int32.toNatClampNeg v3)))) (tgt := 54) hx hb dX12_onStair_37 (by decide) (fun c4 => ?_) (fun c4 => ?_)
        ·
          have h := ite_t c4 h
          exact J54 v3 v2 g L H locs ls h hP hD hS (lv_sub hl [0, 1, 3] rfl)
        ·
          have h := ite_e c4 h
          refine lv_aload_n hx hb dX12_onStair_40 rfl (lv_at hl 0 rfl) ?_
          refine x_getr (Or.inl fl_X12_26) C hP (by decide) ms_0 rfl dX12_onStair_41 ?_
          refine lv_aload_n hx hb dX12_onStair_44 rfl (lv_at hl 0 rfl) ?_
          refine x_getr (Or.inl fl_X12_156) C hP (by decide) ms_0 rfl dX12_onStair_45 ?_
          refine lv_iload_n hx hb dX12_onStair_48 rfl (lv_at hl 3 rfl) ?_
          refine y_ald C hP (by decide) ms_44 dX12_onStair_49 h (fun h => ?_)
          refine y_ald C hP (by decide) ms_4 dX12_onStair_50 h (fun h => ?_)
          refine lv_goto (tgt := 55) hx hb dX12_onStair_51 (by decide) ?_
          exact J55 v3 (g 4 (Int32.toNatClampNeg (g 44 (Int32.toNatClampNeg v3)))) v2 g L H locs ls h hP hD hS (lv_sub hl [0, 1, 3] rfl)
  exact lp4 p1 fu (0, 0, g, L) h H locs ls hP hD hS (lv_sub hl [2, 3, 1, 0] rfl)
def fX12_on_p30 (fu : Nat) (g : Nat → Nat → Int32) (L : Nat → Nat → Int64) : Option ((Int32) × zS) :=
  some (0, (g, L))
def fX12_on_p92 (fu : Nat) (k52 : Int32 × Int32 × (Nat → Nat → Int32) × (Nat → Nat → Int64) → Option ((Int32) × zS)) (v1 : Int32) (v4 : Int32) (t0 : Int32) (t1 : Int32) (g : Nat → Nat → Int32) (L : Nat → Nat → Int64) : Option ((Int32) × zS) :=
  lti (t1 ||| t0) (fun x22 =>
  k52 (x22, (v4 + 1), g, L))
def fX12_on_p91 (fu : Nat) (k52 : Int32 × Int32 × (Nat → Nat → Int32) × (Nat → Nat → Int64) → Option ((Int32) × zS)) (v1 : Int32) (v4 : Int32) (t0 : Int32) (g : Nat → Nat → Int32) (L : Nat → Nat → Int64) : Option ((Int32) × zS) :=
  fX12_on_p92 fu k52 v1 v4 0 t0 g L
def fX12_on_s52 (fu : Nat) (v1 : Int32) (k52 : Int32 × Int32 × (Nat → Nat → Int32) × (Nat → Nat → Int64) → Option ((Int32) × zS)) (v3 : Int32) (v4 : Int32) (g : Nat → Nat → Int32) (L : Nat → Nat → Int64) : Option ((Int32) × zS) :=
  if (g 0 1) ≤ v4 then some (v3, (g, L))
  else ck v4 12 (
  if v1 < (g 31 (Int32.toNatClampNeg v4)) then fX12_on_p91 fu k52 v1 v4 v3 g L
  else ck v4 12 (
  if (g 32 (Int32.toNatClampNeg v4)) ≤ v1 then fX12_on_p91 fu k52 v1 v4 v3 g L
  else fX12_on_p92 fu k52 v1 v4 ((1 : Int32) <<< ((v4 : Int32) &&& 31) : Int32) v3 g L))
def fX12_on_l52 (fu : Nat) (v1 : Int32) (v3 : Int32) (v4 : Int32) (g : Nat → Nat → Int32) (L : Nat → Nat → Int64) : Option ((Int32) × zS) :=
  whileK (fun k v => fX12_on_s52 fu v1 k v.1 v.2.1 v.2.2.1 v.2.2.2) fu (v3, v4, g, L)
def fX12_on (fu : Nat) (p1 : Int32) (p2 : Int32) (g : Nat → Nat → Int32) (L : Nat → Nat → Int64) : Option ((Int32) × zS) :=
  sti g 0 0 0 (fun g1 =>
  cb (fX12_isWhat fu p2 1 g1 L) (fun x2 g3 L4 =>
  if x2 = 0 then fX12_on_p30 fu g3 L4
  else cb (fX12_within fu p1 0 4000 g3 L4) (fun x7 g8 L9 =>
  cb (fX12_right fu x7 2 g8 L9) (fun x11 g12 L13 =>
  if x11 = 0 then fX12_on_p30 fu g12 L13
  else cb (fX12_ways fu g12 L13) (fun x16 g17 L18 =>
  if (p2 : Int32) = 1 then cb (fX12_onStair fu p1 g17 L18) (fun x25 g26 L27 =>
  some (x25, (g26, L27)))
  else fX12_on_l52 fu p1 0 0 g17 L18)))))
set_option maxHeartbeats 4000000 in
set_option maxRecDepth 100000 in
theorem rX12_on (l : Launch) (G : kG) (sz : Nat) (a : Nat → Nat) (fu : Nat) (g : Nat → Nat → Int32) (L : Nat → Nat → Int64) (p1 : Int32) (p2 : Int32) (res : Int32) (s9 : zS) (h : fX12_on fu p1 p2 g L = some (res, s9)) : kM l yX12_on cX12_on 5 (some .int) { frames := 12, cells := 0, slots := 0, locals := 251 } G [.ref (a 0), .int p1, .int p2] (zw G MS 51 a g L) sz (kQi G (S := Unit) (fun r' _ => r' = res) (fun _ => zw G MS 51 a s9.1 s9.2)) := by
  refine kM.of (by decide) (Nat.le_of_ble_eq_true rfl) ?_
  intro p e s m below meth c A ls H C hr hlk hnm hP hD hS hl
  have C : kC G p s m c cX12_on 5 RX12 A := C
  have hx := C.1
  have hb := C.2.1
  have hl : lv_has ls 5 [(0, .ref (a 0)), (1, .int p1), (2, .int p2)] := hl
  obtain ⟨locs, hlocs⟩ : ∃ q : List Loc, q = [] := ⟨_, rfl⟩
  rw [← hlocs] at hS
  rw [← hlocs]
  unfold fX12_on at h
  refine lv_aload_n hx hb dX12_on_0 rfl (lv_at hl 0 rfl) ?_
  refine lv_iconst (v := 0) hx hb dX12_on_1 (by decide) ?_
  refine y_puti (Or.inl fl_X12_177) ft_X12_0 C hP hD hS (by decide) ms_0 rfl rfl rfl dX12_on_2 h (fun g1 H locs h hP hD hS => ?_)
  refine lv_aload_n hx hb dX12_on_5 rfl (lv_at hl 0 rfl) ?_
  refine lv_iload_n hx hb dX12_on_6 rfl (lv_at hl 2 rfl) ?_
  refine lv_iconst (v := 1) hx hb dX12_on_7 (by decide) ?_
  obtain ⟨z_, g3, L4, hf5, h⟩ := cb_some h
  refine x_callVi (rest := []) li_X12_405 C (rX12_isWhat l G H.size a fu g1 L p2 1 z_ (g3, L4) hf5) (kR rfl) hP hD hS 0 12 rfl (zat (by decide) ms_0) rfl hl.1 rfl (Nat.le_of_ble_eq_true rfl) dX12_on_8 (fun x2 u_ H locs e_ hP hD hS => ?_)
  have e_ : x2 = z_ := e_
  subst e_
  have hP : va_P G.1 vwCl (zw G MS 51 a g3 L4) H := hP
  have hD : va_D A (zw G MS 51 a g3 L4) := hD
  have J30 : ∀ (g : Nat → Nat → Int32) (L : Nat → Nat → Int64) (H : Heap) (locs : List Loc) (ls : Array Slot), fX12_on_p30 fu g L = some (res, s9) → va_P G.1 vwCl (zw G MS 51 a g L) H → va_D A (zw G MS 51 a g L) → va_S A s.heap H locs → lv_has ls 5 [] → W p l e { frames := 12, cells := 0, slots := 0, locals := 251 } s m [.ref (a 0), .int p1, .int p2].toArray below meth c H locs 0 0 (MQ below ((kQi G (S := Unit) (fun r' _ => r' = res) (fun _ => zw G MS 51 a s9.1 s9.2)) A) [.ref (a 0), .int p1, .int p2].toArray s 0 0 A) (F0 m 30 ls []) := by
    intro g L H locs ls h hP hD hS hl
    unfold fX12_on_p30 at h
    refine lv_iconst (v := 0) hx hb dX12_on_30 (by decide) ?_
    exact y_iret C hr hlk hP hD hS h (Nat.le_of_ble_eq_true rfl) (Nat.le_of_ble_eq_true rfl) dX12_on_31
  refine lv_if_eq (x := x2) (tgt := 30) hx hb dX12_on_11 (by decide) (fun c6 => ?_) (fun c6 => ?_)
  ·
    have h := ite_t c6 h
    exact J30 g3 L4 H locs ls h hP hD hS (lv_sub hl [] rfl)
  ·
    have h := ite_e c6 h
    refine lv_aload_n hx hb dX12_on_14 rfl (lv_at hl 0 rfl) ?_
    refine lv_iload_n hx hb dX12_on_15 rfl (lv_at hl 1 rfl) ?_
    refine lv_iconst (v := 0) hx hb dX12_on_16 (by decide) ?_
    refine lv_sipush (v := 4000) hx hb dX12_on_17 (by decide) ?_
    obtain ⟨z_, g8, L9, hf10, h⟩ := cb_some h
    refine x_callSi (rest := [.ref (a 0)]) li_X12_392 C (rX12_within l G H.size a fu g3 L4 p1 0 4000 z_ (g8, L9) hf10) (kR rfl) hP hD hS rfl hl.1 rfl (Nat.le_of_ble_eq_true rfl) dX12_on_20 (fun x7 u_ H locs e_ hP hD hS => ?_)
    have e_ : x7 = z_ := e_
    subst e_
    have hP : va_P G.1 vwCl (zw G MS 51 a g8 L9) H := hP
    have hD : va_D A (zw G MS 51 a g8 L9) := hD
    refine lv_iconst (v := 2) hx hb dX12_on_23 (by decide) ?_
    obtain ⟨z_, g12, L13, hf14, h⟩ := cb_some h
    refine x_callVi (rest := []) li_X12_328 C (rX12_right l G H.size a fu g8 L9 x7 2 z_ (g12, L13) hf14) (kR rfl) hP hD hS 0 12 rfl (zat (by decide) ms_0) rfl hl.1 rfl (Nat.le_of_ble_eq_true rfl) dX12_on_24 (fun x11 u_ H locs e_ hP hD hS => ?_)
    have e_ : x11 = z_ := e_
    subst e_
    have hP : va_P G.1 vwCl (zw G MS 51 a g12 L13) H := hP
    have hD : va_D A (zw G MS 51 a g12 L13) := hD
    refine lv_if_ne (x := x11) (tgt := 32) hx hb dX12_on_27 (by decide) (fun c15 => ?_) (fun c15 => ?_)
    ·
      have h := ite_e c15 h
      refine lv_aload_n hx hb dX12_on_32 rfl (lv_at hl 0 rfl) ?_
      obtain ⟨z_, g17, L18, hf19, h⟩ := cb_some h
      refine x_callVv (rest := []) li_X12_468 C (rX12_ways l G H.size a fu g12 L13 z_ (g17, L18) hf19) (kR rfl) hP hD hS 0 12 rfl (zat (by decide) ms_0) rfl hl.1 rfl (Nat.le_of_ble_eq_true rfl) dX12_on_33 (fun u_ H locs e_ hP hD hS => ?_)
      have hP : va_P G.1 vwCl (zw G MS 51 a g17 L18) H := hP
      have hD : va_D A (zw G MS 51 a g17 L18) := hD
      refine lv_iload_n hx hb dX12_on_36 rfl (lv_at hl 2 rfl) ?_
      refine lv_iconst (v := 1) hx hb dX12_on_37 (by decide) ?_
      refine lv_icmp_ne (x := p2) (y := 1) (tgt := 47) hx hb dX12_on_38 (by decide) (fun c20 => ?_) (fun c20 => ?_)
      ·
        have h := ite_e c20 h
        refine lv_iconst (v := 0) hx hb dX12_on_47 (by decide) ?_
        refine lv_istore_n (lv' := [(3, .int 0), (0, .ref (a 0)), (1, .int p1), (2, .int p2)]) hx hb dX12_on_48 rfl hl (by decide) rfl (fun ls hl => ?_)
        refine lv_iconst (v := 0) hx hb dX12_on_49 (by decide) ?_
        refine lv_istore (lv' := [(4, .int 0), (3, .int 0), (0, .ref (a 0)), (1, .int p1), (2, .int p2)]) hx hb dX12_on_50 hl (by decide) rfl (fun ls hl => ?_)
        have lp52 : ∀ (v1 : Int32), ∀ (n : Nat) (v : Int32 × Int32 × (Nat → Nat → Int32) × (Nat → Nat → Int64)), whileK (fun k v => fX12_on_s52 fu v1 k v.1 v.2.1 v.2.2.1 v.2.2.2) n v = some (res, s9) → ∀ (H : Heap) (locs : List Loc) (ls : Array Slot), va_P G.1 vwCl (zw G MS 51 a (v.2.2.1) (v.2.2.2)) H → va_D A (zw G MS 51 a (v.2.2.1) (v.2.2.2)) → va_S A s.heap H locs → lv_has ls 5 [(0, .ref (a 0)), (1, .int v1), (3, .int (v.1)), (4, .int (v.2.1))] → W p l e { frames := 12, cells := 0, slots := 0, locals := 251 } s m [.ref (a 0), .int p1, .int p2].toArray below meth c H locs 0 0 (MQ below ((kQi G (S := Unit) (fun r' _ => r' = res) (fun _ => zw G MS 51 a s9.1 s9.2)) A) [.ref (a 0), .int p1, .int p2].toArray s 0 0 A) (F0 m 52 ls []) := by
          intro v1
          refine while_ind (fun k52 ih52 v h => ?_)
          obtain ⟨v3, v4, g, L⟩ := v
          intro H locs ls hP hD hS hl
          have h : fX12_on_s52 fu v1 k52 v3 v4 g L = some (res, s9) := h
          have hP : va_P G.1 vwCl (zw G MS 51 a g L) H := hP
          have hD : va_D A (zw G MS 51 a g L) := hD
          have hl : lv_has ls 5 [(0, .ref (a 0)), (1, .int v1), (3, .int v3), (4, .int v4)] := hl
          show W p l e { frames := 12, cells := 0, slots := 0, locals := 251 } s m [.ref (a 0), .int p1, .int p2].toArray below meth c H locs 0 0 (MQ below ((kQi G (S := Unit) (fun r' _ => r' = res) (fun _ => zw G MS 51 a s9.1 s9.2)) A) [.ref (a 0), .int p1, .int p2].toArray s 0 0 A) (F0 m 52 ls [])
          unfold fX12_on_s52 at h
          refine lv_iload hx hb dX12_on_52 (lv_at hl 3 rfl) ?_
          refine lv_aload_n hx hb dX12_on_54 rfl (lv_at hl 0 rfl) ?_
          refine x_getv (v := .int (g 0 1)) (Or.inl fl_X12_335) C hP (by decide) ms_0 rfl dX12_on_55 ?_
          refine lv_icmp_ge (x := v4) (y := (g 0 1)) (tgt := 100) hx hb dX12_on_58 (by decide) (fun c21 => ?_) (fun c21 => ?_)
          ·
            have h := ite_t c21 h
            refine lv_iload_n hx hb dX12_on_100 rfl (lv_at hl 2 rfl) ?_
            exact y_iret C hr hlk hP hD hS h (Nat.le_of_ble_eq_true rfl) (Nat.le_of_ble_eq_true rfl) dX12_on_101
          ·
            have h := ite_e c21 h
            refine lv_iload_n hx hb dX12_on_61 rfl (lv_at hl 2 rfl) ?_
            refine lv_aload_n hx hb dX12_on_62 rfl (lv_at hl 0 rfl) ?_
            refine x_getr (Or.inl fl_X12_114) C hP (by decide) ms_0 rfl dX12_on_63 ?_
            refine lv_iload hx hb dX12_on_66 (lv_at hl 3 rfl) ?_
            refine y_ald C hP (by decide) ms_31 dX12_on_68 h (fun h => ?_)
            refine lv_iload_n hx hb dX12_on_69 rfl (lv_at hl 1 rfl) ?_
            have J92 : ∀ (v4 : Int32) (t0 : Int32) (t1 : Int32) (g : Nat → Nat → Int32) (L : Nat → Nat → Int64) (H : Heap) (locs : List Loc) (ls : Array Slot), fX12_on_p92 fu k52 v1 v4 t0 t1 g L = some (res, s9) → va_P G.1 vwCl (zw G MS 51 a g L) H → va_D A (zw G MS 51 a g L) → va_S A s.heap H locs → lv_has ls 5 [(0, .ref (a 0)), (1, .int v1), (4, .int v4)] → W p l e { frames := 12, cells := 0, slots := 0, locals := 251 } s m [.ref (a 0), .int p1, .int p2].toArray below meth c H locs 0 0 (MQ below ((kQi G (S := Unit) (fun r' _ => r' = res) (fun _ => zw G MS 51 a s9.1 s9.2)) A) [.ref (a 0), .int p1, .int p2].toArray s 0 0 A) (F0 m 92 ls [.int t0, .int t1]) := by
              intro v4 t0 t1 g L H locs ls h hP hD hS hl
              unfold fX12_on_p92 at h
              refine lv_ior hx hb dX12_on_92 ?_
              refine y_let h (fun x22 h => ?_)
              refine lv_istore_n (lv' := [(3, .int x22), (0, .ref (a 0)), (1, .int v1), (4, .int v4)]) hx hb dX12_on_93 rfl hl (by decide) rfl (fun ls hl => ?_)
              refine lv_iinc (v := (v4 + 1)) (lv' := [(4, .int (v4 + 1)), (3, .int x22), (0, .ref (a 0)), (1, .int v1)]) hx hb dX12_on_94 hl (k := 3) rfl rfl (by decide) rfl (fun ls hl => ?_)
              refine lv_goto (tgt := 52) hx hb dX12_on_97 (by decide) ?_
              exact ih52 (x22, (v4 + 1), g, L) h H locs ls hP hD hS (lv_sub hl [2, 3, 1, 0] rfl)
            have J91 : ∀ (v4 : Int32) (t0 : Int32) (g : Nat → Nat → Int32) (L : Nat → Nat → Int64) (H : Heap) (locs : List Loc) (ls : Array Slot), fX12_on_p91 fu k52 v1 v4 t0 g L = some (res, s9) → va_P G.1 vwCl (zw G MS 51 a g L) H → va_D A (zw G MS 51 a g L) → va_S A s.heap H locs → lv_has ls 5 [(0, .ref (a 0)), (1, .int v1), (4, .int v4)] → W p l e { frames := 12, cells := 0, slots := 0, locals := 251 } s m [.ref (a 0), .int p1, .int p2].toArray below meth c H locs 0 0 (MQ below ((kQi G (S := Unit) (fun r' _ => r' = res) (fun _ => zw G MS 51 a s9.1 s9.2)) A) [.ref (a 0), .int p1, .int p2].toArray s 0 0 A) (F0 m 91 ls [.int t0]) := by
              intro v4 t0 g L H locs ls h hP hD hS hl
              unfold fX12_on_p91 at h
              refine lv_iconst (v := 0) hx hb dX12_on_91 (by decide) ?_
              exact J92 v4 0 t0 g L H locs ls h hP hD hS (lv_sub hl [0, 1, 2] rfl)
            refine lv_icmp_gt (x := (g 31 (Int32.toNatClampNeg v4))) (y := v1) (tgt := 91) hx hb dX12_on_70 (by decide) (fun c23 => ?_) (fun c23 => ?_)
            ·
              have h := ite_t c23 h
              exact J91 v4 v3 g L H locs ls h hP hD hS (lv_sub hl [0, 1, 3] rfl)
            ·
              have h := ite_e c23 h
              refine lv_iload_n hx hb dX12_on_73 rfl (lv_at hl 1 rfl) ?_
              refine lv_aload_n hx hb dX12_on_74 rfl (lv_at hl 0 rfl) ?_
              refine x_getr (Or.inl fl_X12_117) C hP (by decide) ms_0 rfl dX12_on_75 ?_
              refine lv_iload hx hb dX12_on_78 (lv_at hl 3 rfl) ?_
              refine y_ald C hP (by decide) ms_32 dX12_on_80 h (fun h => ?_)
              refine lv_icmp_ge (x := v1) (y := (g 32 (Int32.toNatClampNeg v4))) (tgt := 91) hx hb dX12_on_81 (by decide) (fun c24 => ?_) (fun c24 => ?_)
              ·
                have h := ite_t c24 h
                exact J91 v4 v3 g L H locs ls h hP hD hS (lv_sub hl [0, 1, 3] rfl)
              ·
                have h := ite_e c24 h
                refine lv_iconst (v := 1) hx hb dX12_on_84 (by decide) ?_
                refine lv_iload hx hb dX12_on_85 (lv_at hl 3 rfl) ?_
                refine lv_ishl hx hb dX12_on_87 ?_
                refine lv_goto (tgt := 92) hx hb dX12_on_88 (by decide) ?_
                exact J92 v4 ((1 : Int32) <<< ((v4 : Int32) &&& 31) : Int32) v3 g L H locs ls h hP hD hS (lv_sub hl [0, 1, 3] rfl)
        exact lp52 p1 fu (0, 0, g17, L18) h H locs ls hP hD hS (lv_sub hl [2, 3, 1, 0] rfl)
      ·
        have h := ite_t c20 h
        refine lv_aload_n hx hb dX12_on_41 rfl (lv_at hl 0 rfl) ?_
        refine lv_iload_n hx hb dX12_on_42 rfl (lv_at hl 1 rfl) ?_
        obtain ⟨z_, g26, L27, hf28, h⟩ := cb_some h
        refine x_callVi (rest := []) li_X12_471 C (rX12_onStair l G H.size a fu g17 L18 p1 z_ (g26, L27) hf28) (kR rfl) hP hD hS 0 12 rfl (zat (by decide) ms_0) rfl hl.1 rfl (Nat.le_of_ble_eq_true rfl) dX12_on_43 (fun x25 u_ H locs e_ hP hD hS => ?_)
        have e_ : x25 = z_ := e_
        subst e_
        have hP : va_P G.1 vwCl (zw G MS 51 a g26 L27) H := hP
        have hD : va_D A (zw G MS 51 a g26 L27) := hD
        exact y_iret C hr hlk hP hD hS h (Nat.le_of_ble_eq_true rfl) (Nat.le_of_ble_eq_true rfl) dX12_on_46
    ·
      have h := ite_t c15 h
      exact J30 g12 L13 H locs ls h hP hD hS (lv_sub hl [] rfl)
def fX12_busiest_p106 (fu : Nat) (t0 : Int32) (g : Nat → Nat → Int32) (L : Nat → Nat → Int64) : Option ((Int32) × zS) :=
  some (t0, (g, L))
def fX12_busiest_p91 (fu : Nat) (k27 : Int32 × Int32 × Int32 × (Nat → Nat → Int32) × (Nat → Nat → Int64) → Option ((Int32) × zS)) (v1 : Int32) (v2 : Int32) (v3 : Int32) (v4 : Int32) (g : Nat → Nat → Int32) (L : Nat → Nat → Int64) : Option ((Int32) × zS) :=
  k27 (v2, v3, (v4 + 1), g, L)
def fX12_busiest_p80 (fu : Nat) (k27 : Int32 × Int32 × Int32 × (Nat → Nat → Int32) × (Nat → Nat → Int64) → Option ((Int32) × zS)) (v1 : Int32) (v4 : Int32) (v5 : Int32) (g : Nat → Nat → Int32) (L : Nat → Nat → Int64) : Option ((Int32) × zS) :=
  ck v4 72 (
  lti (g 45 (Int32.toNatClampNeg v4)) (fun x18 =>
  fX12_busiest_p91 fu k27 v1 x18 v5 v4 g L))
def fX12_busiest_s27 (fu : Nat) (v1 : Int32) (k27 : Int32 × Int32 × Int32 × (Nat → Nat → Int32) × (Nat → Nat → Int64) → Option ((Int32) × zS)) (v2 : Int32) (v3 : Int32) (v4 : Int32) (g : Nat → Nat → Int32) (L : Nat → Nat → Int64) : Option ((Int32) × zS) :=
  if (g 0 79) ≤ v4 then (if v1 = 0 then fX12_busiest_p106 fu v3 g L
  else fX12_busiest_p106 fu v2 g L)
  else ck v4 72 (
  cb (fX12_onStair fu (g 45 (Int32.toNatClampNeg v4)) g L) (fun x13 g14 L15 =>
  if (x13 : Int32) < v3 then fX12_busiest_p91 fu k27 v1 v2 v3 v4 g14 L15
  else if (x13 : Int32) = v3 then (if (v2 : Int32) = (-1) then fX12_busiest_p80 fu k27 v1 v4 x13 g14 L15
  else ck v4 72 (
  if (g14 45 (Int32.toNatClampNeg v4)) < v2 then fX12_busiest_p80 fu k27 v1 v4 x13 g14 L15
  else fX12_busiest_p91 fu k27 v1 v2 v3 v4 g14 L15))
  else fX12_busiest_p80 fu k27 v1 v4 x13 g14 L15))
def fX12_busiest_l27 (fu : Nat) (v1 : Int32) (v2 : Int32) (v3 : Int32) (v4 : Int32) (g : Nat → Nat → Int32) (L : Nat → Nat → Int64) : Option ((Int32) × zS) :=
  whileK (fun k v => fX12_busiest_s27 fu v1 k v.1 v.2.1 v.2.2.1 v.2.2.2.1 v.2.2.2.2) fu (v2, v3, v4, g, L)
def fX12_busiest (fu : Nat) (p1 : Int32) (g : Nat → Nat → Int32) (L : Nat → Nat → Int64) : Option ((Int32) × zS) :=
  sti g 0 0 0 (fun g1 =>
  cb (fX12_isWhat fu p1 1 g1 L) (fun x2 g3 L4 =>
  if x2 = 0 then some (0, (g3, L4))
  else cb (fX12_ways fu g3 L4) (fun x7 g8 L9 =>
  fX12_busiest_l27 fu p1 (-1) 0 0 g8 L9)))
set_option maxHeartbeats 4000000 in
set_option maxRecDepth 100000 in
theorem rX12_busiest (l : Launch) (G : kG) (sz : Nat) (a : Nat → Nat) (fu : Nat) (g : Nat → Nat → Int32) (L : Nat → Nat → Int64) (p1 : Int32) (res : Int32) (s9 : zS) (h : fX12_busiest fu p1 g L = some (res, s9)) : kM l yX12_busiest cX12_busiest 6 (some .int) { frames := 12, cells := 0, slots := 0, locals := 251 } G [.ref (a 0), .int p1] (zw G MS 51 a g L) sz (kQi G (S := Unit) (fun r' _ => r' = res) (fun _ => zw G MS 51 a s9.1 s9.2)) := by
  refine kM.of (by decide) (Nat.le_of_ble_eq_true rfl) ?_
  intro p e s m below meth c A ls H C hr hlk hnm hP hD hS hl
  have C : kC G p s m c cX12_busiest 6 RX12 A := C
  have hx := C.1
  have hb := C.2.1
  have hl : lv_has ls 6 [(0, .ref (a 0)), (1, .int p1)] := hl
  obtain ⟨locs, hlocs⟩ : ∃ q : List Loc, q = [] := ⟨_, rfl⟩
  rw [← hlocs] at hS
  rw [← hlocs]
  unfold fX12_busiest at h
  refine lv_aload_n hx hb dX12_busiest_0 rfl (lv_at hl 0 rfl) ?_
  refine lv_iconst (v := 0) hx hb dX12_busiest_1 (by decide) ?_
  refine y_puti (Or.inl fl_X12_177) ft_X12_0 C hP hD hS (by decide) ms_0 rfl rfl rfl dX12_busiest_2 h (fun g1 H locs h hP hD hS => ?_)
  refine lv_aload_n hx hb dX12_busiest_5 rfl (lv_at hl 0 rfl) ?_
  refine lv_iload_n hx hb dX12_busiest_6 rfl (lv_at hl 1 rfl) ?_
  refine lv_iconst (v := 1) hx hb dX12_busiest_7 (by decide) ?_
  obtain ⟨z_, g3, L4, hf5, h⟩ := cb_some h
  refine x_callVi (rest := []) li_X12_405 C (rX12_isWhat l G H.size a fu g1 L p1 1 z_ (g3, L4) hf5) (kR rfl) hP hD hS 0 12 rfl (zat (by decide) ms_0) rfl hl.1 rfl (Nat.le_of_ble_eq_true rfl) dX12_busiest_8 (fun x2 u_ H locs e_ hP hD hS => ?_)
  have e_ : x2 = z_ := e_
  subst e_
  have hP : va_P G.1 vwCl (zw G MS 51 a g3 L4) H := hP
  have hD : va_D A (zw G MS 51 a g3 L4) := hD
  refine lv_if_ne (x := x2) (tgt := 16) hx hb dX12_busiest_11 (by decide) (fun c6 => ?_) (fun c6 => ?_)
  ·
    have h := ite_e c6 h
    refine lv_aload_n hx hb dX12_busiest_16 rfl (lv_at hl 0 rfl) ?_
    obtain ⟨z_, g8, L9, hf10, h⟩ := cb_some h
    refine x_callVv (rest := []) li_X12_468 C (rX12_ways l G H.size a fu g3 L4 z_ (g8, L9) hf10) (kR rfl) hP hD hS 0 12 rfl (zat (by decide) ms_0) rfl hl.1 rfl (Nat.le_of_ble_eq_true rfl) dX12_busiest_17 (fun u_ H locs e_ hP hD hS => ?_)
    have hP : va_P G.1 vwCl (zw G MS 51 a g8 L9) H := hP
    have hD : va_D A (zw G MS 51 a g8 L9) := hD
    refine lv_iconst (v := -1) hx hb dX12_busiest_20 (by decide) ?_
    refine lv_istore_n (lv' := [(2, .int (-1)), (0, .ref (a 0)), (1, .int p1)]) hx hb dX12_busiest_21 rfl hl (by decide) rfl (fun ls hl => ?_)
    refine lv_iconst (v := 0) hx hb dX12_busiest_22 (by decide) ?_
    refine lv_istore_n (lv' := [(3, .int 0), (2, .int (-1)), (0, .ref (a 0)), (1, .int p1)]) hx hb dX12_busiest_23 rfl hl (by decide) rfl (fun ls hl => ?_)
    refine lv_iconst (v := 0) hx hb dX12_busiest_24 (by decide) ?_
    refine lv_istore (lv' := [(4, .int 0), (3, .int 0), (2, .int (-1)), (0, .ref (a 0)), (1, .int p1)]) hx hb dX12_busiest_25 hl (by decide) rfl (fun ls hl => ?_)
    have lp27 : ∀ (v1 : Int32), ∀ (n : Nat) (v : Int32 × Int32 × Int32 × (Nat → Nat → Int32) × (Nat → Nat → Int64)), whileK (fun k v => fX12_busiest_s27 fu v1 k v.1 v.2.1 v.2.2.1 v.2.2.2.1 v.2.2.2.2) n v = some (res, s9) → ∀ (H : Heap) (locs : List Loc) (ls : Array Slot), va_P G.1 vwCl (zw G MS 51 a (v.2.2.2.1) (v.2.2.2.2)) H → va_D A (zw G MS 51 a (v.2.2.2.1) (v.2.2.2.2)) → va_S A s.heap H locs → lv_has ls 6 [(0, .ref (a 0)), (1, .int v1), (2, .int (v.1)), (3, .int (v.2.1)), (4, .int (v.2.2.1))] → W p l e { frames := 12, cells := 0, slots := 0, locals := 251 } s m [.ref (a 0), .int p1].toArray below meth c H locs 0 0 (MQ below ((kQi G (S := Unit) (fun r' _ => r' = res) (fun _ => zw G MS 51 a s9.1 s9.2)) A) [.ref (a 0), .int p1].toArray s 0 0 A) (F0 m 27 ls []) := by
      intro v1
      refine while_ind (fun k27 ih27 v h => ?_)
      obtain ⟨v2, v3, v4, g, L⟩ := v
      intro H locs ls hP hD hS hl
      have h : fX12_busiest_s27 fu v1 k27 v2 v3 v4 g L = some (res, s9) := h
      have hP : va_P G.1 vwCl (zw G MS 51 a g L) H := hP
      have hD : va_D A (zw G MS 51 a g L) := hD
      have hl : lv_has ls 6 [(0, .ref (a 0)), (1, .int v1), (2, .int v2), (3, .int v3), (4, .int v4)] := hl
      show W p l e { frames := 12, cells := 0, slots := 0, locals := 251 } s m [.ref (a 0), .int p1].toArray below meth c H locs 0 0 (MQ below ((kQi G (S := Unit) (fun r' _ => r' = res) (fun _ => zw G MS 51 a s9.1 s9.2)) A) [.ref (a 0), .int p1].toArray s 0 0 A) (F0 m 27 ls [])
      unfold fX12_busiest_s27 at h
      refine lv_iload hx hb dX12_busiest_27 (lv_at hl 4 rfl) ?_
      refine lv_aload_n hx hb dX12_busiest_29 rfl (lv_at hl 0 rfl) ?_
      refine x_getv (v := .int (g 0 79)) (Or.inl fl_X12_465) C hP (by decide) ms_0 rfl dX12_busiest_30 ?_
      refine lv_icmp_ge (x := v4) (y := (g 0 79)) (tgt := 97) hx hb dX12_busiest_33 (by decide) (fun c11 => ?_) (fun c11 => ?_)
      ·
        have h := ite_t c11 h
        refine lv_iload_n hx hb dX12_busiest_97 rfl (lv_at hl 1 rfl) ?_
        have J106 : ∀ (t0 : Int32) (g : Nat → Nat → Int32) (L : Nat → Nat → Int64) (H : Heap) (locs : List Loc) (ls : Array Slot), fX12_busiest_p106 fu t0 g L = some (res, s9) → va_P G.1 vwCl (zw G MS 51 a g L) H → va_D A (zw G MS 51 a g L) → va_S A s.heap H locs → lv_has ls 6 [] → W p l e { frames := 12, cells := 0, slots := 0, locals := 251 } s m [.ref (a 0), .int p1].toArray below meth c H locs 0 0 (MQ below ((kQi G (S := Unit) (fun r' _ => r' = res) (fun _ => zw G MS 51 a s9.1 s9.2)) A) [.ref (a 0), .int p1].toArray s 0 0 A) (F0 m 106 ls [.int t0]) := by
          intro t0 g L H locs ls h hP hD hS hl
          unfold fX12_busiest_p106 at h
          exact y_iret C hr hlk hP hD hS h (Nat.le_of_ble_eq_true rfl) (Nat.le_of_ble_eq_true rfl) dX12_busiest_106
        refine lv_if_ne (x := v1) (tgt := 105) hx hb dX12_busiest_98 (by decide) (fun c12 => ?_) (fun c12 => ?_)
        ·
          have h := ite_e c12 h
          refine lv_iload_n hx hb dX12_busiest_105 rfl (lv_at hl 2 rfl) ?_
          exact J106 v2 g L H locs ls h hP hD hS (lv_sub hl [] rfl)
        ·
          have h := ite_t c12 h
          refine lv_iload_n hx hb dX12_busiest_101 rfl (lv_at hl 3 rfl) ?_
          refine lv_goto (tgt := 106) hx hb dX12_busiest_102 (by decide) ?_
          exact J106 v3 g L H locs ls h hP hD hS (lv_sub hl [] rfl)
      ·
        have h := ite_e c11 h
        refine lv_aload_n hx hb dX12_busiest_36 rfl (lv_at hl 0 rfl) ?_
        refine lv_aload_n hx hb dX12_busiest_37 rfl (lv_at hl 0 rfl) ?_
        refine x_getr (Or.inl fl_X12_159) C hP (by decide) ms_0 rfl dX12_busiest_38 ?_
        refine lv_iload hx hb dX12_busiest_41 (lv_at hl 4 rfl) ?_
        refine y_ald C hP (by decide) ms_45 dX12_busiest_43 h (fun h => ?_)
        obtain ⟨z_, g14, L15, hf16, h⟩ := cb_some h
        refine x_callVi (rest := []) li_X12_471 C (rX12_onStair l G H.size a fu g L (g 45 (Int32.toNatClampNeg v4)) z_ (g14, L15) hf16) (kR rfl) hP hD hS 0 12 rfl (zat (by decide) ms_0) rfl hl.1 rfl (Nat.le_of_ble_eq_true rfl) dX12_busiest_44 (fun x13 u_ H locs e_ hP hD hS => ?_)
        have e_ : x13 = z_ := e_
        subst e_
        have hP : va_P G.1 vwCl (zw G MS 51 a g14 L15) H := hP
        have hD : va_D A (zw G MS 51 a g14 L15) := hD
        refine lv_istore (lv' := [(5, .int x13), (0, .ref (a 0)), (1, .int v1), (2, .int v2), (3, .int v3), (4, .int v4)]) hx hb dX12_busiest_47 hl (by decide) rfl (fun ls hl => ?_)
        refine lv_iload hx hb dX12_busiest_49 (lv_at hl 0 rfl) ?_
        refine lv_iload_n hx hb dX12_busiest_51 rfl (lv_at hl 4 rfl) ?_
        have J91 : ∀ (v2 : Int32) (v3 : Int32) (v4 : Int32) (g : Nat → Nat → Int32) (L : Nat → Nat → Int64) (H : Heap) (locs : List Loc) (ls : Array Slot), fX12_busiest_p91 fu k27 v1 v2 v3 v4 g L = some (res, s9) → va_P G.1 vwCl (zw G MS 51 a g L) H → va_D A (zw G MS 51 a g L) → va_S A s.heap H locs → lv_has ls 6 [(0, .ref (a 0)), (1, .int v1), (2, .int v2), (3, .int v3), (4, .int v4)] → W p l e { frames := 12, cells := 0, slots := 0, locals := 251 } s m [.ref (a 0), .int p1].toArray below meth c H locs 0 0 (MQ below ((kQi G (S := Unit) (fun r' _ => r' = res) (fun _ => zw G MS 51 a s9.1 s9.2)) A) [.ref (a 0), .int p1].toArray s 0 0 A) (F0 m 91 ls []) := by
          intro v2 v3 v4 g L H locs ls h hP hD hS hl
          unfold fX12_busiest_p91 at h
          refine lv_iinc (v := (v4 + 1)) (lv' := [(4, .int (v4 + 1)), (0, .ref (a 0)), (1, .int v1), (2, .int v2), (3, .int v3)]) hx hb dX12_busiest_91 hl (k := 4) rfl rfl (by decide) rfl (fun ls hl => ?_)
          refine lv_goto (tgt := 27) hx hb dX12_busiest_94 (by decide) ?_
          exact ih27 (v2, v3, (v4 + 1), g, L) h H locs ls hP hD hS (lv_sub hl [1, 2, 3, 4, 0] rfl)
        refine lv_icmp_lt (x := x13) (y := v3) (tgt := 91) hx hb dX12_busiest_52 (by decide) (fun c17 => ?_) (fun c17 => ?_)
        ·
          have h := ite_t c17 h
          exact J91 v2 v3 v4 g14 L15 H locs ls h hP hD hS (lv_sub hl [1, 2, 3, 4, 5] rfl)
        ·
          have h := ite_e c17 h
          refine lv_iload hx hb dX12_busiest_55 (lv_at hl 0 rfl) ?_
          refine lv_iload_n hx hb dX12_busiest_57 rfl (lv_at hl 4 rfl) ?_
          have J80 : ∀ (v4 : Int32) (v5 : Int32) (g : Nat → Nat → Int32) (L : Nat → Nat → Int64) (H : Heap) (locs : List Loc) (ls : Array Slot), fX12_busiest_p80 fu k27 v1 v4 v5 g L = some (res, s9) → va_P G.1 vwCl (zw G MS 51 a g L) H → va_D A (zw G MS 51 a g L) → va_S A s.heap H locs → lv_has ls 6 [(0, .ref (a 0)), (1, .int v1), (4, .int v4), (5, .int v5)] → W p l e { frames := 12, cells := 0, slots := 0, locals := 251 } s m [.ref (a 0), .int p1].toArray below meth c H locs 0 0 (MQ below ((kQi G (S := Unit) (fun r' _ => r' = res) (fun _ => zw G MS 51 a s9.1 s9.2)) A) [.ref (a 0), .int p1].toArray s 0 0 A) (F0 m 80 ls []) := by
            intro v4 v5 g L H locs ls h hP hD hS hl
            unfold fX12_busiest_p80 at h
            refine lv_aload_n hx hb dX12_busiest_80 rfl (lv_at hl 0 rfl) ?_
            refine x_getr (Or.inl fl_X12_159) C hP (by decide) ms_0 rfl dX12_busiest_81 ?_
            refine lv_iload hx hb dX12_busiest_84 (lv_at hl 2 rfl) ?_
            refine y_ald C hP (by decide) ms_45 dX12_busiest_86 h (fun h => ?_)
            refine y_let h (fun x18 h => ?_)
            refine lv_istore_n (lv' := [(2, .int x18), (0, .ref (a 0)), (1, .int v1), (4, .int v4), (5, .int v5)]) hx hb dX12_busiest_87 rfl hl (by decide) rfl (fun ls hl => ?_)
            refine lv_iload hx hb dX12_busiest_88 (lv_at hl 4 rfl) ?_
            refine lv_istore_n (lv' := [(3, .int v5), (2, .int x18), (0, .ref (a 0)), (1, .int v1), (4, .int v4), (5, .int v5)]) hx hb dX12_busiest_90 rfl hl (by decide) rfl (fun ls hl => ?_)
            exact J91 x18 v5 v4 g L H locs ls h hP hD hS (lv_sub hl [2, 3, 1, 0, 4] rfl)
          refine lv_icmp_ne (x := x13) (y := v3) (tgt := 80) hx hb dX12_busiest_58 (by decide) (fun c19 => ?_) (fun c19 => ?_)
          ·
            have h := ite_e c19 h
            exact J80 v4 x13 g14 L15 H locs ls h hP hD hS (lv_sub hl [1, 2, 5, 0] rfl)
          ·
            have h := ite_t c19 h
            refine lv_iload_n hx hb dX12_busiest_61 rfl (lv_at hl 3 rfl) ?_
            refine lv_iconst (v := -1) hx hb dX12_busiest_62 (by decide) ?_
            refine lv_icmp_eq (x := v2) (y := (-1)) (tgt := 80) hx hb dX12_busiest_63 (by decide) (fun c20 => ?_) (fun c20 => ?_)
            ·
              have h := ite_t c20 h
              exact J80 v4 x13 g14 L15 H locs ls h hP hD hS (lv_sub hl [1, 2, 5, 0] rfl)
            ·
              have h := ite_e c20 h
              refine lv_aload_n hx hb dX12_busiest_66 rfl (lv_at hl 1 rfl) ?_
              refine x_getr (Or.inl fl_X12_159) C hP (by decide) ms_0 rfl dX12_busiest_67 ?_
              refine lv_iload hx hb dX12_busiest_70 (lv_at hl 5 rfl) ?_
              refine y_ald C hP (by decide) ms_45 dX12_busiest_72 h (fun h => ?_)
              refine lv_iload_n hx hb dX12_busiest_73 rfl (lv_at hl 3 rfl) ?_
              refine lv_icmp_lt (x := (g14 45 (Int32.toNatClampNeg v4))) (y := v2) (tgt := 80) hx hb dX12_busiest_74 (by decide) (fun c21 => ?_) (fun c21 => ?_)
              ·
                have h := ite_t c21 h
                exact J80 v4 x13 g14 L15 H locs ls h hP hD hS (lv_sub hl [1, 2, 5, 0] rfl)
              ·
                have h := ite_e c21 h
                refine lv_goto (tgt := 91) hx hb dX12_busiest_77 (by decide) ?_
                exact J91 v2 v3 v4 g14 L15 H locs ls h hP hD hS (lv_sub hl [1, 2, 3, 4, 5] rfl)
    exact lp27 p1 fu ((-1), 0, 0, g8, L9) h H locs ls hP hD hS (lv_sub hl [3, 4, 2, 1, 0] rfl)
  ·
    have h := ite_t c6 h
    refine lv_iconst (v := 0) hx hb dX12_busiest_14 (by decide) ?_
    exact y_iret C hr hlk hP hD hS h (Nat.le_of_ble_eq_true rfl) (Nat.le_of_ble_eq_true rfl) dX12_busiest_15
def fX12_clash_p175 (fu : Nat) (t0 : Int32) (g : Nat → Nat → Int32) (L : Nat → Nat → Int64) : Option ((Int32) × zS) :=
  some (t0, (g, L))
def fX12_clash_p154 (fu : Nat) (k27 : Int32 × Int32 × Int32 × (Nat → Nat → Int32) × (Nat → Nat → Int64) → Option ((Int32) × zS)) (k42 : Int32 × Int32 × Int32 × (Nat → Nat → Int32) × (Nat → Nat → Int64) → Option ((Int32) × zS)) (v1 : Int32) (v2 : Int32) (v3 : Int32) (v4 : Int32) (v5 : Int32) (g : Nat → Nat → Int32) (L : Nat → Nat → Int64) : Option ((Int32) × zS) :=
  k42 (v2, v3, (v5 + 1), g, L)
def fX12_clash_p151 (fu : Nat) (k27 : Int32 × Int32 × Int32 × (Nat → Nat → Int32) × (Nat → Nat → Int64) → Option ((Int32) × zS)) (k42 : Int32 × Int32 × Int32 × (Nat → Nat → Int32) × (Nat → Nat → Int64) → Option ((Int32) × zS)) (v1 : Int32) (v2 : Int32) (v4 : Int32) (v5 : Int32) (v6 : Int32) (g : Nat → Nat → Int32) (L : Nat → Nat → Int64) : Option ((Int32) × zS) :=
  fX12_clash_p154 fu k27 k42 v1 v2 v6 v4 v5 g L
def fX12_clash_p85 (fu : Nat) (k27 : Int32 × Int32 × Int32 × (Nat → Nat → Int32) × (Nat → Nat → Int64) → Option ((Int32) × zS)) (k42 : Int32 × Int32 × Int32 × (Nat → Nat → Int32) × (Nat → Nat → Int64) → Option ((Int32) × zS)) (v1 : Int32) (v2 : Int32) (v3 : Int32) (v4 : Int32) (v5 : Int32) (t0 : Int32) (g : Nat → Nat → Int32) (L : Nat → Nat → Int64) : Option ((Int32) × zS) :=
  ck (24 + v4) 48 (
  ck (24 + v5) 48 (
  if (g 12 (Int32.toNatClampNeg (24 + v4))) = (g 12 (Int32.toNatClampNeg (24 + v5))) then ck v4 12 (
  if (g 32 (Int32.toNatClampNeg v4)) ≤ t0 then fX12_clash_p154 fu k27 k42 v1 v2 v3 v4 v5 g L
  else ck v5 12 (
  if t0 < (g 32 (Int32.toNatClampNeg v5)) then (if (v3 : Int32) = (-1) then fX12_clash_p151 fu k27 k42 v1 (v2 + 1) v4 v5 t0 g L
  else if v3 ≤ (t0 : Int32) then fX12_clash_p154 fu k27 k42 v1 (v2 + 1) v3 v4 v5 g L
  else fX12_clash_p151 fu k27 k42 v1 (v2 + 1) v4 v5 t0 g L)
  else fX12_clash_p154 fu k27 k42 v1 v2 v3 v4 v5 g L))
  else fX12_clash_p154 fu k27 k42 v1 v2 v3 v4 v5 g L))
def fX12_clash_s42 (fu : Nat) (k27 : Int32 × Int32 × Int32 × (Nat → Nat → Int32) × (Nat → Nat → Int64) → Option ((Int32) × zS)) (v1 : Int32) (v4 : Int32) (k42 : Int32 × Int32 × Int32 × (Nat → Nat → Int32) × (Nat → Nat → Int64) → Option ((Int32) × zS)) (v2 : Int32) (v3 : Int32) (v5 : Int32) (g : Nat → Nat → Int32) (L : Nat → Nat → Int64) : Option ((Int32) × zS) :=
  if (g 0 1) ≤ v5 then k27 (v2, v3, (v4 + 1), g, L)
  else ck v4 12 (
  ck v5 12 (
  if (g 31 (Int32.toNatClampNeg v4)) ≤ (g 31 (Int32.toNatClampNeg v5)) then ck v5 12 (
  fX12_clash_p85 fu k27 k42 v1 v2 v3 v4 v5 (g 31 (Int32.toNatClampNeg v5)) g L)
  else ck v4 12 (
  fX12_clash_p85 fu k27 k42 v1 v2 v3 v4 v5 (g 31 (Int32.toNatClampNeg v4)) g L)))
def fX12_clash_l42 (fu : Nat) (k27 : Int32 × Int32 × Int32 × (Nat → Nat → Int32) × (Nat → Nat → Int64) → Option ((Int32) × zS)) (v1 : Int32) (v4 : Int32) (v2 : Int32) (v3 : Int32) (v5 : Int32) (g : Nat → Nat → Int32) (L : Nat → Nat → Int64) : Option ((Int32) × zS) :=
  whileK (fun k v => fX12_clash_s42 fu k27 v1 v4 k v.1 v.2.1 v.2.2.1 v.2.2.2.1 v.2.2.2.2) fu (v2, v3, v5, g, L)
def fX12_clash_s27 (fu : Nat) (v1 : Int32) (k27 : Int32 × Int32 × Int32 × (Nat → Nat → Int32) × (Nat → Nat → Int64) → Option ((Int32) × zS)) (v2 : Int32) (v3 : Int32) (v4 : Int32) (g : Nat → Nat → Int32) (L : Nat → Nat → Int64) : Option ((Int32) × zS) :=
  if (g 0 1) ≤ v4 then (if v1 = 0 then fX12_clash_p175 fu v2 g L
  else fX12_clash_p175 fu v3 g L)
  else lti (v4 + 1) (fun x13 =>
  fX12_clash_l42 fu k27 v1 v4 v2 v3 x13 g L)
def fX12_clash_l27 (fu : Nat) (v1 : Int32) (v2 : Int32) (v3 : Int32) (v4 : Int32) (g : Nat → Nat → Int32) (L : Nat → Nat → Int64) : Option ((Int32) × zS) :=
  whileK (fun k v => fX12_clash_s27 fu v1 k v.1 v.2.1 v.2.2.1 v.2.2.2.1 v.2.2.2.2) fu (v2, v3, v4, g, L)
def fX12_clash (fu : Nat) (p1 : Int32) (g : Nat → Nat → Int32) (L : Nat → Nat → Int64) : Option ((Int32) × zS) :=
  sti g 0 0 0 (fun g1 =>
  cb (fX12_isWhat fu p1 1 g1 L) (fun x2 g3 L4 =>
  if x2 = 0 then some (0, (g3, L4))
  else cb (fX12_works0 fu g3 L4) (fun x7 g8 L9 =>
  fX12_clash_l27 fu p1 0 (-1) 0 g8 L9)))
set_option maxHeartbeats 4000000 in
set_option maxRecDepth 100000 in
theorem rX12_clash (l : Launch) (G : kG) (sz : Nat) (a : Nat → Nat) (fu : Nat) (g : Nat → Nat → Int32) (L : Nat → Nat → Int64) (p1 : Int32) (res : Int32) (s9 : zS) (h : fX12_clash fu p1 g L = some (res, s9)) : kM l yX12_clash cX12_clash 7 (some .int) { frames := 11, cells := 0, slots := 0, locals := 228 } G [.ref (a 0), .int p1] (zw G MS 51 a g L) sz (kQi G (S := Unit) (fun r' _ => r' = res) (fun _ => zw G MS 51 a s9.1 s9.2)) := by
  refine kM.of (by decide) (Nat.le_of_ble_eq_true rfl) ?_
  intro p e s m below meth c A ls H C hr hlk hnm hP hD hS hl
  have C : kC G p s m c cX12_clash 7 RX12 A := C
  have hx := C.1
  have hb := C.2.1
  have hl : lv_has ls 7 [(0, .ref (a 0)), (1, .int p1)] := hl
  obtain ⟨locs, hlocs⟩ : ∃ q : List Loc, q = [] := ⟨_, rfl⟩
  rw [← hlocs] at hS
  rw [← hlocs]
  unfold fX12_clash at h
  refine lv_aload_n hx hb dX12_clash_0 rfl (lv_at hl 0 rfl) ?_
  refine lv_iconst (v := 0) hx hb dX12_clash_1 (by decide) ?_
  refine y_puti (Or.inl fl_X12_177) ft_X12_0 C hP hD hS (by decide) ms_0 rfl rfl rfl dX12_clash_2 h (fun g1 H locs h hP hD hS => ?_)
  refine lv_aload_n hx hb dX12_clash_5 rfl (lv_at hl 0 rfl) ?_
  refine lv_iload_n hx hb dX12_clash_6 rfl (lv_at hl 1 rfl) ?_
  refine lv_iconst (v := 1) hx hb dX12_clash_7 (by decide) ?_
  obtain ⟨z_, g3, L4, hf5, h⟩ := cb_some h
  refine x_callVi (rest := []) li_X12_405 C (rX12_isWhat l G H.size a fu g1 L p1 1 z_ (g3, L4) hf5) (kR rfl) hP hD hS 0 12 rfl (zat (by decide) ms_0) rfl hl.1 rfl (Nat.le_of_ble_eq_true rfl) dX12_clash_8 (fun x2 u_ H locs e_ hP hD hS => ?_)
  have e_ : x2 = z_ := e_
  subst e_
  have hP : va_P G.1 vwCl (zw G MS 51 a g3 L4) H := hP
  have hD : va_D A (zw G MS 51 a g3 L4) := hD
  refine lv_if_ne (x := x2) (tgt := 16) hx hb dX12_clash_11 (by decide) (fun c6 => ?_) (fun c6 => ?_)
  ·
    have h := ite_e c6 h
    refine lv_aload_n hx hb dX12_clash_16 rfl (lv_at hl 0 rfl) ?_
    obtain ⟨z_, g8, L9, hf10, h⟩ := cb_some h
    refine x_callVv (rest := []) li_X12_386 C (rX12_works0 l G H.size a fu g3 L4 z_ (g8, L9) hf10) (kR rfl) hP hD hS 0 12 rfl (zat (by decide) ms_0) rfl hl.1 rfl (Nat.le_of_ble_eq_true rfl) dX12_clash_17 (fun u_ H locs e_ hP hD hS => ?_)
    have hP : va_P G.1 vwCl (zw G MS 51 a g8 L9) H := hP
    have hD : va_D A (zw G MS 51 a g8 L9) := hD
    refine lv_iconst (v := 0) hx hb dX12_clash_20 (by decide) ?_
    refine lv_istore_n (lv' := [(2, .int 0), (0, .ref (a 0)), (1, .int p1)]) hx hb dX12_clash_21 rfl hl (by decide) rfl (fun ls hl => ?_)
    refine lv_iconst (v := -1) hx hb dX12_clash_22 (by decide) ?_
    refine lv_istore_n (lv' := [(3, .int (-1)), (2, .int 0), (0, .ref (a 0)), (1, .int p1)]) hx hb dX12_clash_23 rfl hl (by decide) rfl (fun ls hl => ?_)
    refine lv_iconst (v := 0) hx hb dX12_clash_24 (by decide) ?_
    refine lv_istore (lv' := [(4, .int 0), (3, .int (-1)), (2, .int 0), (0, .ref (a 0)), (1, .int p1)]) hx hb dX12_clash_25 hl (by decide) rfl (fun ls hl => ?_)
    have lp27 : ∀ (v1 : Int32), ∀ (n : Nat) (v : Int32 × Int32 × Int32 × (Nat → Nat → Int32) × (Nat → Nat → Int64)), whileK (fun k v => fX12_clash_s27 fu v1 k v.1 v.2.1 v.2.2.1 v.2.2.2.1 v.2.2.2.2) n v = some (res, s9) → ∀ (H : Heap) (locs : List Loc) (ls : Array Slot), va_P G.1 vwCl (zw G MS 51 a (v.2.2.2.1) (v.2.2.2.2)) H → va_D A (zw G MS 51 a (v.2.2.2.1) (v.2.2.2.2)) → va_S A s.heap H locs → lv_has ls 7 [(0, .ref (a 0)), (1, .int v1), (2, .int (v.1)), (3, .int (v.2.1)), (4, .int (v.2.2.1))] → W p l e { frames := 11, cells := 0, slots := 0, locals := 228 } s m [.ref (a 0), .int p1].toArray below meth c H locs 0 0 (MQ below ((kQi G (S := Unit) (fun r' _ => r' = res) (fun _ => zw G MS 51 a s9.1 s9.2)) A) [.ref (a 0), .int p1].toArray s 0 0 A) (F0 m 27 ls []) := by
      intro v1
      refine while_ind (fun k27 ih27 v h => ?_)
      obtain ⟨v2, v3, v4, g, L⟩ := v
      intro H locs ls hP hD hS hl
      have h : fX12_clash_s27 fu v1 k27 v2 v3 v4 g L = some (res, s9) := h
      have hP : va_P G.1 vwCl (zw G MS 51 a g L) H := hP
      have hD : va_D A (zw G MS 51 a g L) := hD
      have hl : lv_has ls 7 [(0, .ref (a 0)), (1, .int v1), (2, .int v2), (3, .int v3), (4, .int v4)] := hl
      show W p l e { frames := 11, cells := 0, slots := 0, locals := 228 } s m [.ref (a 0), .int p1].toArray below meth c H locs 0 0 (MQ below ((kQi G (S := Unit) (fun r' _ => r' = res) (fun _ => zw G MS 51 a s9.1 s9.2)) A) [.ref (a 0), .int p1].toArray s 0 0 A) (F0 m 27 ls [])
      unfold fX12_clash_s27 at h
      refine lv_iload hx hb dX12_clash_27 (lv_at hl 4 rfl) ?_
      refine lv_aload_n hx hb dX12_clash_29 rfl (lv_at hl 0 rfl) ?_
      refine x_getv (v := .int (g 0 1)) (Or.inl fl_X12_335) C hP (by decide) ms_0 rfl dX12_clash_30 ?_
      refine lv_icmp_ge (x := v4) (y := (g 0 1)) (tgt := 166) hx hb dX12_clash_33 (by decide) (fun c11 => ?_) (fun c11 => ?_)
      ·
        have h := ite_t c11 h
        refine lv_iload_n hx hb dX12_clash_166 rfl (lv_at hl 1 rfl) ?_
        have J175 : ∀ (t0 : Int32) (g : Nat → Nat → Int32) (L : Nat → Nat → Int64) (H : Heap) (locs : List Loc) (ls : Array Slot), fX12_clash_p175 fu t0 g L = some (res, s9) → va_P G.1 vwCl (zw G MS 51 a g L) H → va_D A (zw G MS 51 a g L) → va_S A s.heap H locs → lv_has ls 7 [] → W p l e { frames := 11, cells := 0, slots := 0, locals := 228 } s m [.ref (a 0), .int p1].toArray below meth c H locs 0 0 (MQ below ((kQi G (S := Unit) (fun r' _ => r' = res) (fun _ => zw G MS 51 a s9.1 s9.2)) A) [.ref (a 0), .int p1].toArray s 0 0 A) (F0 m 175 ls [.int t0]) := by
          intro t0 g L H locs ls h hP hD hS hl
          unfold fX12_clash_p175 at h
          exact y_iret C hr hlk hP hD hS h (Nat.le_of_ble_eq_true rfl) (Nat.le_of_ble_eq_true rfl) dX12_clash_175
        refine lv_if_ne (x := v1) (tgt := 174) hx hb dX12_clash_167 (by decide) (fun c12 => ?_) (fun c12 => ?_)
        ·
          have h := ite_e c12 h
          refine lv_iload_n hx hb dX12_clash_174 rfl (lv_at hl 3 rfl) ?_
          exact J175 v3 g L H locs ls h hP hD hS (lv_sub hl [] rfl)
        ·
          have h := ite_t c12 h
          refine lv_iload_n hx hb dX12_clash_170 rfl (lv_at hl 2 rfl) ?_
          refine lv_goto (tgt := 175) hx hb dX12_clash_171 (by decide) ?_
          exact J175 v2 g L H locs ls h hP hD hS (lv_sub hl [] rfl)
      ·
        have h := ite_e c11 h
        refine lv_iload hx hb dX12_clash_36 (lv_at hl 4 rfl) ?_
        refine lv_iconst (v := 1) hx hb dX12_clash_38 (by decide) ?_
        refine lv_iadd hx hb dX12_clash_39 ?_
        refine y_let h (fun x13 h => ?_)
        refine lv_istore (lv' := [(5, .int x13), (0, .ref (a 0)), (1, .int v1), (2, .int v2), (3, .int v3), (4, .int v4)]) hx hb dX12_clash_40 hl (by decide) rfl (fun ls hl => ?_)
        have lp42 : ∀ (v4 : Int32), ∀ (n : Nat) (v : Int32 × Int32 × Int32 × (Nat → Nat → Int32) × (Nat → Nat → Int64)), whileK (fun k v => fX12_clash_s42 fu k27 v1 v4 k v.1 v.2.1 v.2.2.1 v.2.2.2.1 v.2.2.2.2) n v = some (res, s9) → ∀ (H : Heap) (locs : List Loc) (ls : Array Slot), va_P G.1 vwCl (zw G MS 51 a (v.2.2.2.1) (v.2.2.2.2)) H → va_D A (zw G MS 51 a (v.2.2.2.1) (v.2.2.2.2)) → va_S A s.heap H locs → lv_has ls 7 [(0, .ref (a 0)), (1, .int v1), (2, .int (v.1)), (3, .int (v.2.1)), (4, .int v4), (5, .int (v.2.2.1))] → W p l e { frames := 11, cells := 0, slots := 0, locals := 228 } s m [.ref (a 0), .int p1].toArray below meth c H locs 0 0 (MQ below ((kQi G (S := Unit) (fun r' _ => r' = res) (fun _ => zw G MS 51 a s9.1 s9.2)) A) [.ref (a 0), .int p1].toArray s 0 0 A) (F0 m 42 ls []) := by
          intro v4
          refine while_ind (fun k42 ih42 v h => ?_)
          obtain ⟨v2, v3, v5, g, L⟩ := v
          intro H locs ls hP hD hS hl
          have h : fX12_clash_s42 fu k27 v1 v4 k42 v2 v3 v5 g L = some (res, s9) := h
          have hP : va_P G.1 vwCl (zw G MS 51 a g L) H := hP
          have hD : va_D A (zw G MS 51 a g L) := hD
          have hl : lv_has ls 7 [(0, .ref (a 0)), (1, .int v1), (2, .int v2), (3, .int v3), (4, .int v4), (5, .int v5)] := hl
          show W p l e { frames := 11, cells := 0, slots := 0, locals := 228 } s m [.ref (a 0), .int p1].toArray below meth c H locs 0 0 (MQ below ((kQi G (S := Unit) (fun r' _ => r' = res) (fun _ => zw G MS 51 a s9.1 s9.2)) A) [.ref (a 0), .int p1].toArray s 0 0 A) (F0 m 42 ls [])
          unfold fX12_clash_s42 at h
          refine lv_iload hx hb dX12_clash_42 (lv_at hl 5 rfl) ?_
          refine lv_aload_n hx hb dX12_clash_44 rfl (lv_at hl 0 rfl) ?_
          refine x_getv (v := .int (g 0 1)) (Or.inl fl_X12_335) C hP (by decide) ms_0 rfl dX12_clash_45 ?_
          refine lv_icmp_ge (x := v5) (y := (g 0 1)) (tgt := 160) hx hb dX12_clash_48 (by decide) (fun c14 => ?_) (fun c14 => ?_)
          ·
            have h := ite_t c14 h
            refine lv_iinc (v := (v4 + 1)) (lv' := [(4, .int (v4 + 1)), (0, .ref (a 0)), (1, .int v1), (2, .int v2), (3, .int v3), (5, .int v5)]) hx hb dX12_clash_160 hl (k := 4) rfl rfl (by decide) rfl (fun ls hl => ?_)
            refine lv_goto (tgt := 27) hx hb dX12_clash_163 (by decide) ?_
            exact ih27 (v2, v3, (v4 + 1), g, L) h H locs ls hP hD hS (lv_sub hl [1, 2, 3, 4, 0] rfl)
          ·
            have h := ite_e c14 h
            refine lv_aload_n hx hb dX12_clash_51 rfl (lv_at hl 0 rfl) ?_
            refine x_getr (Or.inl fl_X12_114) C hP (by decide) ms_0 rfl dX12_clash_52 ?_
            refine lv_iload hx hb dX12_clash_55 (lv_at hl 4 rfl) ?_
            refine y_ald C hP (by decide) ms_31 dX12_clash_57 h (fun h => ?_)
            refine lv_aload_n hx hb dX12_clash_58 rfl (lv_at hl 0 rfl) ?_
            refine x_getr (Or.inl fl_X12_114) C hP (by decide) ms_0 rfl dX12_clash_59 ?_
            refine lv_iload hx hb dX12_clash_62 (lv_at hl 5 rfl) ?_
            refine y_ald C hP (by decide) ms_31 dX12_clash_64 h (fun h => ?_)
            have J85 : ∀ (v2 : Int32) (v3 : Int32) (v5 : Int32) (t0 : Int32) (g : Nat → Nat → Int32) (L : Nat → Nat → Int64) (H : Heap) (locs : List Loc) (ls : Array Slot), fX12_clash_p85 fu k27 k42 v1 v2 v3 v4 v5 t0 g L = some (res, s9) → va_P G.1 vwCl (zw G MS 51 a g L) H → va_D A (zw G MS 51 a g L) → va_S A s.heap H locs → lv_has ls 7 [(0, .ref (a 0)), (1, .int v1), (2, .int v2), (3, .int v3), (4, .int v4), (5, .int v5)] → W p l e { frames := 11, cells := 0, slots := 0, locals := 228 } s m [.ref (a 0), .int p1].toArray below meth c H locs 0 0 (MQ below ((kQi G (S := Unit) (fun r' _ => r' = res) (fun _ => zw G MS 51 a s9.1 s9.2)) A) [.ref (a 0), .int p1].toArray s 0 0 A) (F0 m 85 ls [.int t0]) := by
              intro v2 v3 v5 t0 g L H locs ls h hP hD hS hl
              unfold fX12_clash_p85 at h
              refine lv_istore (lv' := [(6, .int t0), (0, .ref (a 0)), (1, .int v1), (2, .int v2), (3, .int v3), (4, .int v4), (5, .int v5)]) hx hb dX12_clash_85 hl (by decide) rfl (fun ls hl => ?_)
              refine lv_aload_n hx hb dX12_clash_87 rfl (lv_at hl 1 rfl) ?_
              refine x_getr (Or.inl fl_X12_50) C hP (by decide) ms_0 rfl dX12_clash_88 ?_
              refine lv_bipush (v := 24) hx hb dX12_clash_91 (by decide) ?_
              refine lv_iload hx hb dX12_clash_93 (lv_at hl 5 rfl) ?_
              refine lv_iadd hx hb dX12_clash_95 ?_
              refine y_ald C hP (by decide) ms_12 dX12_clash_96 h (fun h => ?_)
              refine lv_aload_n hx hb dX12_clash_97 rfl (lv_at hl 1 rfl) ?_
              refine x_getr (Or.inl fl_X12_50) C hP (by decide) ms_0 rfl dX12_clash_98 ?_
              refine lv_bipush (v := 24) hx hb dX12_clash_101 (by decide) ?_
              refine lv_iload hx hb dX12_clash_103 (lv_at hl 6 rfl) ?_
              refine lv_iadd hx hb dX12_clash_105 ?_
              refine y_ald C hP (by decide) ms_12 dX12_clash_106 h (fun h => ?_)
              have J154 : ∀ (v2 : Int32) (v3 : Int32) (v5 : Int32) (g : Nat → Nat → Int32) (L : Nat → Nat → Int64) (H : Heap) (locs : List Loc) (ls : Array Slot), fX12_clash_p154 fu k27 k42 v1 v2 v3 v4 v5 g L = some (res, s9) → va_P G.1 vwCl (zw G MS 51 a g L) H → va_D A (zw G MS 51 a g L) → va_S A s.heap H locs → lv_has ls 7 [(0, .ref (a 0)), (1, .int v1), (2, .int v2), (3, .int v3), (4, .int v4), (5, .int v5)] → W p l e { frames := 11, cells := 0, slots := 0, locals := 228 } s m [.ref (a 0), .int p1].toArray below meth c H locs 0 0 (MQ below ((kQi G (S := Unit) (fun r' _ => r' = res) (fun _ => zw G MS 51 a s9.1 s9.2)) A) [.ref (a 0), .int p1].toArray s 0 0 A) (F0 m 154 ls []) := by
                intro v2 v3 v5 g L H locs ls h hP hD hS hl
                unfold fX12_clash_p154 at h
                refine lv_iinc (v := (v5 + 1)) (lv' := [(5, .int (v5 + 1)), (0, .ref (a 0)), (1, .int v1), (2, .int v2), (3, .int v3), (4, .int v4)]) hx hb dX12_clash_154 hl (k := 5) rfl rfl (by decide) rfl (fun ls hl => ?_)
                refine lv_goto (tgt := 42) hx hb dX12_clash_157 (by decide) ?_
                exact ih42 (v2, v3, (v5 + 1), g, L) h H locs ls hP hD hS (lv_sub hl [1, 2, 3, 4, 5, 0] rfl)
              refine lv_icmp_ne (x := (g 12 (Int32.toNatClampNeg (24 + v4)))) (y := (g 12 (Int32.toNatClampNeg (24 + v5)))) (tgt := 154) hx hb dX12_clash_107 (by decide) (fun c15 => ?_) (fun c15 => ?_)
              ·
                have h := ite_e c15 h
                exact J154 v2 v3 v5 g L H locs ls h hP hD hS (lv_sub hl [1, 2, 3, 4, 5, 6] rfl)
              ·
                have h := ite_t c15 h
                refine lv_iload hx hb dX12_clash_110 (lv_at hl 0 rfl) ?_
                refine lv_aload_n hx hb dX12_clash_112 rfl (lv_at hl 1 rfl) ?_
                refine x_getr (Or.inl fl_X12_117) C hP (by decide) ms_0 rfl dX12_clash_113 ?_
                refine lv_iload hx hb dX12_clash_116 (lv_at hl 5 rfl) ?_
                refine y_ald C hP (by decide) ms_32 dX12_clash_118 h (fun h => ?_)
                refine lv_icmp_ge (x := t0) (y := (g 32 (Int32.toNatClampNeg v4))) (tgt := 154) hx hb dX12_clash_119 (by decide) (fun c16 => ?_) (fun c16 => ?_)
                ·
                  have h := ite_t c16 h
                  exact J154 v2 v3 v5 g L H locs ls h hP hD hS (lv_sub hl [1, 2, 3, 4, 5, 6] rfl)
                ·
                  have h := ite_e c16 h
                  refine lv_iload hx hb dX12_clash_122 (lv_at hl 0 rfl) ?_
                  refine lv_aload_n hx hb dX12_clash_124 rfl (lv_at hl 1 rfl) ?_
                  refine x_getr (Or.inl fl_X12_117) C hP (by decide) ms_0 rfl dX12_clash_125 ?_
                  refine lv_iload hx hb dX12_clash_128 (lv_at hl 6 rfl) ?_
                  refine y_ald C hP (by decide) ms_32 dX12_clash_130 h (fun h => ?_)
                  refine lv_icmp_lt (x := t0) (y := (g 32 (Int32.toNatClampNeg v5))) (tgt := 137) hx hb dX12_clash_131 (by decide) (fun c17 => ?_) (fun c17 => ?_)
                  ·
                    have h := ite_t c17 h
                    refine lv_iinc (v := (v2 + 1)) (lv' := [(2, .int (v2 + 1)), (6, .int t0), (0, .ref (a 0)), (1, .int v1), (3, .int v3), (4, .int v4), (5, .int v5)]) hx hb dX12_clash_137 hl (k := 3) rfl rfl (by decide) rfl (fun ls hl => ?_)
                    refine lv_iload_n hx hb dX12_clash_140 rfl (lv_at hl 4 rfl) ?_
                    refine lv_iconst (v := -1) hx hb dX12_clash_141 (by decide) ?_
                    have J151 : ∀ (v2 : Int32) (v5 : Int32) (v6 : Int32) (g : Nat → Nat → Int32) (L : Nat → Nat → Int64) (H : Heap) (locs : List Loc) (ls : Array Slot), fX12_clash_p151 fu k27 k42 v1 v2 v4 v5 v6 g L = some (res, s9) → va_P G.1 vwCl (zw G MS 51 a g L) H → va_D A (zw G MS 51 a g L) → va_S A s.heap H locs → lv_has ls 7 [(0, .ref (a 0)), (1, .int v1), (2, .int v2), (4, .int v4), (5, .int v5), (6, .int v6)] → W p l e { frames := 11, cells := 0, slots := 0, locals := 228 } s m [.ref (a 0), .int p1].toArray below meth c H locs 0 0 (MQ below ((kQi G (S := Unit) (fun r' _ => r' = res) (fun _ => zw G MS 51 a s9.1 s9.2)) A) [.ref (a 0), .int p1].toArray s 0 0 A) (F0 m 151 ls []) := by
                      intro v2 v5 v6 g L H locs ls h hP hD hS hl
                      unfold fX12_clash_p151 at h
                      refine lv_iload hx hb dX12_clash_151 (lv_at hl 5 rfl) ?_
                      refine lv_istore_n (lv' := [(3, .int v6), (0, .ref (a 0)), (1, .int v1), (2, .int v2), (4, .int v4), (5, .int v5), (6, .int v6)]) hx hb dX12_clash_153 rfl hl (by decide) rfl (fun ls hl => ?_)
                      exact J154 v2 v6 v5 g L H locs ls h hP hD hS (lv_sub hl [1, 2, 3, 0, 4, 5] rfl)
                    refine lv_icmp_eq (x := v3) (y := (-1)) (tgt := 151) hx hb dX12_clash_142 (by decide) (fun c18 => ?_) (fun c18 => ?_)
                    ·
                      have h := ite_t c18 h
                      exact J151 (v2 + 1) v5 t0 g L H locs ls h hP hD hS (lv_sub hl [2, 3, 0, 5, 6, 1] rfl)
                    ·
                      have h := ite_e c18 h
                      refine lv_iload hx hb dX12_clash_145 (lv_at hl 1 rfl) ?_
                      refine lv_iload_n hx hb dX12_clash_147 rfl (lv_at hl 4 rfl) ?_
                      refine lv_icmp_ge (x := t0) (y := v3) (tgt := 154) hx hb dX12_clash_148 (by decide) (fun c19 => ?_) (fun c19 => ?_)
                      ·
                        have h := ite_t c19 h
                        exact J154 (v2 + 1) v3 v5 g L H locs ls h hP hD hS (lv_sub hl [2, 3, 0, 4, 5, 6] rfl)
                      ·
                        have h := ite_e c19 h
                        exact J151 (v2 + 1) v5 t0 g L H locs ls h hP hD hS (lv_sub hl [2, 3, 0, 5, 6, 1] rfl)
                  ·
                    have h := ite_e c17 h
                    refine lv_goto (tgt := 154) hx hb dX12_clash_134 (by decide) ?_
                    exact J154 v2 v3 v5 g L H locs ls h hP hD hS (lv_sub hl [1, 2, 3, 4, 5, 6] rfl)
            refine lv_icmp_le (x := (g 31 (Int32.toNatClampNeg v4))) (y := (g 31 (Int32.toNatClampNeg v5))) (tgt := 78) hx hb dX12_clash_65 (by decide) (fun c20 => ?_) (fun c20 => ?_)
            ·
              have h := ite_t c20 h
              refine lv_aload_n hx hb dX12_clash_78 rfl (lv_at hl 0 rfl) ?_
              refine x_getr (Or.inl fl_X12_114) C hP (by decide) ms_0 rfl dX12_clash_79 ?_
              refine lv_iload hx hb dX12_clash_82 (lv_at hl 5 rfl) ?_
              refine y_ald C hP (by decide) ms_31 dX12_clash_84 h (fun h => ?_)
              exact J85 v2 v3 v5 (g 31 (Int32.toNatClampNeg v5)) g L H locs ls h hP hD hS (lv_sub hl [0, 1, 2, 3, 4, 5] rfl)
            ·
              have h := ite_e c20 h
              refine lv_aload_n hx hb dX12_clash_68 rfl (lv_at hl 0 rfl) ?_
              refine x_getr (Or.inl fl_X12_114) C hP (by decide) ms_0 rfl dX12_clash_69 ?_
              refine lv_iload hx hb dX12_clash_72 (lv_at hl 4 rfl) ?_
              refine y_ald C hP (by decide) ms_31 dX12_clash_74 h (fun h => ?_)
              refine lv_goto (tgt := 85) hx hb dX12_clash_75 (by decide) ?_
              exact J85 v2 v3 v5 (g 31 (Int32.toNatClampNeg v4)) g L H locs ls h hP hD hS (lv_sub hl [0, 1, 2, 3, 4, 5] rfl)
        exact lp42 v4 fu (v2, v3, x13, g, L) h H locs ls hP hD hS (lv_sub hl [1, 2, 3, 4, 5, 0] rfl)
    exact lp27 p1 fu (0, (-1), 0, g8, L9) h H locs ls hP hD hS (lv_sub hl [3, 4, 2, 1, 0] rfl)
  ·
    have h := ite_t c6 h
    refine lv_iconst (v := 0) hx hb dX12_clash_14 (by decide) ?_
    exact y_iret C hr hlk hP hD hS h (Nat.le_of_ble_eq_true rfl) (Nat.le_of_ble_eq_true rfl) dX12_clash_15
def fX12_idle_p82 (fu : Nat) (k13 : Int32 × Int32 × (Nat → Nat → Int32) × (Nat → Nat → Int64) → Option ((Int32) × zS)) (k23 : Int32 × Int32 × (Nat → Nat → Int32) × (Nat → Nat → Int64) → Option ((Int32) × zS)) (v2 : Int32) (v3 : Int32) (t0 : Int32) (t1 : Int32) (g : Nat → Nat → Int32) (L : Nat → Nat → Int64) : Option ((Int32) × zS) :=
  lti (t1 + t0) (fun x14 =>
  k23 (x14, (v3 + 1), g, L))
def fX12_idle_s23 (fu : Nat) (k13 : Int32 × Int32 × (Nat → Nat → Int32) × (Nat → Nat → Int64) → Option ((Int32) × zS)) (v2 : Int32) (k23 : Int32 × Int32 × (Nat → Nat → Int32) × (Nat → Nat → Int64) → Option ((Int32) × zS)) (v1 : Int32) (v3 : Int32) (g : Nat → Nat → Int32) (L : Nat → Nat → Int64) : Option ((Int32) × zS) :=
  ck v2 12 (
  if (g 8 (Int32.toNatClampNeg v2)) ≤ v3 then k13 (v1, (v2 + 1), g, L)
  else ck ((6 * v2) + v3) 72 (
  lti (g 9 (Int32.toNatClampNeg ((6 * v2) + v3))) (fun x8 =>
  ck v2 12 (
  cb (fX12_comes fu x8 v2 g L) (fun x9 g10 L11 =>
  lti ((g 31 (Int32.toNatClampNeg v2)) - x9) (fun x13 =>
  if x13 ≤ 0 then fX12_idle_p82 fu k13 k23 v2 v3 0 v1 g10 L11
  else ck x8 12 (
  fX12_idle_p82 fu k13 k23 v2 v3 ((g10 4 (Int32.toNatClampNeg x8)) * x13) v1 g10 L11)))))))
def fX12_idle_l23 (fu : Nat) (k13 : Int32 × Int32 × (Nat → Nat → Int32) × (Nat → Nat → Int64) → Option ((Int32) × zS)) (v2 : Int32) (v1 : Int32) (v3 : Int32) (g : Nat → Nat → Int32) (L : Nat → Nat → Int64) : Option ((Int32) × zS) :=
  whileK (fun k v => fX12_idle_s23 fu k13 v2 k v.1 v.2.1 v.2.2.1 v.2.2.2) fu (v1, v3, g, L)
def fX12_idle_s13 (fu : Nat) (k13 : Int32 × Int32 × (Nat → Nat → Int32) × (Nat → Nat → Int64) → Option ((Int32) × zS)) (v1 : Int32) (v2 : Int32) (g : Nat → Nat → Int32) (L : Nat → Nat → Int64) : Option ((Int32) × zS) :=
  if (g 0 1) ≤ v2 then some (v1, (g, L))
  else fX12_idle_l23 fu k13 v2 v1 0 g L
def fX12_idle_l13 (fu : Nat) (v1 : Int32) (v2 : Int32) (g : Nat → Nat → Int32) (L : Nat → Nat → Int64) : Option ((Int32) × zS) :=
  whileK (fun k v => fX12_idle_s13 fu k v.1 v.2.1 v.2.2.1 v.2.2.2) fu (v1, v2, g, L)
def fX12_idle (fu : Nat) (g : Nat → Nat → Int32) (L : Nat → Nat → Int64) : Option ((Int32) × zS) :=
  sti g 0 0 0 (fun g1 =>
  cb (fX12_works0 fu g1 L) (fun x2 g3 L4 =>
  fX12_idle_l13 fu 0 0 g3 L4))
set_option maxHeartbeats 4000000 in
set_option maxRecDepth 100000 in
theorem rX12_idle (l : Launch) (G : kG) (sz : Nat) (a : Nat → Nat) (fu : Nat) (g : Nat → Nat → Int32) (L : Nat → Nat → Int64) (res : Int32) (s9 : zS) (h : fX12_idle fu g L = some (res, s9)) : kM l yX12_idle cX12_idle 6 (some .int) { frames := 11, cells := 0, slots := 0, locals := 228 } G [.ref (a 0)] (zw G MS 51 a g L) sz (kQi G (S := Unit) (fun r' _ => r' = res) (fun _ => zw G MS 51 a s9.1 s9.2)) := by
  refine kM.of (by decide) (Nat.le_of_ble_eq_true rfl) ?_
  intro p e s m below meth c A ls H C hr hlk hnm hP hD hS hl
  have C : kC G p s m c cX12_idle 6 RX12 A := C
  have hx := C.1
  have hb := C.2.1
  have hl : lv_has ls 6 [(0, .ref (a 0))] := hl
  obtain ⟨locs, hlocs⟩ : ∃ q : List Loc, q = [] := ⟨_, rfl⟩
  rw [← hlocs] at hS
  rw [← hlocs]
  unfold fX12_idle at h
  refine lv_aload_n hx hb dX12_idle_0 rfl (lv_at hl 0 rfl) ?_
  refine lv_iconst (v := 0) hx hb dX12_idle_1 (by decide) ?_
  refine y_puti (Or.inl fl_X12_177) ft_X12_0 C hP hD hS (by decide) ms_0 rfl rfl rfl dX12_idle_2 h (fun g1 H locs h hP hD hS => ?_)
  refine lv_aload_n hx hb dX12_idle_5 rfl (lv_at hl 0 rfl) ?_
  obtain ⟨z_, g3, L4, hf5, h⟩ := cb_some h
  refine x_callVv (rest := []) li_X12_386 C (rX12_works0 l G H.size a fu g1 L z_ (g3, L4) hf5) (kR rfl) hP hD hS 0 12 rfl (zat (by decide) ms_0) rfl hl.1 rfl (Nat.le_of_ble_eq_true rfl) dX12_idle_6 (fun u_ H locs e_ hP hD hS => ?_)
  have hP : va_P G.1 vwCl (zw G MS 51 a g3 L4) H := hP
  have hD : va_D A (zw G MS 51 a g3 L4) := hD
  refine lv_iconst (v := 0) hx hb dX12_idle_9 (by decide) ?_
  refine lv_istore_n (lv' := [(1, .int 0), (0, .ref (a 0))]) hx hb dX12_idle_10 rfl hl (by decide) rfl (fun ls hl => ?_)
  refine lv_iconst (v := 0) hx hb dX12_idle_11 (by decide) ?_
  refine lv_istore_n (lv' := [(2, .int 0), (1, .int 0), (0, .ref (a 0))]) hx hb dX12_idle_12 rfl hl (by decide) rfl (fun ls hl => ?_)
  have lp13 : ∀ (_ : True), ∀ (n : Nat) (v : Int32 × Int32 × (Nat → Nat → Int32) × (Nat → Nat → Int64)), whileK (fun k v => fX12_idle_s13 fu k v.1 v.2.1 v.2.2.1 v.2.2.2) n v = some (res, s9) → ∀ (H : Heap) (locs : List Loc) (ls : Array Slot), va_P G.1 vwCl (zw G MS 51 a (v.2.2.1) (v.2.2.2)) H → va_D A (zw G MS 51 a (v.2.2.1) (v.2.2.2)) → va_S A s.heap H locs → lv_has ls 6 [(0, .ref (a 0)), (1, .int (v.1)), (2, .int (v.2.1))] → W p l e { frames := 11, cells := 0, slots := 0, locals := 228 } s m [.ref (a 0)].toArray below meth c H locs 0 0 (MQ below ((kQi G (S := Unit) (fun r' _ => r' = res) (fun _ => zw G MS 51 a s9.1 s9.2)) A) [.ref (a 0)].toArray s 0 0 A) (F0 m 13 ls []) := by
    intro _
    refine while_ind (fun k13 ih13 v h => ?_)
    obtain ⟨v1, v2, g, L⟩ := v
    intro H locs ls hP hD hS hl
    have h : fX12_idle_s13 fu k13 v1 v2 g L = some (res, s9) := h
    have hP : va_P G.1 vwCl (zw G MS 51 a g L) H := hP
    have hD : va_D A (zw G MS 51 a g L) := hD
    have hl : lv_has ls 6 [(0, .ref (a 0)), (1, .int v1), (2, .int v2)] := hl
    show W p l e { frames := 11, cells := 0, slots := 0, locals := 228 } s m [.ref (a 0)].toArray below meth c H locs 0 0 (MQ below ((kQi G (S := Unit) (fun r' _ => r' = res) (fun _ => zw G MS 51 a s9.1 s9.2)) A) [.ref (a 0)].toArray s 0 0 A) (F0 m 13 ls [])
    unfold fX12_idle_s13 at h
    refine lv_iload_n hx hb dX12_idle_13 rfl (lv_at hl 2 rfl) ?_
    refine lv_aload_n hx hb dX12_idle_14 rfl (lv_at hl 0 rfl) ?_
    refine x_getv (v := .int (g 0 1)) (Or.inl fl_X12_335) C hP (by decide) ms_0 rfl dX12_idle_15 ?_
    refine lv_icmp_ge (x := v2) (y := (g 0 1)) (tgt := 96) hx hb dX12_idle_18 (by decide) (fun c6 => ?_) (fun c6 => ?_)
    ·
      have h := ite_t c6 h
      refine lv_iload_n hx hb dX12_idle_96 rfl (lv_at hl 1 rfl) ?_
      exact y_iret C hr hlk hP hD hS h (Nat.le_of_ble_eq_true rfl) (Nat.le_of_ble_eq_true rfl) dX12_idle_97
    ·
      have h := ite_e c6 h
      refine lv_iconst (v := 0) hx hb dX12_idle_21 (by decide) ?_
      refine lv_istore_n (lv' := [(3, .int 0), (0, .ref (a 0)), (1, .int v1), (2, .int v2)]) hx hb dX12_idle_22 rfl hl (by decide) rfl (fun ls hl => ?_)
      have lp23 : ∀ (v2 : Int32), ∀ (n : Nat) (v : Int32 × Int32 × (Nat → Nat → Int32) × (Nat → Nat → Int64)), whileK (fun k v => fX12_idle_s23 fu k13 v2 k v.1 v.2.1 v.2.2.1 v.2.2.2) n v = some (res, s9) → ∀ (H : Heap) (locs : List Loc) (ls : Array Slot), va_P G.1 vwCl (zw G MS 51 a (v.2.2.1) (v.2.2.2)) H → va_D A (zw G MS 51 a (v.2.2.1) (v.2.2.2)) → va_S A s.heap H locs → lv_has ls 6 [(0, .ref (a 0)), (1, .int (v.1)), (2, .int v2), (3, .int (v.2.1))] → W p l e { frames := 11, cells := 0, slots := 0, locals := 228 } s m [.ref (a 0)].toArray below meth c H locs 0 0 (MQ below ((kQi G (S := Unit) (fun r' _ => r' = res) (fun _ => zw G MS 51 a s9.1 s9.2)) A) [.ref (a 0)].toArray s 0 0 A) (F0 m 23 ls []) := by
        intro v2
        refine while_ind (fun k23 ih23 v h => ?_)
        obtain ⟨v1, v3, g, L⟩ := v
        intro H locs ls hP hD hS hl
        have h : fX12_idle_s23 fu k13 v2 k23 v1 v3 g L = some (res, s9) := h
        have hP : va_P G.1 vwCl (zw G MS 51 a g L) H := hP
        have hD : va_D A (zw G MS 51 a g L) := hD
        have hl : lv_has ls 6 [(0, .ref (a 0)), (1, .int v1), (2, .int v2), (3, .int v3)] := hl
        show W p l e { frames := 11, cells := 0, slots := 0, locals := 228 } s m [.ref (a 0)].toArray below meth c H locs 0 0 (MQ below ((kQi G (S := Unit) (fun r' _ => r' = res) (fun _ => zw G MS 51 a s9.1 s9.2)) A) [.ref (a 0)].toArray s 0 0 A) (F0 m 23 ls [])
        unfold fX12_idle_s23 at h
        refine lv_iload_n hx hb dX12_idle_23 rfl (lv_at hl 3 rfl) ?_
        refine lv_aload_n hx hb dX12_idle_24 rfl (lv_at hl 0 rfl) ?_
        refine x_getr (Or.inl fl_X12_38) C hP (by decide) ms_0 rfl dX12_idle_25 ?_
        refine lv_iload_n hx hb dX12_idle_28 rfl (lv_at hl 2 rfl) ?_
        refine y_ald C hP (by decide) ms_8 dX12_idle_29 h (fun h => ?_)
        refine lv_icmp_ge (x := v3) (y := (g 8 (Int32.toNatClampNeg v2))) (tgt := 90) hx hb dX12_idle_30 (by decide) (fun c7 => ?_) (fun c7 => ?_)
        ·
          have h := ite_t c7 h
          refine lv_iinc (v := (v2 + 1)) (lv' := [(2, .int (v2 + 1)), (0, .ref (a 0)), (1, .int v1), (3, .int v3)]) hx hb dX12_idle_90 hl (k := 2) rfl rfl (by decide) rfl (fun ls hl => ?_)
          refine lv_goto (tgt := 13) hx hb dX12_idle_93 (by decide) ?_
          exact ih13 (v1, (v2 + 1), g, L) h H locs ls hP hD hS (lv_sub hl [1, 2, 0] rfl)
        ·
          have h := ite_e c7 h
          refine lv_aload_n hx hb dX12_idle_33 rfl (lv_at hl 0 rfl) ?_
          refine x_getr (Or.inl fl_X12_41) C hP (by decide) ms_0 rfl dX12_idle_34 ?_
          refine lv_bipush (v := 6) hx hb dX12_idle_37 (by decide) ?_
          refine lv_iload_n hx hb dX12_idle_39 rfl (lv_at hl 2 rfl) ?_
          refine lv_imul hx hb dX12_idle_40 ?_
          refine lv_iload_n hx hb dX12_idle_41 rfl (lv_at hl 3 rfl) ?_
          refine lv_iadd hx hb dX12_idle_42 ?_
          refine y_ald C hP (by decide) ms_9 dX12_idle_43 h (fun h => ?_)
          refine y_let h (fun x8 h => ?_)
          refine lv_istore (lv' := [(4, .int x8), (0, .ref (a 0)), (1, .int v1), (2, .int v2), (3, .int v3)]) hx hb dX12_idle_44 hl (by decide) rfl (fun ls hl => ?_)
          refine lv_aload_n hx hb dX12_idle_46 rfl (lv_at hl 1 rfl) ?_
          refine x_getr (Or.inl fl_X12_114) C hP (by decide) ms_0 rfl dX12_idle_47 ?_
          refine lv_iload_n hx hb dX12_idle_50 rfl (lv_at hl 3 rfl) ?_
          refine y_ald C hP (by decide) ms_31 dX12_idle_51 h (fun h => ?_)
          refine lv_aload_n hx hb dX12_idle_52 rfl (lv_at hl 1 rfl) ?_
          refine lv_iload hx hb dX12_idle_53 (lv_at hl 0 rfl) ?_
          refine lv_iload_n hx hb dX12_idle_55 rfl (lv_at hl 3 rfl) ?_
          obtain ⟨z_, g10, L11, hf12, h⟩ := cb_some h
          refine x_callVi (rest := [.int (g 31 (Int32.toNatClampNeg v2))]) li_X12_371 C (rX12_comes l G H.size a fu g L x8 v2 z_ (g10, L11) hf12) (kR rfl) hP hD hS 0 12 rfl (zat (by decide) ms_0) rfl hl.1 rfl (Nat.le_of_ble_eq_true rfl) dX12_idle_56 (fun x9 u_ H locs e_ hP hD hS => ?_)
          have e_ : x9 = z_ := e_
          subst e_
          have hP : va_P G.1 vwCl (zw G MS 51 a g10 L11) H := hP
          have hD : va_D A (zw G MS 51 a g10 L11) := hD
          refine lv_isub hx hb dX12_idle_59 ?_
          refine y_let h (fun x13 h => ?_)
          refine lv_istore (lv' := [(5, .int x13), (4, .int x8), (0, .ref (a 0)), (1, .int v1), (2, .int v2), (3, .int v3)]) hx hb dX12_idle_60 hl (by decide) rfl (fun ls hl => ?_)
          refine lv_iload_n hx hb dX12_idle_62 rfl (lv_at hl 3 rfl) ?_
          refine lv_iload hx hb dX12_idle_63 (lv_at hl 0 rfl) ?_
          have J82 : ∀ (v3 : Int32) (t0 : Int32) (t1 : Int32) (g : Nat → Nat → Int32) (L : Nat → Nat → Int64) (H : Heap) (locs : List Loc) (ls : Array Slot), fX12_idle_p82 fu k13 k23 v2 v3 t0 t1 g L = some (res, s9) → va_P G.1 vwCl (zw G MS 51 a g L) H → va_D A (zw G MS 51 a g L) → va_S A s.heap H locs → lv_has ls 6 [(0, .ref (a 0)), (2, .int v2), (3, .int v3)] → W p l e { frames := 11, cells := 0, slots := 0, locals := 228 } s m [.ref (a 0)].toArray below meth c H locs 0 0 (MQ below ((kQi G (S := Unit) (fun r' _ => r' = res) (fun _ => zw G MS 51 a s9.1 s9.2)) A) [.ref (a 0)].toArray s 0 0 A) (F0 m 82 ls [.int t0, .int t1]) := by
            intro v3 t0 t1 g L H locs ls h hP hD hS hl
            unfold fX12_idle_p82 at h
            refine lv_iadd hx hb dX12_idle_82 ?_
            refine y_let h (fun x14 h => ?_)
            refine lv_istore_n (lv' := [(1, .int x14), (0, .ref (a 0)), (2, .int v2), (3, .int v3)]) hx hb dX12_idle_83 rfl hl (by decide) rfl (fun ls hl => ?_)
            refine lv_iinc (v := (v3 + 1)) (lv' := [(3, .int (v3 + 1)), (1, .int x14), (0, .ref (a 0)), (2, .int v2)]) hx hb dX12_idle_84 hl (k := 3) rfl rfl (by decide) rfl (fun ls hl => ?_)
            refine lv_goto (tgt := 23) hx hb dX12_idle_87 (by decide) ?_
            exact ih23 (x14, (v3 + 1), g, L) h H locs ls hP hD hS (lv_sub hl [2, 1, 3, 0] rfl)
          refine lv_if_le (x := x13) (tgt := 81) hx hb dX12_idle_65 (by decide) (fun c15 => ?_) (fun c15 => ?_)
          ·
            have h := ite_t c15 h
            refine lv_iconst (v := 0) hx hb dX12_idle_81 (by decide) ?_
            exact J82 v3 0 v1 g10 L11 H locs ls h hP hD hS (lv_sub hl [2, 4, 5] rfl)
          ·
            have h := ite_e c15 h
            refine lv_aload_n hx hb dX12_idle_68 rfl (lv_at hl 2 rfl) ?_
            refine x_getr (Or.inl fl_X12_26) C hP (by decide) ms_0 rfl dX12_idle_69 ?_
            refine lv_iload hx hb dX12_idle_72 (lv_at hl 1 rfl) ?_
            refine y_ald C hP (by decide) ms_4 dX12_idle_74 h (fun h => ?_)
            refine lv_iload hx hb dX12_idle_75 (lv_at hl 0 rfl) ?_
            refine lv_imul hx hb dX12_idle_77 ?_
            refine lv_goto (tgt := 82) hx hb dX12_idle_78 (by decide) ?_
            exact J82 v3 ((g10 4 (Int32.toNatClampNeg x8)) * x13) v1 g10 L11 H locs ls h hP hD hS (lv_sub hl [2, 4, 5] rfl)
      exact lp23 v2 fu (v1, 0, g, L) h H locs ls hP hD hS (lv_sub hl [1, 2, 3, 0] rfl)
  exact lp13 trivial fu (0, 0, g3, L4) h H locs ls hP hD hS (lv_sub hl [2, 1, 0] rfl)
def fX12_draw (fu : Nat) (p1 : Int32) (g : Nat → Nat → Int32) (L : Nat → Nat → Int64) : Option ((Int32) × zS) :=
  sti g 0 80 (((g 0 80) * 1103515245) + 12345) (fun g1 =>
  cnz p1 (
  some ((((((g1 0 80) : Int32) >>> ((16 : Int32) &&& 31) : Int32) &&& 32767) - ((((g1 0 80) : Int32) >>> ((16 : Int32) &&& 31) : Int32) &&& 32767) / p1 * p1), (g1, L))))
set_option maxHeartbeats 4000000 in
set_option maxRecDepth 100000 in
theorem rX12_draw (l : Launch) (G : kG) (sz : Nat) (a : Nat → Nat) (fu : Nat) (g : Nat → Nat → Int32) (L : Nat → Nat → Int64) (p1 : Int32) (res : Int32) (s9 : zS) (h : fX12_draw fu p1 g L = some (res, s9)) : kM l yX12_draw cX12_draw 2 (some .int) { frames := 6, cells := 0, slots := 0, locals := 110 } G [.ref (a 0), .int p1] (zw G MS 51 a g L) sz (kQi G (S := Unit) (fun r' _ => r' = res) (fun _ => zw G MS 51 a s9.1 s9.2)) := by
  refine kM.of (by decide) (Nat.le_of_ble_eq_true rfl) ?_
  intro p e s m below meth c A ls H C hr hlk hnm hP hD hS hl
  have C : kC G p s m c cX12_draw 2 RX12 A := C
  have hx := C.1
  have hb := C.2.1
  have hl : lv_has ls 2 [(0, .ref (a 0)), (1, .int p1)] := hl
  obtain ⟨locs, hlocs⟩ : ∃ q : List Loc, q = [] := ⟨_, rfl⟩
  rw [← hlocs] at hS
  rw [← hlocs]
  unfold fX12_draw at h
  refine lv_aload_n hx hb dX12_draw_0 rfl (lv_at hl 0 rfl) ?_
  refine lv_aload_n hx hb dX12_draw_1 rfl (lv_at hl 0 rfl) ?_
  refine x_getv (v := .int (g 0 80)) (Or.inl fl_X12_474) C hP (by decide) ms_0 rfl dX12_draw_2 ?_
  refine lv_ldcw (v := 1103515245) hx hb C.2.2.2.1 (C.2.2.2.2.1.w tw_2082 rfl) dX12_draw_5 ?_
  refine lv_imul hx hb dX12_draw_8 ?_
  refine lv_sipush (v := 12345) hx hb dX12_draw_9 (by decide) ?_
  refine lv_iadd hx hb dX12_draw_12 ?_
  refine y_puti (Or.inl fl_X12_474) ft_X12_80 C hP hD hS (by decide) ms_0 rfl rfl rfl dX12_draw_13 h (fun g1 H locs h hP hD hS => ?_)
  refine lv_aload_n hx hb dX12_draw_16 rfl (lv_at hl 0 rfl) ?_
  refine x_getv (v := .int (g1 0 80)) (Or.inl fl_X12_474) C hP (by decide) ms_0 rfl dX12_draw_17 ?_
  refine lv_bipush (v := 16) hx hb dX12_draw_20 (by decide) ?_
  refine lv_ishr hx hb dX12_draw_22 ?_
  refine lv_sipush (v := 32767) hx hb dX12_draw_23 (by decide) ?_
  refine lv_iand hx hb dX12_draw_26 ?_
  refine lv_iload_n hx hb dX12_draw_27 rfl (lv_at hl 1 rfl) ?_
  obtain ⟨nz, h⟩ := cnz_some h
  refine lv_irem hx hb dX12_draw_28 nz ?_
  exact y_iret C hr hlk hP hD hS h (Nat.le_of_ble_eq_true rfl) (Nat.le_of_ble_eq_true rfl) dX12_draw_29
def fX12_term_p38 (fu : Nat) (g : Nat → Nat → Int32) (L : Nat → Nat → Int64) : Option ((Int32) × zS) :=
  some (0, (g, L))
def fX12_term_p208 (fu : Nat) (t0 : Int32) (g : Nat → Nat → Int32) (L : Nat → Nat → Int64) : Option ((Int32) × zS) :=
  some (t0, (g, L))
def fX12_term_p171 (fu : Nat) (k57 : Int32 × Int32 × Int32 × Int32 × (Nat → Nat → Int32) × (Nat → Nat → Int64) → Option ((Int32) × zS)) (v2 : Int32) (v3 : Int32) (v4 : Int32) (v5 : Int32) (v6 : Int32) (v8 : Int32) (t0 : Int32) (t1 : Int32) (g : Nat → Nat → Int32) (L : Nat → Nat → Int64) : Option ((Int32) × zS) :=
  lti (t1 + t0) (fun x37 =>
  k57 (v5, v6, x37, (v8 + 1), g, L))
def fX12_term_p154 (fu : Nat) (k57 : Int32 × Int32 × Int32 × Int32 × (Nat → Nat → Int32) × (Nat → Nat → Int64) → Option ((Int32) × zS)) (v2 : Int32) (v3 : Int32) (v4 : Int32) (v5 : Int32) (v7 : Int32) (v8 : Int32) (t0 : Int32) (g : Nat → Nat → Int32) (L : Nat → Nat → Int64) : Option ((Int32) × zS) :=
  cb (fX12_late fu v3 g L) (fun x33 g34 L35 =>
  if x33 ≤ 0 then fX12_term_p171 fu k57 v2 v3 v4 v5 t0 v8 0 v7 g34 L35
  else fX12_term_p171 fu k57 v2 v3 v4 v5 t0 v8 1 v7 g34 L35)
def fX12_term_p121 (fu : Nat) (k57 : Int32 × Int32 × Int32 × Int32 × (Nat → Nat → Int32) × (Nat → Nat → Int64) → Option ((Int32) × zS)) (k71 : Int32 × (Nat → Nat → Int32) × (Nat → Nat → Int64) → Option ((Int32) × zS)) (v2 : Int32) (v3 : Int32) (v4 : Int32) (v5 : Int32) (v6 : Int32) (v7 : Int32) (v8 : Int32) (v9 : Int32) (g : Nat → Nat → Int32) (L : Nat → Nat → Int64) : Option ((Int32) × zS) :=
  k71 ((v9 + 1), g, L)
def fX12_term_s71 (fu : Nat) (k57 : Int32 × Int32 × Int32 × Int32 × (Nat → Nat → Int32) × (Nat → Nat → Int64) → Option ((Int32) × zS)) (v2 : Int32) (v3 : Int32) (v4 : Int32) (v5 : Int32) (v6 : Int32) (v7 : Int32) (v8 : Int32) (k71 : Int32 × (Nat → Nat → Int32) × (Nat → Nat → Int64) → Option ((Int32) × zS)) (v9 : Int32) (g : Nat → Nat → Int32) (L : Nat → Nat → Int64) : Option ((Int32) × zS) :=
  if (g 0 1) ≤ v9 then cb (fX12_lost fu g L) (fun x28 g29 L30 =>
  lti (v5 + x28) (fun x32 =>
  if (x28 : Int32) ≤ v6 then fX12_term_p154 fu k57 v2 v3 v4 x32 v7 v8 v6 g29 L30
  else fX12_term_p154 fu k57 v2 v3 v4 x32 v7 v8 x28 g29 L30))
  else ck v9 12 (
  if (g 7 (Int32.toNatClampNeg v9)) = 10 then fX12_term_p121 fu k57 k71 v2 v3 v4 v5 v6 v7 v8 v9 g L
  else cb (fX12_draw fu 10 g L) (fun x41 g42 L43 =>
  ck v9 12 (
  if x41 < (g42 7 (Int32.toNatClampNeg v9)) then fX12_term_p121 fu k57 k71 v2 v3 v4 v5 v6 v7 v8 v9 g42 L43
  else sti g42 0 60 ((g42 0 60) ||| ((1 : Int32) <<< ((v9 : Int32) &&& 31) : Int32)) (fun g46 =>
  fX12_term_p121 fu k57 k71 v2 v3 v4 v5 v6 v7 v8 v9 g46 L43))))
def fX12_term_l71 (fu : Nat) (k57 : Int32 × Int32 × Int32 × Int32 × (Nat → Nat → Int32) × (Nat → Nat → Int64) → Option ((Int32) × zS)) (v2 : Int32) (v3 : Int32) (v4 : Int32) (v5 : Int32) (v6 : Int32) (v7 : Int32) (v8 : Int32) (v9 : Int32) (g : Nat → Nat → Int32) (L : Nat → Nat → Int64) : Option ((Int32) × zS) :=
  whileK (fun k v => fX12_term_s71 fu k57 v2 v3 v4 v5 v6 v7 v8 k v.1 v.2.1 v.2.2) fu (v9, g, L)
def fX12_term_s57 (fu : Nat) (v2 : Int32) (v3 : Int32) (v4 : Int32) (k57 : Int32 × Int32 × Int32 × Int32 × (Nat → Nat → Int32) × (Nat → Nat → Int64) → Option ((Int32) × zS)) (v5 : Int32) (v6 : Int32) (v7 : Int32) (v8 : Int32) (g : Nat → Nat → Int32) (L : Nat → Nat → Int64) : Option ((Int32) × zS) :=
  if v2 ≤ (v8 : Int32) then sti g 0 60 0 (fun g23 =>
  if v4 = 0 then fX12_term_p208 fu v5 g23 L
  else if (v4 : Int32) = 1 then fX12_term_p208 fu v6 g23 L
  else fX12_term_p208 fu v7 g23 L)
  else sti g 0 60 0 (fun g26 =>
  fX12_term_l71 fu k57 v2 v3 v4 v5 v6 v7 v8 0 g26 L)
def fX12_term_l57 (fu : Nat) (v2 : Int32) (v3 : Int32) (v4 : Int32) (v5 : Int32) (v6 : Int32) (v7 : Int32) (v8 : Int32) (g : Nat → Nat → Int32) (L : Nat → Nat → Int64) : Option ((Int32) × zS) :=
  whileK (fun k v => fX12_term_s57 fu v2 v3 v4 k v.1 v.2.1 v.2.2.1 v.2.2.2.1 v.2.2.2.2.1 v.2.2.2.2.2) fu (v5, v6, v7, v8, g, L)
def fX12_term (fu : Nat) (p1 : Int32) (p2 : Int32) (p3 : Int32) (p4 : Int32) (g : Nat → Nat → Int32) (L : Nat → Nat → Int64) : Option ((Int32) × zS) :=
  sti g 0 0 0 (fun g1 =>
  cb (fX12_isLesson fu p3 g1 L) (fun x2 g3 L4 =>
  if x2 = 0 then fX12_term_p38 fu g3 L4
  else cb (fX12_isWhat fu p4 2 g3 L4) (fun x7 g8 L9 =>
  if x7 = 0 then fX12_term_p38 fu g8 L9
  else cb (fX12_within fu p2 0 60 g8 L9) (fun x12 g13 L14 =>
  cb (fX12_right fu x12 2 g13 L14) (fun x16 g17 L18 =>
  if x16 = 0 then fX12_term_p38 fu g17 L18
  else sti g17 0 80 p1 (fun g21 =>
  fX12_term_l57 fu p2 p3 p4 0 0 0 0 g21 L18))))))
set_option maxHeartbeats 4000000 in
set_option maxRecDepth 100000 in
theorem rX12_term (l : Launch) (G : kG) (sz : Nat) (a : Nat → Nat) (fu : Nat) (g : Nat → Nat → Int32) (L : Nat → Nat → Int64) (p1 : Int32) (p2 : Int32) (p3 : Int32) (p4 : Int32) (res : Int32) (s9 : zS) (h : fX12_term fu p1 p2 p3 p4 g L = some (res, s9)) : kM l yX12_term cX12_term 10 (some .int) { frames := 12, cells := 0, slots := 0, locals := 250 } G [.ref (a 0), .int p1, .int p2, .int p3, .int p4] (zw G MS 51 a g L) sz (kQi G (S := Unit) (fun r' _ => r' = res) (fun _ => zw G MS 51 a s9.1 s9.2)) := by
  refine kM.of (by decide) (Nat.le_of_ble_eq_true rfl) ?_
  intro p e s m below meth c A ls H C hr hlk hnm hP hD hS hl
  have C : kC G p s m c cX12_term 10 RX12 A := C
  have hx := C.1
  have hb := C.2.1
  have hl : lv_has ls 10 [(0, .ref (a 0)), (1, .int p1), (2, .int p2), (3, .int p3), (4, .int p4)] := hl
  obtain ⟨locs, hlocs⟩ : ∃ q : List Loc, q = [] := ⟨_, rfl⟩
  rw [← hlocs] at hS
  rw [← hlocs]
  unfold fX12_term at h
  refine lv_aload_n hx hb dX12_term_0 rfl (lv_at hl 0 rfl) ?_
  refine lv_iconst (v := 0) hx hb dX12_term_1 (by decide) ?_
  refine y_puti (Or.inl fl_X12_177) ft_X12_0 C hP hD hS (by decide) ms_0 rfl rfl rfl dX12_term_2 h (fun g1 H locs h hP hD hS => ?_)
  refine lv_aload_n hx hb dX12_term_5 rfl (lv_at hl 0 rfl) ?_
  refine lv_iload_n hx hb dX12_term_6 rfl (lv_at hl 3 rfl) ?_
  obtain ⟨z_, g3, L4, hf5, h⟩ := cb_some h
  refine x_callVi (rest := []) li_X12_402 C (rX12_isLesson l G H.size a fu g1 L p3 z_ (g3, L4) hf5) (kR rfl) hP hD hS 0 12 rfl (zat (by decide) ms_0) rfl hl.1 rfl (Nat.le_of_ble_eq_true rfl) dX12_term_7 (fun x2 u_ H locs e_ hP hD hS => ?_)
  have e_ : x2 = z_ := e_
  subst e_
  have hP : va_P G.1 vwCl (zw G MS 51 a g3 L4) H := hP
  have hD : va_D A (zw G MS 51 a g3 L4) := hD
  have J38 : ∀ (g : Nat → Nat → Int32) (L : Nat → Nat → Int64) (H : Heap) (locs : List Loc) (ls : Array Slot), fX12_term_p38 fu g L = some (res, s9) → va_P G.1 vwCl (zw G MS 51 a g L) H → va_D A (zw G MS 51 a g L) → va_S A s.heap H locs → lv_has ls 10 [] → W p l e { frames := 12, cells := 0, slots := 0, locals := 250 } s m [.ref (a 0), .int p1, .int p2, .int p3, .int p4].toArray below meth c H locs 0 0 (MQ below ((kQi G (S := Unit) (fun r' _ => r' = res) (fun _ => zw G MS 51 a s9.1 s9.2)) A) [.ref (a 0), .int p1, .int p2, .int p3, .int p4].toArray s 0 0 A) (F0 m 38 ls []) := by
    intro g L H locs ls h hP hD hS hl
    unfold fX12_term_p38 at h
    refine lv_iconst (v := 0) hx hb dX12_term_38 (by decide) ?_
    exact y_iret C hr hlk hP hD hS h (Nat.le_of_ble_eq_true rfl) (Nat.le_of_ble_eq_true rfl) dX12_term_39
  refine lv_if_eq (x := x2) (tgt := 38) hx hb dX12_term_10 (by decide) (fun c6 => ?_) (fun c6 => ?_)
  ·
    have h := ite_t c6 h
    exact J38 g3 L4 H locs ls h hP hD hS (lv_sub hl [] rfl)
  ·
    have h := ite_e c6 h
    refine lv_aload_n hx hb dX12_term_13 rfl (lv_at hl 0 rfl) ?_
    refine lv_iload hx hb dX12_term_14 (lv_at hl 4 rfl) ?_
    refine lv_iconst (v := 2) hx hb dX12_term_16 (by decide) ?_
    obtain ⟨z_, g8, L9, hf10, h⟩ := cb_some h
    refine x_callVi (rest := []) li_X12_405 C (rX12_isWhat l G H.size a fu g3 L4 p4 2 z_ (g8, L9) hf10) (kR rfl) hP hD hS 0 12 rfl (zat (by decide) ms_0) rfl hl.1 rfl (Nat.le_of_ble_eq_true rfl) dX12_term_17 (fun x7 u_ H locs e_ hP hD hS => ?_)
    have e_ : x7 = z_ := e_
    subst e_
    have hP : va_P G.1 vwCl (zw G MS 51 a g8 L9) H := hP
    have hD : va_D A (zw G MS 51 a g8 L9) := hD
    refine lv_if_eq (x := x7) (tgt := 38) hx hb dX12_term_20 (by decide) (fun c11 => ?_) (fun c11 => ?_)
    ·
      have h := ite_t c11 h
      exact J38 g8 L9 H locs ls h hP hD hS (lv_sub hl [] rfl)
    ·
      have h := ite_e c11 h
      refine lv_aload_n hx hb dX12_term_23 rfl (lv_at hl 0 rfl) ?_
      refine lv_iload_n hx hb dX12_term_24 rfl (lv_at hl 2 rfl) ?_
      refine lv_iconst (v := 0) hx hb dX12_term_25 (by decide) ?_
      refine lv_bipush (v := 60) hx hb dX12_term_26 (by decide) ?_
      obtain ⟨z_, g13, L14, hf15, h⟩ := cb_some h
      refine x_callSi (rest := [.ref (a 0)]) li_X12_392 C (rX12_within l G H.size a fu g8 L9 p2 0 60 z_ (g13, L14) hf15) (kR rfl) hP hD hS rfl hl.1 rfl (Nat.le_of_ble_eq_true rfl) dX12_term_28 (fun x12 u_ H locs e_ hP hD hS => ?_)
      have e_ : x12 = z_ := e_
      subst e_
      have hP : va_P G.1 vwCl (zw G MS 51 a g13 L14) H := hP
      have hD : va_D A (zw G MS 51 a g13 L14) := hD
      refine lv_iconst (v := 2) hx hb dX12_term_31 (by decide) ?_
      obtain ⟨z_, g17, L18, hf19, h⟩ := cb_some h
      refine x_callVi (rest := []) li_X12_328 C (rX12_right l G H.size a fu g13 L14 x12 2 z_ (g17, L18) hf19) (kR rfl) hP hD hS 0 12 rfl (zat (by decide) ms_0) rfl hl.1 rfl (Nat.le_of_ble_eq_true rfl) dX12_term_32 (fun x16 u_ H locs e_ hP hD hS => ?_)
      have e_ : x16 = z_ := e_
      subst e_
      have hP : va_P G.1 vwCl (zw G MS 51 a g17 L18) H := hP
      have hD : va_D A (zw G MS 51 a g17 L18) := hD
      refine lv_if_ne (x := x16) (tgt := 40) hx hb dX12_term_35 (by decide) (fun c20 => ?_) (fun c20 => ?_)
      ·
        have h := ite_e c20 h
        refine lv_aload_n hx hb dX12_term_40 rfl (lv_at hl 0 rfl) ?_
        refine lv_iload_n hx hb dX12_term_41 rfl (lv_at hl 1 rfl) ?_
        refine y_puti (Or.inl fl_X12_474) ft_X12_80 C hP hD hS (by decide) ms_0 rfl rfl rfl dX12_term_42 h (fun g21 H locs h hP hD hS => ?_)
        refine lv_iconst (v := 0) hx hb dX12_term_45 (by decide) ?_
        refine lv_istore (lv' := [(5, .int 0), (0, .ref (a 0)), (1, .int p1), (2, .int p2), (3, .int p3), (4, .int p4)]) hx hb dX12_term_46 hl (by decide) rfl (fun ls hl => ?_)
        refine lv_iconst (v := 0) hx hb dX12_term_48 (by decide) ?_
        refine lv_istore (lv' := [(6, .int 0), (5, .int 0), (0, .ref (a 0)), (1, .int p1), (2, .int p2), (3, .int p3), (4, .int p4)]) hx hb dX12_term_49 hl (by decide) rfl (fun ls hl => ?_)
        refine lv_iconst (v := 0) hx hb dX12_term_51 (by decide) ?_
        refine lv_istore (lv' := [(7, .int 0), (6, .int 0), (5, .int 0), (0, .ref (a 0)), (1, .int p1), (2, .int p2), (3, .int p3), (4, .int p4)]) hx hb dX12_term_52 hl (by decide) rfl (fun ls hl => ?_)
        refine lv_iconst (v := 0) hx hb dX12_term_54 (by decide) ?_
        refine lv_istore (lv' := [(8, .int 0), (7, .int 0), (6, .int 0), (5, .int 0), (0, .ref (a 0)), (1, .int p1), (2, .int p2), (3, .int p3), (4, .int p4)]) hx hb dX12_term_55 hl (by decide) rfl (fun ls hl => ?_)
        have lp57 : ∀ (v2 : Int32) (v3 : Int32) (v4 : Int32), ∀ (n : Nat) (v : Int32 × Int32 × Int32 × Int32 × (Nat → Nat → Int32) × (Nat → Nat → Int64)), whileK (fun k v => fX12_term_s57 fu v2 v3 v4 k v.1 v.2.1 v.2.2.1 v.2.2.2.1 v.2.2.2.2.1 v.2.2.2.2.2) n v = some (res, s9) → ∀ (H : Heap) (locs : List Loc) (ls : Array Slot), va_P G.1 vwCl (zw G MS 51 a (v.2.2.2.2.1) (v.2.2.2.2.2)) H → va_D A (zw G MS 51 a (v.2.2.2.2.1) (v.2.2.2.2.2)) → va_S A s.heap H locs → lv_has ls 10 [(0, .ref (a 0)), (2, .int v2), (3, .int v3), (4, .int v4), (5, .int (v.1)), (6, .int (v.2.1)), (7, .int (v.2.2.1)), (8, .int (v.2.2.2.1))] → W p l e { frames := 12, cells := 0, slots := 0, locals := 250 } s m [.ref (a 0), .int p1, .int p2, .int p3, .int p4].toArray below meth c H locs 0 0 (MQ below ((kQi G (S := Unit) (fun r' _ => r' = res) (fun _ => zw G MS 51 a s9.1 s9.2)) A) [.ref (a 0), .int p1, .int p2, .int p3, .int p4].toArray s 0 0 A) (F0 m 57 ls []) := by
          intro v2 v3 v4
          refine while_ind (fun k57 ih57 v h => ?_)
          obtain ⟨v5, v6, v7, v8, g, L⟩ := v
          intro H locs ls hP hD hS hl
          have h : fX12_term_s57 fu v2 v3 v4 k57 v5 v6 v7 v8 g L = some (res, s9) := h
          have hP : va_P G.1 vwCl (zw G MS 51 a g L) H := hP
          have hD : va_D A (zw G MS 51 a g L) := hD
          have hl : lv_has ls 10 [(0, .ref (a 0)), (2, .int v2), (3, .int v3), (4, .int v4), (5, .int v5), (6, .int v6), (7, .int v7), (8, .int v8)] := hl
          show W p l e { frames := 12, cells := 0, slots := 0, locals := 250 } s m [.ref (a 0), .int p1, .int p2, .int p3, .int p4].toArray below meth c H locs 0 0 (MQ below ((kQi G (S := Unit) (fun r' _ => r' = res) (fun _ => zw G MS 51 a s9.1 s9.2)) A) [.ref (a 0), .int p1, .int p2, .int p3, .int p4].toArray s 0 0 A) (F0 m 57 ls [])
          unfold fX12_term_s57 at h
          refine lv_iload hx hb dX12_term_57 (lv_at hl 7 rfl) ?_
          refine lv_iload_n hx hb dX12_term_59 rfl (lv_at hl 1 rfl) ?_
          refine lv_icmp_ge (x := v8) (y := v2) (tgt := 180) hx hb dX12_term_60 (by decide) (fun c22 => ?_) (fun c22 => ?_)
          ·
            have h := ite_t c22 h
            refine lv_aload_n hx hb dX12_term_180 rfl (lv_at hl 0 rfl) ?_
            refine lv_iconst (v := 0) hx hb dX12_term_181 (by decide) ?_
            refine y_puti (Or.inl fl_X12_374) ft_X12_60 C hP hD hS (by decide) ms_0 rfl rfl rfl dX12_term_182 h (fun g23 H locs h hP hD hS => ?_)
            refine lv_iload hx hb dX12_term_185 (lv_at hl 3 rfl) ?_
            have J208 : ∀ (t0 : Int32) (g : Nat → Nat → Int32) (L : Nat → Nat → Int64) (H : Heap) (locs : List Loc) (ls : Array Slot), fX12_term_p208 fu t0 g L = some (res, s9) → va_P G.1 vwCl (zw G MS 51 a g L) H → va_D A (zw G MS 51 a g L) → va_S A s.heap H locs → lv_has ls 10 [] → W p l e { frames := 12, cells := 0, slots := 0, locals := 250 } s m [.ref (a 0), .int p1, .int p2, .int p3, .int p4].toArray below meth c H locs 0 0 (MQ below ((kQi G (S := Unit) (fun r' _ => r' = res) (fun _ => zw G MS 51 a s9.1 s9.2)) A) [.ref (a 0), .int p1, .int p2, .int p3, .int p4].toArray s 0 0 A) (F0 m 208 ls [.int t0]) := by
              intro t0 g L H locs ls h hP hD hS hl
              unfold fX12_term_p208 at h
              exact y_iret C hr hlk hP hD hS h (Nat.le_of_ble_eq_true rfl) (Nat.le_of_ble_eq_true rfl) dX12_term_208
            refine lv_if_ne (x := v4) (tgt := 195) hx hb dX12_term_187 (by decide) (fun c24 => ?_) (fun c24 => ?_)
            ·
              have h := ite_e c24 h
              refine lv_iload hx hb dX12_term_195 (lv_at hl 3 rfl) ?_
              refine lv_iconst (v := 1) hx hb dX12_term_197 (by decide) ?_
              refine lv_icmp_ne (x := v4) (y := 1) (tgt := 206) hx hb dX12_term_198 (by decide) (fun c25 => ?_) (fun c25 => ?_)
              ·
                have h := ite_e c25 h
                refine lv_iload hx hb dX12_term_206 (lv_at hl 6 rfl) ?_
                exact J208 v7 g23 L H locs ls h hP hD hS (lv_sub hl [] rfl)
              ·
                have h := ite_t c25 h
                refine lv_iload hx hb dX12_term_201 (lv_at hl 5 rfl) ?_
                refine lv_goto (tgt := 208) hx hb dX12_term_203 (by decide) ?_
                exact J208 v6 g23 L H locs ls h hP hD hS (lv_sub hl [] rfl)
            ·
              have h := ite_t c24 h
              refine lv_iload hx hb dX12_term_190 (lv_at hl 4 rfl) ?_
              refine lv_goto (tgt := 208) hx hb dX12_term_192 (by decide) ?_
              exact J208 v5 g23 L H locs ls h hP hD hS (lv_sub hl [] rfl)
          ·
            have h := ite_e c22 h
            refine lv_aload_n hx hb dX12_term_63 rfl (lv_at hl 0 rfl) ?_
            refine lv_iconst (v := 0) hx hb dX12_term_64 (by decide) ?_
            refine y_puti (Or.inl fl_X12_374) ft_X12_60 C hP hD hS (by decide) ms_0 rfl rfl rfl dX12_term_65 h (fun g26 H locs h hP hD hS => ?_)
            refine lv_iconst (v := 0) hx hb dX12_term_68 (by decide) ?_
            refine lv_istore (lv' := [(9, .int 0), (0, .ref (a 0)), (2, .int v2), (3, .int v3), (4, .int v4), (5, .int v5), (6, .int v6), (7, .int v7), (8, .int v8)]) hx hb dX12_term_69 hl (by decide) rfl (fun ls hl => ?_)
            have lp71 : ∀ (v5 : Int32) (v6 : Int32) (v7 : Int32) (v8 : Int32), ∀ (n : Nat) (v : Int32 × (Nat → Nat → Int32) × (Nat → Nat → Int64)), whileK (fun k v => fX12_term_s71 fu k57 v2 v3 v4 v5 v6 v7 v8 k v.1 v.2.1 v.2.2) n v = some (res, s9) → ∀ (H : Heap) (locs : List Loc) (ls : Array Slot), va_P G.1 vwCl (zw G MS 51 a (v.2.1) (v.2.2)) H → va_D A (zw G MS 51 a (v.2.1) (v.2.2)) → va_S A s.heap H locs → lv_has ls 10 [(0, .ref (a 0)), (2, .int v2), (3, .int v3), (4, .int v4), (5, .int v5), (6, .int v6), (7, .int v7), (8, .int v8), (9, .int (v.1))] → W p l e { frames := 12, cells := 0, slots := 0, locals := 250 } s m [.ref (a 0), .int p1, .int p2, .int p3, .int p4].toArray below meth c H locs 0 0 (MQ below ((kQi G (S := Unit) (fun r' _ => r' = res) (fun _ => zw G MS 51 a s9.1 s9.2)) A) [.ref (a 0), .int p1, .int p2, .int p3, .int p4].toArray s 0 0 A) (F0 m 71 ls []) := by
              intro v5 v6 v7 v8
              refine while_ind (fun k71 ih71 v h => ?_)
              obtain ⟨v9, g, L⟩ := v
              intro H locs ls hP hD hS hl
              have h : fX12_term_s71 fu k57 v2 v3 v4 v5 v6 v7 v8 k71 v9 g L = some (res, s9) := h
              have hP : va_P G.1 vwCl (zw G MS 51 a g L) H := hP
              have hD : va_D A (zw G MS 51 a g L) := hD
              have hl : lv_has ls 10 [(0, .ref (a 0)), (2, .int v2), (3, .int v3), (4, .int v4), (5, .int v5), (6, .int v6), (7, .int v7), (8, .int v8), (9, .int v9)] := hl
              show W p l e { frames := 12, cells := 0, slots := 0, locals := 250 } s m [.ref (a 0), .int p1, .int p2, .int p3, .int p4].toArray below meth c H locs 0 0 (MQ below ((kQi G (S := Unit) (fun r' _ => r' = res) (fun _ => zw G MS 51 a s9.1 s9.2)) A) [.ref (a 0), .int p1, .int p2, .int p3, .int p4].toArray s 0 0 A) (F0 m 71 ls [])
              unfold fX12_term_s71 at h
              refine lv_iload hx hb dX12_term_71 (lv_at hl 8 rfl) ?_
              refine lv_aload_n hx hb dX12_term_73 rfl (lv_at hl 0 rfl) ?_
              refine x_getv (v := .int (g 0 1)) (Or.inl fl_X12_335) C hP (by decide) ms_0 rfl dX12_term_74 ?_
              refine lv_icmp_ge (x := v9) (y := (g 0 1)) (tgt := 127) hx hb dX12_term_77 (by decide) (fun c27 => ?_) (fun c27 => ?_)
              ·
                have h := ite_t c27 h
                refine lv_aload_n hx hb dX12_term_127 rfl (lv_at hl 0 rfl) ?_
                obtain ⟨z_, g29, L30, hf31, h⟩ := cb_some h
                refine x_callVi (rest := []) li_X12_399 C (rX12_lost l G H.size a fu g L z_ (g29, L30) hf31) (kR rfl) hP hD hS 0 12 rfl (zat (by decide) ms_0) rfl hl.1 rfl (Nat.le_of_ble_eq_true rfl) dX12_term_128 (fun x28 u_ H locs e_ hP hD hS => ?_)
                have e_ : x28 = z_ := e_
                subst e_
                have hP : va_P G.1 vwCl (zw G MS 51 a g29 L30) H := hP
                have hD : va_D A (zw G MS 51 a g29 L30) := hD
                refine lv_istore (lv' := [(9, .int x28), (0, .ref (a 0)), (2, .int v2), (3, .int v3), (4, .int v4), (5, .int v5), (6, .int v6), (7, .int v7), (8, .int v8)]) hx hb dX12_term_131 hl (by decide) rfl (fun ls hl => ?_)
                refine lv_iload hx hb dX12_term_133 (lv_at hl 5 rfl) ?_
                refine lv_iload hx hb dX12_term_135 (lv_at hl 0 rfl) ?_
                refine lv_iadd hx hb dX12_term_137 ?_
                refine y_let h (fun x32 h => ?_)
                refine lv_istore (lv' := [(5, .int x32), (9, .int x28), (0, .ref (a 0)), (2, .int v2), (3, .int v3), (4, .int v4), (6, .int v6), (7, .int v7), (8, .int v8)]) hx hb dX12_term_138 hl (by decide) rfl (fun ls hl => ?_)
                refine lv_iload hx hb dX12_term_140 (lv_at hl 1 rfl) ?_
                refine lv_iload hx hb dX12_term_142 (lv_at hl 6 rfl) ?_
                have J154 : ∀ (v5 : Int32) (v7 : Int32) (v8 : Int32) (t0 : Int32) (g : Nat → Nat → Int32) (L : Nat → Nat → Int64) (H : Heap) (locs : List Loc) (ls : Array Slot), fX12_term_p154 fu k57 v2 v3 v4 v5 v7 v8 t0 g L = some (res, s9) → va_P G.1 vwCl (zw G MS 51 a g L) H → va_D A (zw G MS 51 a g L) → va_S A s.heap H locs → lv_has ls 10 [(0, .ref (a 0)), (2, .int v2), (3, .int v3), (4, .int v4), (5, .int v5), (7, .int v7), (8, .int v8)] → W p l e { frames := 12, cells := 0, slots := 0, locals := 250 } s m [.ref (a 0), .int p1, .int p2, .int p3, .int p4].toArray below meth c H locs 0 0 (MQ below ((kQi G (S := Unit) (fun r' _ => r' = res) (fun _ => zw G MS 51 a s9.1 s9.2)) A) [.ref (a 0), .int p1, .int p2, .int p3, .int p4].toArray s 0 0 A) (F0 m 154 ls [.int t0]) := by
                  intro v5 v7 v8 t0 g L H locs ls h hP hD hS hl
                  unfold fX12_term_p154 at h
                  refine lv_istore (lv' := [(6, .int t0), (0, .ref (a 0)), (2, .int v2), (3, .int v3), (4, .int v4), (5, .int v5), (7, .int v7), (8, .int v8)]) hx hb dX12_term_154 hl (by decide) rfl (fun ls hl => ?_)
                  refine lv_iload hx hb dX12_term_156 (lv_at hl 6 rfl) ?_
                  refine lv_aload_n hx hb dX12_term_158 rfl (lv_at hl 1 rfl) ?_
                  refine lv_iload_n hx hb dX12_term_159 rfl (lv_at hl 3 rfl) ?_
                  obtain ⟨z_, g34, L35, hf36, h⟩ := cb_some h
                  refine x_callVi (rest := [.int v7]) li_X12_389 C (rX12_late l G H.size a fu g L v3 z_ (g34, L35) hf36) (kR rfl) hP hD hS 0 12 rfl (zat (by decide) ms_0) rfl hl.1 rfl (Nat.le_of_ble_eq_true rfl) dX12_term_160 (fun x33 u_ H locs e_ hP hD hS => ?_)
                  have e_ : x33 = z_ := e_
                  subst e_
                  have hP : va_P G.1 vwCl (zw G MS 51 a g34 L35) H := hP
                  have hD : va_D A (zw G MS 51 a g34 L35) := hD
                  have J171 : ∀ (v5 : Int32) (v6 : Int32) (v8 : Int32) (t0 : Int32) (t1 : Int32) (g : Nat → Nat → Int32) (L : Nat → Nat → Int64) (H : Heap) (locs : List Loc) (ls : Array Slot), fX12_term_p171 fu k57 v2 v3 v4 v5 v6 v8 t0 t1 g L = some (res, s9) → va_P G.1 vwCl (zw G MS 51 a g L) H → va_D A (zw G MS 51 a g L) → va_S A s.heap H locs → lv_has ls 10 [(0, .ref (a 0)), (2, .int v2), (3, .int v3), (4, .int v4), (5, .int v5), (6, .int v6), (8, .int v8)] → W p l e { frames := 12, cells := 0, slots := 0, locals := 250 } s m [.ref (a 0), .int p1, .int p2, .int p3, .int p4].toArray below meth c H locs 0 0 (MQ below ((kQi G (S := Unit) (fun r' _ => r' = res) (fun _ => zw G MS 51 a s9.1 s9.2)) A) [.ref (a 0), .int p1, .int p2, .int p3, .int p4].toArray s 0 0 A) (F0 m 171 ls [.int t0, .int t1]) := by
                    intro v5 v6 v8 t0 t1 g L H locs ls h hP hD hS hl
                    unfold fX12_term_p171 at h
                    refine lv_iadd hx hb dX12_term_171 ?_
                    refine y_let h (fun x37 h => ?_)
                    refine lv_istore (lv' := [(7, .int x37), (0, .ref (a 0)), (2, .int v2), (3, .int v3), (4, .int v4), (5, .int v5), (6, .int v6), (8, .int v8)]) hx hb dX12_term_172 hl (by decide) rfl (fun ls hl => ?_)
                    refine lv_iinc (v := (v8 + 1)) (lv' := [(8, .int (v8 + 1)), (7, .int x37), (0, .ref (a 0)), (2, .int v2), (3, .int v3), (4, .int v4), (5, .int v5), (6, .int v6)]) hx hb dX12_term_174 hl (k := 7) rfl rfl (by decide) rfl (fun ls hl => ?_)
                    refine lv_goto (tgt := 57) hx hb dX12_term_177 (by decide) ?_
                    exact ih57 (v5, v6, x37, (v8 + 1), g, L) h H locs ls hP hD hS (lv_sub hl [2, 3, 4, 5, 6, 7, 1, 0] rfl)
                  refine lv_if_le (x := x33) (tgt := 170) hx hb dX12_term_163 (by decide) (fun c38 => ?_) (fun c38 => ?_)
                  ·
                    have h := ite_t c38 h
                    refine lv_iconst (v := 0) hx hb dX12_term_170 (by decide) ?_
                    exact J171 v5 t0 v8 0 v7 g34 L35 H locs ls h hP hD hS (lv_sub hl [1, 2, 3, 4, 5, 0, 7] rfl)
                  ·
                    have h := ite_e c38 h
                    refine lv_iconst (v := 1) hx hb dX12_term_166 (by decide) ?_
                    refine lv_goto (tgt := 171) hx hb dX12_term_167 (by decide) ?_
                    exact J171 v5 t0 v8 1 v7 g34 L35 H locs ls h hP hD hS (lv_sub hl [1, 2, 3, 4, 5, 0, 7] rfl)
                refine lv_icmp_le (x := x28) (y := v6) (tgt := 152) hx hb dX12_term_144 (by decide) (fun c39 => ?_) (fun c39 => ?_)
                ·
                  have h := ite_t c39 h
                  refine lv_iload hx hb dX12_term_152 (lv_at hl 6 rfl) ?_
                  exact J154 x32 v7 v8 v6 g29 L30 H locs ls h hP hD hS (lv_sub hl [2, 3, 4, 5, 0, 7, 8] rfl)
                ·
                  have h := ite_e c39 h
                  refine lv_iload hx hb dX12_term_147 (lv_at hl 1 rfl) ?_
                  refine lv_goto (tgt := 154) hx hb dX12_term_149 (by decide) ?_
                  exact J154 x32 v7 v8 x28 g29 L30 H locs ls h hP hD hS (lv_sub hl [2, 3, 4, 5, 0, 7, 8] rfl)
              ·
                have h := ite_e c27 h
                refine lv_aload_n hx hb dX12_term_80 rfl (lv_at hl 0 rfl) ?_
                refine x_getr (Or.inl fl_X12_35) C hP (by decide) ms_0 rfl dX12_term_81 ?_
                refine lv_iload hx hb dX12_term_84 (lv_at hl 8 rfl) ?_
                refine y_ald C hP (by decide) ms_7 dX12_term_86 h (fun h => ?_)
                refine lv_bipush (v := 10) hx hb dX12_term_87 (by decide) ?_
                have J121 : ∀ (v9 : Int32) (g : Nat → Nat → Int32) (L : Nat → Nat → Int64) (H : Heap) (locs : List Loc) (ls : Array Slot), fX12_term_p121 fu k57 k71 v2 v3 v4 v5 v6 v7 v8 v9 g L = some (res, s9) → va_P G.1 vwCl (zw G MS 51 a g L) H → va_D A (zw G MS 51 a g L) → va_S A s.heap H locs → lv_has ls 10 [(0, .ref (a 0)), (2, .int v2), (3, .int v3), (4, .int v4), (5, .int v5), (6, .int v6), (7, .int v7), (8, .int v8), (9, .int v9)] → W p l e { frames := 12, cells := 0, slots := 0, locals := 250 } s m [.ref (a 0), .int p1, .int p2, .int p3, .int p4].toArray below meth c H locs 0 0 (MQ below ((kQi G (S := Unit) (fun r' _ => r' = res) (fun _ => zw G MS 51 a s9.1 s9.2)) A) [.ref (a 0), .int p1, .int p2, .int p3, .int p4].toArray s 0 0 A) (F0 m 121 ls []) := by
                  intro v9 g L H locs ls h hP hD hS hl
                  unfold fX12_term_p121 at h
                  refine lv_iinc (v := (v9 + 1)) (lv' := [(9, .int (v9 + 1)), (0, .ref (a 0)), (2, .int v2), (3, .int v3), (4, .int v4), (5, .int v5), (6, .int v6), (7, .int v7), (8, .int v8)]) hx hb dX12_term_121 hl (k := 8) rfl rfl (by decide) rfl (fun ls hl => ?_)
                  refine lv_goto (tgt := 71) hx hb dX12_term_124 (by decide) ?_
                  exact ih71 ((v9 + 1), g, L) h H locs ls hP hD hS (lv_sub hl [1, 2, 3, 4, 5, 6, 7, 8, 0] rfl)
                refine lv_icmp_eq (x := (g 7 (Int32.toNatClampNeg v9))) (y := 10) (tgt := 121) hx hb dX12_term_89 (by decide) (fun c40 => ?_) (fun c40 => ?_)
                ·
                  have h := ite_t c40 h
                  exact J121 v9 g L H locs ls h hP hD hS (lv_sub hl [0, 1, 2, 3, 4, 5, 6, 7, 8] rfl)
                ·
                  have h := ite_e c40 h
                  refine lv_aload_n hx hb dX12_term_92 rfl (lv_at hl 0 rfl) ?_
                  refine lv_bipush (v := 10) hx hb dX12_term_93 (by decide) ?_
                  obtain ⟨z_, g42, L43, hf44, h⟩ := cb_some h
                  refine x_callVi (rest := []) li_X12_478 C (rX12_draw l G H.size a fu g L 10 z_ (g42, L43) hf44) (kR rfl) hP hD hS 0 12 rfl (zat (by decide) ms_0) rfl hl.1 rfl (Nat.le_of_ble_eq_true rfl) dX12_term_95 (fun x41 u_ H locs e_ hP hD hS => ?_)
                  have e_ : x41 = z_ := e_
                  subst e_
                  have hP : va_P G.1 vwCl (zw G MS 51 a g42 L43) H := hP
                  have hD : va_D A (zw G MS 51 a g42 L43) := hD
                  refine lv_aload_n hx hb dX12_term_98 rfl (lv_at hl 0 rfl) ?_
                  refine x_getr (Or.inl fl_X12_35) C hP (by decide) ms_0 rfl dX12_term_99 ?_
                  refine lv_iload hx hb dX12_term_102 (lv_at hl 8 rfl) ?_
                  refine y_ald C hP (by decide) ms_7 dX12_term_104 h (fun h => ?_)
                  refine lv_icmp_lt (x := x41) (y := (g42 7 (Int32.toNatClampNeg v9))) (tgt := 121) hx hb dX12_term_105 (by decide) (fun c45 => ?_) (fun c45 => ?_)
                  ·
                    have h := ite_t c45 h
                    exact J121 v9 g42 L43 H locs ls h hP hD hS (lv_sub hl [0, 1, 2, 3, 4, 5, 6, 7, 8] rfl)
                  ·
                    have h := ite_e c45 h
                    refine lv_aload_n hx hb dX12_term_108 rfl (lv_at hl 0 rfl) ?_
                    refine lv_dup hx hb dX12_term_109 rfl ?_
                    refine x_getv (v := .int (g42 0 60)) (Or.inl fl_X12_374) C hP (by decide) ms_0 rfl dX12_term_110 ?_
                    refine lv_iconst (v := 1) hx hb dX12_term_113 (by decide) ?_
                    refine lv_iload hx hb dX12_term_114 (lv_at hl 8 rfl) ?_
                    refine lv_ishl hx hb dX12_term_116 ?_
                    refine lv_ior hx hb dX12_term_117 ?_
                    refine y_puti (Or.inl fl_X12_374) ft_X12_60 C hP hD hS (by decide) ms_0 rfl rfl rfl dX12_term_118 h (fun g46 H locs h hP hD hS => ?_)
                    exact J121 v9 g46 L43 H locs ls h hP hD hS (lv_sub hl [0, 1, 2, 3, 4, 5, 6, 7, 8] rfl)
            exact lp71 v5 v6 v7 v8 fu (0, g26, L) h H locs ls hP hD hS (lv_sub hl [1, 2, 3, 4, 5, 6, 7, 8, 0] rfl)
        exact lp57 p2 p3 p4 fu (0, 0, 0, 0, g21, L18) h H locs ls hP hD hS (lv_sub hl [4, 6, 7, 8, 3, 2, 1, 0] rfl)
      ·
        have h := ite_t c20 h
        exact J38 g17 L18 H locs ls h hP hD hS (lv_sub hl [] rfl)
def fX12_copies_12_48_s2 (fu : Nat) (k2 : Int32 × (Nat → Nat → Int32) × (Nat → Nat → Int64) → Option ((Unit) × zS)) (v3 : Int32) (g : Nat → Nat → Int32) (L : Nat → Nat → Int64) : Option ((Unit) × zS) :=
  if 48 ≤ (v3 : Int32) then some ((), (g, L))
  else ck v3 48 (
  ck v3 48 (sti g 48 (Int32.toNatClampNeg v3) (g 12 (Int32.toNatClampNeg v3)) (fun g2 =>
  k2 ((v3 + 1), g2, L))))
def fX12_copies_12_48_l2 (fu : Nat) (v3 : Int32) (g : Nat → Nat → Int32) (L : Nat → Nat → Int64) : Option ((Unit) × zS) :=
  whileK (fun k v => fX12_copies_12_48_s2 fu k v.1 v.2.1 v.2.2) fu (v3, g, L)
def fX12_copies_12_48 (fu : Nat) (g : Nat → Nat → Int32) (L : Nat → Nat → Int64) : Option ((Unit) × zS) :=
  fX12_copies_12_48_l2 fu 0 g L
set_option maxHeartbeats 4000000 in
set_option maxRecDepth 100000 in
theorem rX12_copies_12_48 (l : Launch) (G : kG) (sz : Nat) (a : Nat → Nat) (fu : Nat) (g : Nat → Nat → Int32) (L : Nat → Nat → Int64) (res : Unit) (s9 : zS) (h : fX12_copies_12_48 fu g L = some (res, s9)) : kM l yX12_copies cX12_copies 4 none { frames := 6, cells := 0, slots := 0, locals := 110 } G [.ref (a 0), .ref (a 12), .ref (a 48)] (zw G MS 51 a g L) sz (kQv G (S := Unit) (fun _ => True) (fun _ => zw G MS 51 a s9.1 s9.2)) := by
  refine kM.of (by decide) (Nat.le_of_ble_eq_true rfl) ?_
  intro p e s m below meth c A ls H C hr hlk hnm hP hD hS hl
  have C : kC G p s m c cX12_copies 4 RX12 A := C
  have hx := C.1
  have hb := C.2.1
  have hl : lv_has ls 4 [(0, .ref (a 0)), (1, .ref (a 12)), (2, .ref (a 48))] := hl
  obtain ⟨locs, hlocs⟩ : ∃ q : List Loc, q = [] := ⟨_, rfl⟩
  rw [← hlocs] at hS
  rw [← hlocs]
  unfold fX12_copies_12_48 at h
  refine lv_iconst (v := 0) hx hb dX12_copies_0 (by decide) ?_
  refine lv_istore_n (lv' := [(3, .int 0), (0, .ref (a 0)), (1, .ref (a 12)), (2, .ref (a 48))]) hx hb dX12_copies_1 rfl hl (by decide) rfl (fun ls hl => ?_)
  have lp2 : ∀ (_ : True), ∀ (n : Nat) (v : Int32 × (Nat → Nat → Int32) × (Nat → Nat → Int64)), whileK (fun k v => fX12_copies_12_48_s2 fu k v.1 v.2.1 v.2.2) n v = some (res, s9) → ∀ (H : Heap) (locs : List Loc) (ls : Array Slot), va_P G.1 vwCl (zw G MS 51 a (v.2.1) (v.2.2)) H → va_D A (zw G MS 51 a (v.2.1) (v.2.2)) → va_S A s.heap H locs → lv_has ls 4 [(1, .ref (a 12)), (2, .ref (a 48)), (3, .int (v.1))] → W p l e { frames := 6, cells := 0, slots := 0, locals := 110 } s m [.ref (a 0), .ref (a 12), .ref (a 48)].toArray below meth c H locs 0 0 (MQ below ((kQv G (S := Unit) (fun _ => True) (fun _ => zw G MS 51 a s9.1 s9.2)) A) [.ref (a 0), .ref (a 12), .ref (a 48)].toArray s 0 0 A) (F0 m 2 ls []) := by
    intro _
    refine while_ind (fun k2 ih2 v h => ?_)
    obtain ⟨v3, g, L⟩ := v
    intro H locs ls hP hD hS hl
    have h : fX12_copies_12_48_s2 fu k2 v3 g L = some (res, s9) := h
    have hP : va_P G.1 vwCl (zw G MS 51 a g L) H := hP
    have hD : va_D A (zw G MS 51 a g L) := hD
    have hl : lv_has ls 4 [(1, .ref (a 12)), (2, .ref (a 48)), (3, .int v3)] := hl
    show W p l e { frames := 6, cells := 0, slots := 0, locals := 110 } s m [.ref (a 0), .ref (a 12), .ref (a 48)].toArray below meth c H locs 0 0 (MQ below ((kQv G (S := Unit) (fun _ => True) (fun _ => zw G MS 51 a s9.1 s9.2)) A) [.ref (a 0), .ref (a 12), .ref (a 48)].toArray s 0 0 A) (F0 m 2 ls [])
    unfold fX12_copies_12_48_s2 at h
    refine lv_iload_n hx hb dX12_copies_2 rfl (lv_at hl 2 rfl) ?_
    refine lv_aload_n hx hb dX12_copies_3 rfl (lv_at hl 0 rfl) ?_
    refine x_alen (v := 48) C hP (by decide) ms_12 rfl dX12_copies_4 ?_
    refine lv_icmp_ge (x := v3) (y := 48) (tgt := 20) hx hb dX12_copies_5 (by decide) (fun c1 => ?_) (fun c1 => ?_)
    ·
      have h := ite_t c1 h
      exact y_vret C hr hlk hP hD hS h (Nat.le_of_ble_eq_true rfl) (Nat.le_of_ble_eq_true rfl) dX12_copies_20
    ·
      have h := ite_e c1 h
      refine lv_aload_n hx hb dX12_copies_8 rfl (lv_at hl 1 rfl) ?_
      refine lv_iload_n hx hb dX12_copies_9 rfl (lv_at hl 2 rfl) ?_
      refine lv_aload_n hx hb dX12_copies_10 rfl (lv_at hl 0 rfl) ?_
      refine lv_iload_n hx hb dX12_copies_11 rfl (lv_at hl 2 rfl) ?_
      refine y_ald C hP (by decide) ms_12 dX12_copies_12 h (fun h => ?_)
      refine y_ast C hP hD hS (by decide) ms_48 dX12_copies_13 h (fun g2 H locs h hP hD hS => ?_)
      refine lv_iinc (v := (v3 + 1)) (lv' := [(3, .int (v3 + 1)), (1, .ref (a 12)), (2, .ref (a 48))]) hx hb dX12_copies_14 hl (k := 2) rfl rfl (by decide) rfl (fun ls hl => ?_)
      refine lv_goto (tgt := 2) hx hb dX12_copies_17 (by decide) ?_
      exact ih2 ((v3 + 1), g2, L) h H locs ls hP hD hS (lv_sub hl [1, 2, 0] rfl)
  exact lp2 trivial fu (0, g, L) h H locs ls hP hD hS (lv_sub hl [2, 3, 0] rfl)
def fX12_copies_36_49_s2 (fu : Nat) (k2 : Int32 × (Nat → Nat → Int32) × (Nat → Nat → Int64) → Option ((Unit) × zS)) (v3 : Int32) (g : Nat → Nat → Int32) (L : Nat → Nat → Int64) : Option ((Unit) × zS) :=
  if 80 ≤ (v3 : Int32) then some ((), (g, L))
  else ck v3 80 (
  ck v3 80 (sti g 49 (Int32.toNatClampNeg v3) (g 36 (Int32.toNatClampNeg v3)) (fun g2 =>
  k2 ((v3 + 1), g2, L))))
def fX12_copies_36_49_l2 (fu : Nat) (v3 : Int32) (g : Nat → Nat → Int32) (L : Nat → Nat → Int64) : Option ((Unit) × zS) :=
  whileK (fun k v => fX12_copies_36_49_s2 fu k v.1 v.2.1 v.2.2) fu (v3, g, L)
def fX12_copies_36_49 (fu : Nat) (g : Nat → Nat → Int32) (L : Nat → Nat → Int64) : Option ((Unit) × zS) :=
  fX12_copies_36_49_l2 fu 0 g L
set_option maxHeartbeats 4000000 in
set_option maxRecDepth 100000 in
theorem rX12_copies_36_49 (l : Launch) (G : kG) (sz : Nat) (a : Nat → Nat) (fu : Nat) (g : Nat → Nat → Int32) (L : Nat → Nat → Int64) (res : Unit) (s9 : zS) (h : fX12_copies_36_49 fu g L = some (res, s9)) : kM l yX12_copies cX12_copies 4 none { frames := 6, cells := 0, slots := 0, locals := 110 } G [.ref (a 0), .ref (a 36), .ref (a 49)] (zw G MS 51 a g L) sz (kQv G (S := Unit) (fun _ => True) (fun _ => zw G MS 51 a s9.1 s9.2)) := by
  refine kM.of (by decide) (Nat.le_of_ble_eq_true rfl) ?_
  intro p e s m below meth c A ls H C hr hlk hnm hP hD hS hl
  have C : kC G p s m c cX12_copies 4 RX12 A := C
  have hx := C.1
  have hb := C.2.1
  have hl : lv_has ls 4 [(0, .ref (a 0)), (1, .ref (a 36)), (2, .ref (a 49))] := hl
  obtain ⟨locs, hlocs⟩ : ∃ q : List Loc, q = [] := ⟨_, rfl⟩
  rw [← hlocs] at hS
  rw [← hlocs]
  unfold fX12_copies_36_49 at h
  refine lv_iconst (v := 0) hx hb dX12_copies_0 (by decide) ?_
  refine lv_istore_n (lv' := [(3, .int 0), (0, .ref (a 0)), (1, .ref (a 36)), (2, .ref (a 49))]) hx hb dX12_copies_1 rfl hl (by decide) rfl (fun ls hl => ?_)
  have lp2 : ∀ (_ : True), ∀ (n : Nat) (v : Int32 × (Nat → Nat → Int32) × (Nat → Nat → Int64)), whileK (fun k v => fX12_copies_36_49_s2 fu k v.1 v.2.1 v.2.2) n v = some (res, s9) → ∀ (H : Heap) (locs : List Loc) (ls : Array Slot), va_P G.1 vwCl (zw G MS 51 a (v.2.1) (v.2.2)) H → va_D A (zw G MS 51 a (v.2.1) (v.2.2)) → va_S A s.heap H locs → lv_has ls 4 [(1, .ref (a 36)), (2, .ref (a 49)), (3, .int (v.1))] → W p l e { frames := 6, cells := 0, slots := 0, locals := 110 } s m [.ref (a 0), .ref (a 36), .ref (a 49)].toArray below meth c H locs 0 0 (MQ below ((kQv G (S := Unit) (fun _ => True) (fun _ => zw G MS 51 a s9.1 s9.2)) A) [.ref (a 0), .ref (a 36), .ref (a 49)].toArray s 0 0 A) (F0 m 2 ls []) := by
    intro _
    refine while_ind (fun k2 ih2 v h => ?_)
    obtain ⟨v3, g, L⟩ := v
    intro H locs ls hP hD hS hl
    have h : fX12_copies_36_49_s2 fu k2 v3 g L = some (res, s9) := h
    have hP : va_P G.1 vwCl (zw G MS 51 a g L) H := hP
    have hD : va_D A (zw G MS 51 a g L) := hD
    have hl : lv_has ls 4 [(1, .ref (a 36)), (2, .ref (a 49)), (3, .int v3)] := hl
    show W p l e { frames := 6, cells := 0, slots := 0, locals := 110 } s m [.ref (a 0), .ref (a 36), .ref (a 49)].toArray below meth c H locs 0 0 (MQ below ((kQv G (S := Unit) (fun _ => True) (fun _ => zw G MS 51 a s9.1 s9.2)) A) [.ref (a 0), .ref (a 36), .ref (a 49)].toArray s 0 0 A) (F0 m 2 ls [])
    unfold fX12_copies_36_49_s2 at h
    refine lv_iload_n hx hb dX12_copies_2 rfl (lv_at hl 2 rfl) ?_
    refine lv_aload_n hx hb dX12_copies_3 rfl (lv_at hl 0 rfl) ?_
    refine x_alen (v := 80) C hP (by decide) ms_36 rfl dX12_copies_4 ?_
    refine lv_icmp_ge (x := v3) (y := 80) (tgt := 20) hx hb dX12_copies_5 (by decide) (fun c1 => ?_) (fun c1 => ?_)
    ·
      have h := ite_t c1 h
      exact y_vret C hr hlk hP hD hS h (Nat.le_of_ble_eq_true rfl) (Nat.le_of_ble_eq_true rfl) dX12_copies_20
    ·
      have h := ite_e c1 h
      refine lv_aload_n hx hb dX12_copies_8 rfl (lv_at hl 1 rfl) ?_
      refine lv_iload_n hx hb dX12_copies_9 rfl (lv_at hl 2 rfl) ?_
      refine lv_aload_n hx hb dX12_copies_10 rfl (lv_at hl 0 rfl) ?_
      refine lv_iload_n hx hb dX12_copies_11 rfl (lv_at hl 2 rfl) ?_
      refine y_ald C hP (by decide) ms_36 dX12_copies_12 h (fun h => ?_)
      refine y_ast C hP hD hS (by decide) ms_49 dX12_copies_13 h (fun g2 H locs h hP hD hS => ?_)
      refine lv_iinc (v := (v3 + 1)) (lv' := [(3, .int (v3 + 1)), (1, .ref (a 36)), (2, .ref (a 49))]) hx hb dX12_copies_14 hl (k := 2) rfl rfl (by decide) rfl (fun ls hl => ?_)
      refine lv_goto (tgt := 2) hx hb dX12_copies_17 (by decide) ?_
      exact ih2 ((v3 + 1), g2, L) h H locs ls hP hD hS (lv_sub hl [1, 2, 0] rfl)
  exact lp2 trivial fu (0, g, L) h H locs ls hP hD hS (lv_sub hl [2, 3, 0] rfl)
def fX12_copies_43_50_s2 (fu : Nat) (k2 : Int32 × (Nat → Nat → Int32) × (Nat → Nat → Int64) → Option ((Unit) × zS)) (v3 : Int32) (g : Nat → Nat → Int32) (L : Nat → Nat → Int64) : Option ((Unit) × zS) :=
  if 16 ≤ (v3 : Int32) then some ((), (g, L))
  else ck v3 16 (
  ck v3 16 (sti g 50 (Int32.toNatClampNeg v3) (g 43 (Int32.toNatClampNeg v3)) (fun g2 =>
  k2 ((v3 + 1), g2, L))))
def fX12_copies_43_50_l2 (fu : Nat) (v3 : Int32) (g : Nat → Nat → Int32) (L : Nat → Nat → Int64) : Option ((Unit) × zS) :=
  whileK (fun k v => fX12_copies_43_50_s2 fu k v.1 v.2.1 v.2.2) fu (v3, g, L)
def fX12_copies_43_50 (fu : Nat) (g : Nat → Nat → Int32) (L : Nat → Nat → Int64) : Option ((Unit) × zS) :=
  fX12_copies_43_50_l2 fu 0 g L
set_option maxHeartbeats 4000000 in
set_option maxRecDepth 100000 in
theorem rX12_copies_43_50 (l : Launch) (G : kG) (sz : Nat) (a : Nat → Nat) (fu : Nat) (g : Nat → Nat → Int32) (L : Nat → Nat → Int64) (res : Unit) (s9 : zS) (h : fX12_copies_43_50 fu g L = some (res, s9)) : kM l yX12_copies cX12_copies 4 none { frames := 6, cells := 0, slots := 0, locals := 110 } G [.ref (a 0), .ref (a 43), .ref (a 50)] (zw G MS 51 a g L) sz (kQv G (S := Unit) (fun _ => True) (fun _ => zw G MS 51 a s9.1 s9.2)) := by
  refine kM.of (by decide) (Nat.le_of_ble_eq_true rfl) ?_
  intro p e s m below meth c A ls H C hr hlk hnm hP hD hS hl
  have C : kC G p s m c cX12_copies 4 RX12 A := C
  have hx := C.1
  have hb := C.2.1
  have hl : lv_has ls 4 [(0, .ref (a 0)), (1, .ref (a 43)), (2, .ref (a 50))] := hl
  obtain ⟨locs, hlocs⟩ : ∃ q : List Loc, q = [] := ⟨_, rfl⟩
  rw [← hlocs] at hS
  rw [← hlocs]
  unfold fX12_copies_43_50 at h
  refine lv_iconst (v := 0) hx hb dX12_copies_0 (by decide) ?_
  refine lv_istore_n (lv' := [(3, .int 0), (0, .ref (a 0)), (1, .ref (a 43)), (2, .ref (a 50))]) hx hb dX12_copies_1 rfl hl (by decide) rfl (fun ls hl => ?_)
  have lp2 : ∀ (_ : True), ∀ (n : Nat) (v : Int32 × (Nat → Nat → Int32) × (Nat → Nat → Int64)), whileK (fun k v => fX12_copies_43_50_s2 fu k v.1 v.2.1 v.2.2) n v = some (res, s9) → ∀ (H : Heap) (locs : List Loc) (ls : Array Slot), va_P G.1 vwCl (zw G MS 51 a (v.2.1) (v.2.2)) H → va_D A (zw G MS 51 a (v.2.1) (v.2.2)) → va_S A s.heap H locs → lv_has ls 4 [(1, .ref (a 43)), (2, .ref (a 50)), (3, .int (v.1))] → W p l e { frames := 6, cells := 0, slots := 0, locals := 110 } s m [.ref (a 0), .ref (a 43), .ref (a 50)].toArray below meth c H locs 0 0 (MQ below ((kQv G (S := Unit) (fun _ => True) (fun _ => zw G MS 51 a s9.1 s9.2)) A) [.ref (a 0), .ref (a 43), .ref (a 50)].toArray s 0 0 A) (F0 m 2 ls []) := by
    intro _
    refine while_ind (fun k2 ih2 v h => ?_)
    obtain ⟨v3, g, L⟩ := v
    intro H locs ls hP hD hS hl
    have h : fX12_copies_43_50_s2 fu k2 v3 g L = some (res, s9) := h
    have hP : va_P G.1 vwCl (zw G MS 51 a g L) H := hP
    have hD : va_D A (zw G MS 51 a g L) := hD
    have hl : lv_has ls 4 [(1, .ref (a 43)), (2, .ref (a 50)), (3, .int v3)] := hl
    show W p l e { frames := 6, cells := 0, slots := 0, locals := 110 } s m [.ref (a 0), .ref (a 43), .ref (a 50)].toArray below meth c H locs 0 0 (MQ below ((kQv G (S := Unit) (fun _ => True) (fun _ => zw G MS 51 a s9.1 s9.2)) A) [.ref (a 0), .ref (a 43), .ref (a 50)].toArray s 0 0 A) (F0 m 2 ls [])
    unfold fX12_copies_43_50_s2 at h
    refine lv_iload_n hx hb dX12_copies_2 rfl (lv_at hl 2 rfl) ?_
    refine lv_aload_n hx hb dX12_copies_3 rfl (lv_at hl 0 rfl) ?_
    refine x_alen (v := 16) C hP (by decide) ms_43 rfl dX12_copies_4 ?_
    refine lv_icmp_ge (x := v3) (y := 16) (tgt := 20) hx hb dX12_copies_5 (by decide) (fun c1 => ?_) (fun c1 => ?_)
    ·
      have h := ite_t c1 h
      exact y_vret C hr hlk hP hD hS h (Nat.le_of_ble_eq_true rfl) (Nat.le_of_ble_eq_true rfl) dX12_copies_20
    ·
      have h := ite_e c1 h
      refine lv_aload_n hx hb dX12_copies_8 rfl (lv_at hl 1 rfl) ?_
      refine lv_iload_n hx hb dX12_copies_9 rfl (lv_at hl 2 rfl) ?_
      refine lv_aload_n hx hb dX12_copies_10 rfl (lv_at hl 0 rfl) ?_
      refine lv_iload_n hx hb dX12_copies_11 rfl (lv_at hl 2 rfl) ?_
      refine y_ald C hP (by decide) ms_43 dX12_copies_12 h (fun h => ?_)
      refine y_ast C hP hD hS (by decide) ms_50 dX12_copies_13 h (fun g2 H locs h hP hD hS => ?_)
      refine lv_iinc (v := (v3 + 1)) (lv' := [(3, .int (v3 + 1)), (1, .ref (a 43)), (2, .ref (a 50))]) hx hb dX12_copies_14 hl (k := 2) rfl rfl (by decide) rfl (fun ls hl => ?_)
      refine lv_goto (tgt := 2) hx hb dX12_copies_17 (by decide) ?_
      exact ih2 ((v3 + 1), g2, L) h H locs ls hP hD hS (lv_sub hl [1, 2, 0] rfl)
  exact lp2 trivial fu (0, g, L) h H locs ls hP hD hS (lv_sub hl [2, 3, 0] rfl)
def fX12_image (fu : Nat) (g : Nat → Nat → Int32) (L : Nat → Nat → Int64) : Option ((Unit) × zS) :=
  sti g 0 0 0 (fun g1 =>
  sti g1 0 81 1 (fun g2 =>
  sti g2 0 82 (g2 0 52) (fun g3 =>
  sti g3 0 83 (g3 0 62) (fun g4 =>
  sti g4 0 84 (g4 0 73) (fun g5 =>
  cb (fX12_copies_12_48 fu g5 L) (fun x6 g7 L8 =>
  cb (fX12_copies_36_49 fu g7 L8) (fun x10 g11 L12 =>
  cb (fX12_copies_43_50 fu g11 L12) (fun x14 g15 L16 =>
  some ((), (g15, L16))))))))))
set_option maxHeartbeats 4000000 in
set_option maxRecDepth 100000 in
theorem rX12_image (l : Launch) (G : kG) (sz : Nat) (a : Nat → Nat) (fu : Nat) (g : Nat → Nat → Int32) (L : Nat → Nat → Int64) (res : Unit) (s9 : zS) (h : fX12_image fu g L = some (res, s9)) : kM l yX12_image cX12_image 1 none { frames := 7, cells := 0, slots := 0, locals := 133 } G [.ref (a 0)] (zw G MS 51 a g L) sz (kQv G (S := Unit) (fun _ => True) (fun _ => zw G MS 51 a s9.1 s9.2)) := by
  refine kM.of (by decide) (Nat.le_of_ble_eq_true rfl) ?_
  intro p e s m below meth c A ls H C hr hlk hnm hP hD hS hl
  have C : kC G p s m c cX12_image 1 RX12 A := C
  have hx := C.1
  have hb := C.2.1
  have hl : lv_has ls 1 [(0, .ref (a 0))] := hl
  obtain ⟨locs, hlocs⟩ : ∃ q : List Loc, q = [] := ⟨_, rfl⟩
  rw [← hlocs] at hS
  rw [← hlocs]
  unfold fX12_image at h
  refine lv_aload_n hx hb dX12_image_0 rfl (lv_at hl 0 rfl) ?_
  refine lv_iconst (v := 0) hx hb dX12_image_1 (by decide) ?_
  refine y_puti (Or.inl fl_X12_177) ft_X12_0 C hP hD hS (by decide) ms_0 rfl rfl rfl dX12_image_2 h (fun g1 H locs h hP hD hS => ?_)
  refine lv_aload_n hx hb dX12_image_5 rfl (lv_at hl 0 rfl) ?_
  refine lv_iconst (v := 1) hx hb dX12_image_6 (by decide) ?_
  refine y_puti (Or.inl fl_X12_355) ft_X12_81 C hP hD hS (by decide) ms_0 rfl rfl rfl dX12_image_7 h (fun g2 H locs h hP hD hS => ?_)
  refine lv_aload_n hx hb dX12_image_10 rfl (lv_at hl 0 rfl) ?_
  refine lv_aload_n hx hb dX12_image_11 rfl (lv_at hl 0 rfl) ?_
  refine x_getv (v := .int (g2 0 52)) (Or.inl fl_X12_105) C hP (by decide) ms_0 rfl dX12_image_12 ?_
  refine y_puti (Or.inl fl_X12_481) ft_X12_82 C hP hD hS (by decide) ms_0 rfl rfl rfl dX12_image_15 h (fun g3 H locs h hP hD hS => ?_)
  refine lv_aload_n hx hb dX12_image_18 rfl (lv_at hl 0 rfl) ?_
  refine lv_aload_n hx hb dX12_image_19 rfl (lv_at hl 0 rfl) ?_
  refine x_getv (v := .int (g3 0 62)) (Or.inl fl_X12_345) C hP (by decide) ms_0 rfl dX12_image_20 ?_
  refine y_puti (Or.inl fl_X12_484) ft_X12_83 C hP hD hS (by decide) ms_0 rfl rfl rfl dX12_image_23 h (fun g4 H locs h hP hD hS => ?_)
  refine lv_aload_n hx hb dX12_image_26 rfl (lv_at hl 0 rfl) ?_
  refine lv_aload_n hx hb dX12_image_27 rfl (lv_at hl 0 rfl) ?_
  refine x_getv (v := .int (g4 0 73)) (Or.inl fl_X12_348) C hP (by decide) ms_0 rfl dX12_image_28 ?_
  refine y_puti (Or.inl fl_X12_487) ft_X12_84 C hP hD hS (by decide) ms_0 rfl rfl rfl dX12_image_31 h (fun g5 H locs h hP hD hS => ?_)
  refine lv_aload_n hx hb dX12_image_34 rfl (lv_at hl 0 rfl) ?_
  refine lv_aload_n hx hb dX12_image_35 rfl (lv_at hl 0 rfl) ?_
  refine x_getr (Or.inl fl_X12_50) C hP (by decide) ms_0 rfl dX12_image_36 ?_
  refine lv_aload_n hx hb dX12_image_39 rfl (lv_at hl 0 rfl) ?_
  refine x_getr (Or.inl fl_X12_168) C hP (by decide) ms_0 rfl dX12_image_40 ?_
  obtain ⟨z_, g7, L8, hf9, h⟩ := cb_some h
  refine x_callVv (rest := []) li_X12_341 C (rX12_copies_12_48 l G H.size a fu g5 L z_ (g7, L8) hf9) (kR rfl) hP hD hS 0 12 rfl (zat (by decide) ms_0) rfl hl.1 rfl (Nat.le_of_ble_eq_true rfl) dX12_image_43 (fun u_ H locs e_ hP hD hS => ?_)
  have hP : va_P G.1 vwCl (zw G MS 51 a g7 L8) H := hP
  have hD : va_D A (zw G MS 51 a g7 L8) := hD
  refine lv_aload_n hx hb dX12_image_46 rfl (lv_at hl 0 rfl) ?_
  refine lv_aload_n hx hb dX12_image_47 rfl (lv_at hl 0 rfl) ?_
  refine x_getr (Or.inl fl_X12_132) C hP (by decide) ms_0 rfl dX12_image_48 ?_
  refine lv_aload_n hx hb dX12_image_51 rfl (lv_at hl 0 rfl) ?_
  refine x_getr (Or.inl fl_X12_171) C hP (by decide) ms_0 rfl dX12_image_52 ?_
  obtain ⟨z_, g11, L12, hf13, h⟩ := cb_some h
  refine x_callVv (rest := []) li_X12_341 C (rX12_copies_36_49 l G H.size a fu g7 L8 z_ (g11, L12) hf13) (kR rfl) hP hD hS 0 12 rfl (zat (by decide) ms_0) rfl hl.1 rfl (Nat.le_of_ble_eq_true rfl) dX12_image_55 (fun u_ H locs e_ hP hD hS => ?_)
  have hP : va_P G.1 vwCl (zw G MS 51 a g11 L12) H := hP
  have hD : va_D A (zw G MS 51 a g11 L12) := hD
  refine lv_aload_n hx hb dX12_image_58 rfl (lv_at hl 0 rfl) ?_
  refine lv_aload_n hx hb dX12_image_59 rfl (lv_at hl 0 rfl) ?_
  refine x_getr (Or.inl fl_X12_153) C hP (by decide) ms_0 rfl dX12_image_60 ?_
  refine lv_aload_n hx hb dX12_image_63 rfl (lv_at hl 0 rfl) ?_
  refine x_getr (Or.inl fl_X12_174) C hP (by decide) ms_0 rfl dX12_image_64 ?_
  obtain ⟨z_, g15, L16, hf17, h⟩ := cb_some h
  refine x_callVv (rest := []) li_X12_341 C (rX12_copies_43_50 l G H.size a fu g11 L12 z_ (g15, L16) hf17) (kR rfl) hP hD hS 0 12 rfl (zat (by decide) ms_0) rfl hl.1 rfl (Nat.le_of_ble_eq_true rfl) dX12_image_67 (fun u_ H locs e_ hP hD hS => ?_)
  have hP : va_P G.1 vwCl (zw G MS 51 a g15 L16) H := hP
  have hD : va_D A (zw G MS 51 a g15 L16) := hD
  exact y_vret C hr hlk hP hD hS h (Nat.le_of_ble_eq_true rfl) (Nat.le_of_ble_eq_true rfl) dX12_image_70
def fX12_copies_48_12_s2 (fu : Nat) (k2 : Int32 × (Nat → Nat → Int32) × (Nat → Nat → Int64) → Option ((Unit) × zS)) (v3 : Int32) (g : Nat → Nat → Int32) (L : Nat → Nat → Int64) : Option ((Unit) × zS) :=
  if 48 ≤ (v3 : Int32) then some ((), (g, L))
  else ck v3 48 (
  ck v3 48 (sti g 12 (Int32.toNatClampNeg v3) (g 48 (Int32.toNatClampNeg v3)) (fun g2 =>
  k2 ((v3 + 1), g2, L))))
def fX12_copies_48_12_l2 (fu : Nat) (v3 : Int32) (g : Nat → Nat → Int32) (L : Nat → Nat → Int64) : Option ((Unit) × zS) :=
  whileK (fun k v => fX12_copies_48_12_s2 fu k v.1 v.2.1 v.2.2) fu (v3, g, L)
def fX12_copies_48_12 (fu : Nat) (g : Nat → Nat → Int32) (L : Nat → Nat → Int64) : Option ((Unit) × zS) :=
  fX12_copies_48_12_l2 fu 0 g L
set_option maxHeartbeats 4000000 in
set_option maxRecDepth 100000 in
theorem rX12_copies_48_12 (l : Launch) (G : kG) (sz : Nat) (a : Nat → Nat) (fu : Nat) (g : Nat → Nat → Int32) (L : Nat → Nat → Int64) (res : Unit) (s9 : zS) (h : fX12_copies_48_12 fu g L = some (res, s9)) : kM l yX12_copies cX12_copies 4 none { frames := 6, cells := 0, slots := 0, locals := 110 } G [.ref (a 0), .ref (a 48), .ref (a 12)] (zw G MS 51 a g L) sz (kQv G (S := Unit) (fun _ => True) (fun _ => zw G MS 51 a s9.1 s9.2)) := by
  refine kM.of (by decide) (Nat.le_of_ble_eq_true rfl) ?_
  intro p e s m below meth c A ls H C hr hlk hnm hP hD hS hl
  have C : kC G p s m c cX12_copies 4 RX12 A := C
  have hx := C.1
  have hb := C.2.1
  have hl : lv_has ls 4 [(0, .ref (a 0)), (1, .ref (a 48)), (2, .ref (a 12))] := hl
  obtain ⟨locs, hlocs⟩ : ∃ q : List Loc, q = [] := ⟨_, rfl⟩
  rw [← hlocs] at hS
  rw [← hlocs]
  unfold fX12_copies_48_12 at h
  refine lv_iconst (v := 0) hx hb dX12_copies_0 (by decide) ?_
  refine lv_istore_n (lv' := [(3, .int 0), (0, .ref (a 0)), (1, .ref (a 48)), (2, .ref (a 12))]) hx hb dX12_copies_1 rfl hl (by decide) rfl (fun ls hl => ?_)
  have lp2 : ∀ (_ : True), ∀ (n : Nat) (v : Int32 × (Nat → Nat → Int32) × (Nat → Nat → Int64)), whileK (fun k v => fX12_copies_48_12_s2 fu k v.1 v.2.1 v.2.2) n v = some (res, s9) → ∀ (H : Heap) (locs : List Loc) (ls : Array Slot), va_P G.1 vwCl (zw G MS 51 a (v.2.1) (v.2.2)) H → va_D A (zw G MS 51 a (v.2.1) (v.2.2)) → va_S A s.heap H locs → lv_has ls 4 [(1, .ref (a 48)), (2, .ref (a 12)), (3, .int (v.1))] → W p l e { frames := 6, cells := 0, slots := 0, locals := 110 } s m [.ref (a 0), .ref (a 48), .ref (a 12)].toArray below meth c H locs 0 0 (MQ below ((kQv G (S := Unit) (fun _ => True) (fun _ => zw G MS 51 a s9.1 s9.2)) A) [.ref (a 0), .ref (a 48), .ref (a 12)].toArray s 0 0 A) (F0 m 2 ls []) := by
    intro _
    refine while_ind (fun k2 ih2 v h => ?_)
    obtain ⟨v3, g, L⟩ := v
    intro H locs ls hP hD hS hl
    have h : fX12_copies_48_12_s2 fu k2 v3 g L = some (res, s9) := h
    have hP : va_P G.1 vwCl (zw G MS 51 a g L) H := hP
    have hD : va_D A (zw G MS 51 a g L) := hD
    have hl : lv_has ls 4 [(1, .ref (a 48)), (2, .ref (a 12)), (3, .int v3)] := hl
    show W p l e { frames := 6, cells := 0, slots := 0, locals := 110 } s m [.ref (a 0), .ref (a 48), .ref (a 12)].toArray below meth c H locs 0 0 (MQ below ((kQv G (S := Unit) (fun _ => True) (fun _ => zw G MS 51 a s9.1 s9.2)) A) [.ref (a 0), .ref (a 48), .ref (a 12)].toArray s 0 0 A) (F0 m 2 ls [])
    unfold fX12_copies_48_12_s2 at h
    refine lv_iload_n hx hb dX12_copies_2 rfl (lv_at hl 2 rfl) ?_
    refine lv_aload_n hx hb dX12_copies_3 rfl (lv_at hl 0 rfl) ?_
    refine x_alen (v := 48) C hP (by decide) ms_48 rfl dX12_copies_4 ?_
    refine lv_icmp_ge (x := v3) (y := 48) (tgt := 20) hx hb dX12_copies_5 (by decide) (fun c1 => ?_) (fun c1 => ?_)
    ·
      have h := ite_t c1 h
      exact y_vret C hr hlk hP hD hS h (Nat.le_of_ble_eq_true rfl) (Nat.le_of_ble_eq_true rfl) dX12_copies_20
    ·
      have h := ite_e c1 h
      refine lv_aload_n hx hb dX12_copies_8 rfl (lv_at hl 1 rfl) ?_
      refine lv_iload_n hx hb dX12_copies_9 rfl (lv_at hl 2 rfl) ?_
      refine lv_aload_n hx hb dX12_copies_10 rfl (lv_at hl 0 rfl) ?_
      refine lv_iload_n hx hb dX12_copies_11 rfl (lv_at hl 2 rfl) ?_
      refine y_ald C hP (by decide) ms_48 dX12_copies_12 h (fun h => ?_)
      refine y_ast C hP hD hS (by decide) ms_12 dX12_copies_13 h (fun g2 H locs h hP hD hS => ?_)
      refine lv_iinc (v := (v3 + 1)) (lv' := [(3, .int (v3 + 1)), (1, .ref (a 48)), (2, .ref (a 12))]) hx hb dX12_copies_14 hl (k := 2) rfl rfl (by decide) rfl (fun ls hl => ?_)
      refine lv_goto (tgt := 2) hx hb dX12_copies_17 (by decide) ?_
      exact ih2 ((v3 + 1), g2, L) h H locs ls hP hD hS (lv_sub hl [1, 2, 0] rfl)
  exact lp2 trivial fu (0, g, L) h H locs ls hP hD hS (lv_sub hl [2, 3, 0] rfl)
def fX12_copies_49_36_s2 (fu : Nat) (k2 : Int32 × (Nat → Nat → Int32) × (Nat → Nat → Int64) → Option ((Unit) × zS)) (v3 : Int32) (g : Nat → Nat → Int32) (L : Nat → Nat → Int64) : Option ((Unit) × zS) :=
  if 80 ≤ (v3 : Int32) then some ((), (g, L))
  else ck v3 80 (
  ck v3 80 (sti g 36 (Int32.toNatClampNeg v3) (g 49 (Int32.toNatClampNeg v3)) (fun g2 =>
  k2 ((v3 + 1), g2, L))))
def fX12_copies_49_36_l2 (fu : Nat) (v3 : Int32) (g : Nat → Nat → Int32) (L : Nat → Nat → Int64) : Option ((Unit) × zS) :=
  whileK (fun k v => fX12_copies_49_36_s2 fu k v.1 v.2.1 v.2.2) fu (v3, g, L)
def fX12_copies_49_36 (fu : Nat) (g : Nat → Nat → Int32) (L : Nat → Nat → Int64) : Option ((Unit) × zS) :=
  fX12_copies_49_36_l2 fu 0 g L
set_option maxHeartbeats 4000000 in
set_option maxRecDepth 100000 in
theorem rX12_copies_49_36 (l : Launch) (G : kG) (sz : Nat) (a : Nat → Nat) (fu : Nat) (g : Nat → Nat → Int32) (L : Nat → Nat → Int64) (res : Unit) (s9 : zS) (h : fX12_copies_49_36 fu g L = some (res, s9)) : kM l yX12_copies cX12_copies 4 none { frames := 6, cells := 0, slots := 0, locals := 110 } G [.ref (a 0), .ref (a 49), .ref (a 36)] (zw G MS 51 a g L) sz (kQv G (S := Unit) (fun _ => True) (fun _ => zw G MS 51 a s9.1 s9.2)) := by
  refine kM.of (by decide) (Nat.le_of_ble_eq_true rfl) ?_
  intro p e s m below meth c A ls H C hr hlk hnm hP hD hS hl
  have C : kC G p s m c cX12_copies 4 RX12 A := C
  have hx := C.1
  have hb := C.2.1
  have hl : lv_has ls 4 [(0, .ref (a 0)), (1, .ref (a 49)), (2, .ref (a 36))] := hl
  obtain ⟨locs, hlocs⟩ : ∃ q : List Loc, q = [] := ⟨_, rfl⟩
  rw [← hlocs] at hS
  rw [← hlocs]
  unfold fX12_copies_49_36 at h
  refine lv_iconst (v := 0) hx hb dX12_copies_0 (by decide) ?_
  refine lv_istore_n (lv' := [(3, .int 0), (0, .ref (a 0)), (1, .ref (a 49)), (2, .ref (a 36))]) hx hb dX12_copies_1 rfl hl (by decide) rfl (fun ls hl => ?_)
  have lp2 : ∀ (_ : True), ∀ (n : Nat) (v : Int32 × (Nat → Nat → Int32) × (Nat → Nat → Int64)), whileK (fun k v => fX12_copies_49_36_s2 fu k v.1 v.2.1 v.2.2) n v = some (res, s9) → ∀ (H : Heap) (locs : List Loc) (ls : Array Slot), va_P G.1 vwCl (zw G MS 51 a (v.2.1) (v.2.2)) H → va_D A (zw G MS 51 a (v.2.1) (v.2.2)) → va_S A s.heap H locs → lv_has ls 4 [(1, .ref (a 49)), (2, .ref (a 36)), (3, .int (v.1))] → W p l e { frames := 6, cells := 0, slots := 0, locals := 110 } s m [.ref (a 0), .ref (a 49), .ref (a 36)].toArray below meth c H locs 0 0 (MQ below ((kQv G (S := Unit) (fun _ => True) (fun _ => zw G MS 51 a s9.1 s9.2)) A) [.ref (a 0), .ref (a 49), .ref (a 36)].toArray s 0 0 A) (F0 m 2 ls []) := by
    intro _
    refine while_ind (fun k2 ih2 v h => ?_)
    obtain ⟨v3, g, L⟩ := v
    intro H locs ls hP hD hS hl
    have h : fX12_copies_49_36_s2 fu k2 v3 g L = some (res, s9) := h
    have hP : va_P G.1 vwCl (zw G MS 51 a g L) H := hP
    have hD : va_D A (zw G MS 51 a g L) := hD
    have hl : lv_has ls 4 [(1, .ref (a 49)), (2, .ref (a 36)), (3, .int v3)] := hl
    show W p l e { frames := 6, cells := 0, slots := 0, locals := 110 } s m [.ref (a 0), .ref (a 49), .ref (a 36)].toArray below meth c H locs 0 0 (MQ below ((kQv G (S := Unit) (fun _ => True) (fun _ => zw G MS 51 a s9.1 s9.2)) A) [.ref (a 0), .ref (a 49), .ref (a 36)].toArray s 0 0 A) (F0 m 2 ls [])
    unfold fX12_copies_49_36_s2 at h
    refine lv_iload_n hx hb dX12_copies_2 rfl (lv_at hl 2 rfl) ?_
    refine lv_aload_n hx hb dX12_copies_3 rfl (lv_at hl 0 rfl) ?_
    refine x_alen (v := 80) C hP (by decide) ms_49 rfl dX12_copies_4 ?_
    refine lv_icmp_ge (x := v3) (y := 80) (tgt := 20) hx hb dX12_copies_5 (by decide) (fun c1 => ?_) (fun c1 => ?_)
    ·
      have h := ite_t c1 h
      exact y_vret C hr hlk hP hD hS h (Nat.le_of_ble_eq_true rfl) (Nat.le_of_ble_eq_true rfl) dX12_copies_20
    ·
      have h := ite_e c1 h
      refine lv_aload_n hx hb dX12_copies_8 rfl (lv_at hl 1 rfl) ?_
      refine lv_iload_n hx hb dX12_copies_9 rfl (lv_at hl 2 rfl) ?_
      refine lv_aload_n hx hb dX12_copies_10 rfl (lv_at hl 0 rfl) ?_
      refine lv_iload_n hx hb dX12_copies_11 rfl (lv_at hl 2 rfl) ?_
      refine y_ald C hP (by decide) ms_49 dX12_copies_12 h (fun h => ?_)
      refine y_ast C hP hD hS (by decide) ms_36 dX12_copies_13 h (fun g2 H locs h hP hD hS => ?_)
      refine lv_iinc (v := (v3 + 1)) (lv' := [(3, .int (v3 + 1)), (1, .ref (a 49)), (2, .ref (a 36))]) hx hb dX12_copies_14 hl (k := 2) rfl rfl (by decide) rfl (fun ls hl => ?_)
      refine lv_goto (tgt := 2) hx hb dX12_copies_17 (by decide) ?_
      exact ih2 ((v3 + 1), g2, L) h H locs ls hP hD hS (lv_sub hl [1, 2, 0] rfl)
  exact lp2 trivial fu (0, g, L) h H locs ls hP hD hS (lv_sub hl [2, 3, 0] rfl)
def fX12_copies_50_43_s2 (fu : Nat) (k2 : Int32 × (Nat → Nat → Int32) × (Nat → Nat → Int64) → Option ((Unit) × zS)) (v3 : Int32) (g : Nat → Nat → Int32) (L : Nat → Nat → Int64) : Option ((Unit) × zS) :=
  if 16 ≤ (v3 : Int32) then some ((), (g, L))
  else ck v3 16 (
  ck v3 16 (sti g 43 (Int32.toNatClampNeg v3) (g 50 (Int32.toNatClampNeg v3)) (fun g2 =>
  k2 ((v3 + 1), g2, L))))
def fX12_copies_50_43_l2 (fu : Nat) (v3 : Int32) (g : Nat → Nat → Int32) (L : Nat → Nat → Int64) : Option ((Unit) × zS) :=
  whileK (fun k v => fX12_copies_50_43_s2 fu k v.1 v.2.1 v.2.2) fu (v3, g, L)
def fX12_copies_50_43 (fu : Nat) (g : Nat → Nat → Int32) (L : Nat → Nat → Int64) : Option ((Unit) × zS) :=
  fX12_copies_50_43_l2 fu 0 g L
set_option maxHeartbeats 4000000 in
set_option maxRecDepth 100000 in
theorem rX12_copies_50_43 (l : Launch) (G : kG) (sz : Nat) (a : Nat → Nat) (fu : Nat) (g : Nat → Nat → Int32) (L : Nat → Nat → Int64) (res : Unit) (s9 : zS) (h : fX12_copies_50_43 fu g L = some (res, s9)) : kM l yX12_copies cX12_copies 4 none { frames := 6, cells := 0, slots := 0, locals := 110 } G [.ref (a 0), .ref (a 50), .ref (a 43)] (zw G MS 51 a g L) sz (kQv G (S := Unit) (fun _ => True) (fun _ => zw G MS 51 a s9.1 s9.2)) := by
  refine kM.of (by decide) (Nat.le_of_ble_eq_true rfl) ?_
  intro p e s m below meth c A ls H C hr hlk hnm hP hD hS hl
  have C : kC G p s m c cX12_copies 4 RX12 A := C
  have hx := C.1
  have hb := C.2.1
  have hl : lv_has ls 4 [(0, .ref (a 0)), (1, .ref (a 50)), (2, .ref (a 43))] := hl
  obtain ⟨locs, hlocs⟩ : ∃ q : List Loc, q = [] := ⟨_, rfl⟩
  rw [← hlocs] at hS
  rw [← hlocs]
  unfold fX12_copies_50_43 at h
  refine lv_iconst (v := 0) hx hb dX12_copies_0 (by decide) ?_
  refine lv_istore_n (lv' := [(3, .int 0), (0, .ref (a 0)), (1, .ref (a 50)), (2, .ref (a 43))]) hx hb dX12_copies_1 rfl hl (by decide) rfl (fun ls hl => ?_)
  have lp2 : ∀ (_ : True), ∀ (n : Nat) (v : Int32 × (Nat → Nat → Int32) × (Nat → Nat → Int64)), whileK (fun k v => fX12_copies_50_43_s2 fu k v.1 v.2.1 v.2.2) n v = some (res, s9) → ∀ (H : Heap) (locs : List Loc) (ls : Array Slot), va_P G.1 vwCl (zw G MS 51 a (v.2.1) (v.2.2)) H → va_D A (zw G MS 51 a (v.2.1) (v.2.2)) → va_S A s.heap H locs → lv_has ls 4 [(1, .ref (a 50)), (2, .ref (a 43)), (3, .int (v.1))] → W p l e { frames := 6, cells := 0, slots := 0, locals := 110 } s m [.ref (a 0), .ref (a 50), .ref (a 43)].toArray below meth c H locs 0 0 (MQ below ((kQv G (S := Unit) (fun _ => True) (fun _ => zw G MS 51 a s9.1 s9.2)) A) [.ref (a 0), .ref (a 50), .ref (a 43)].toArray s 0 0 A) (F0 m 2 ls []) := by
    intro _
    refine while_ind (fun k2 ih2 v h => ?_)
    obtain ⟨v3, g, L⟩ := v
    intro H locs ls hP hD hS hl
    have h : fX12_copies_50_43_s2 fu k2 v3 g L = some (res, s9) := h
    have hP : va_P G.1 vwCl (zw G MS 51 a g L) H := hP
    have hD : va_D A (zw G MS 51 a g L) := hD
    have hl : lv_has ls 4 [(1, .ref (a 50)), (2, .ref (a 43)), (3, .int v3)] := hl
    show W p l e { frames := 6, cells := 0, slots := 0, locals := 110 } s m [.ref (a 0), .ref (a 50), .ref (a 43)].toArray below meth c H locs 0 0 (MQ below ((kQv G (S := Unit) (fun _ => True) (fun _ => zw G MS 51 a s9.1 s9.2)) A) [.ref (a 0), .ref (a 50), .ref (a 43)].toArray s 0 0 A) (F0 m 2 ls [])
    unfold fX12_copies_50_43_s2 at h
    refine lv_iload_n hx hb dX12_copies_2 rfl (lv_at hl 2 rfl) ?_
    refine lv_aload_n hx hb dX12_copies_3 rfl (lv_at hl 0 rfl) ?_
    refine x_alen (v := 16) C hP (by decide) ms_50 rfl dX12_copies_4 ?_
    refine lv_icmp_ge (x := v3) (y := 16) (tgt := 20) hx hb dX12_copies_5 (by decide) (fun c1 => ?_) (fun c1 => ?_)
    ·
      have h := ite_t c1 h
      exact y_vret C hr hlk hP hD hS h (Nat.le_of_ble_eq_true rfl) (Nat.le_of_ble_eq_true rfl) dX12_copies_20
    ·
      have h := ite_e c1 h
      refine lv_aload_n hx hb dX12_copies_8 rfl (lv_at hl 1 rfl) ?_
      refine lv_iload_n hx hb dX12_copies_9 rfl (lv_at hl 2 rfl) ?_
      refine lv_aload_n hx hb dX12_copies_10 rfl (lv_at hl 0 rfl) ?_
      refine lv_iload_n hx hb dX12_copies_11 rfl (lv_at hl 2 rfl) ?_
      refine y_ald C hP (by decide) ms_50 dX12_copies_12 h (fun h => ?_)
      refine y_ast C hP hD hS (by decide) ms_43 dX12_copies_13 h (fun g2 H locs h hP hD hS => ?_)
      refine lv_iinc (v := (v3 + 1)) (lv' := [(3, .int (v3 + 1)), (1, .ref (a 50)), (2, .ref (a 43))]) hx hb dX12_copies_14 hl (k := 2) rfl rfl (by decide) rfl (fun ls hl => ?_)
      refine lv_goto (tgt := 2) hx hb dX12_copies_17 (by decide) ?_
      exact ih2 ((v3 + 1), g2, L) h H locs ls hP hD hS (lv_sub hl [1, 2, 0] rfl)
  exact lp2 trivial fu (0, g, L) h H locs ls hP hD hS (lv_sub hl [2, 3, 0] rfl)
def fX12_restore (fu : Nat) (g : Nat → Nat → Int32) (L : Nat → Nat → Int64) : Option ((Int32) × zS) :=
  sti g 0 0 0 (fun g1 =>
  if (g1 0 81) = 0 then ckb 0 (some (0, (g1, L)))
  else sti g1 0 52 (g1 0 82) (fun g3 =>
  sti g3 0 62 (g3 0 83) (fun g4 =>
  sti g4 0 73 (g4 0 84) (fun g5 =>
  cb (fX12_copies_48_12 fu g5 L) (fun x6 g7 L8 =>
  cb (fX12_copies_49_36 fu g7 L8) (fun x10 g11 L12 =>
  cb (fX12_copies_50_43 fu g11 L12) (fun x14 g15 L16 =>
  ckb 1 (some (1, (g15, L16))))))))))
set_option maxHeartbeats 4000000 in
set_option maxRecDepth 100000 in
theorem rX12_restore (l : Launch) (G : kG) (sz : Nat) (a : Nat → Nat) (fu : Nat) (g : Nat → Nat → Int32) (L : Nat → Nat → Int64) (res : Int32) (s9 : zS) (h : fX12_restore fu g L = some (res, s9)) : kM l yX12_restore cX12_restore 1 (some .boolean) { frames := 7, cells := 0, slots := 0, locals := 133 } G [.ref (a 0)] (zw G MS 51 a g L) sz (kQi G (S := Unit) (fun r' _ => r' = res) (fun _ => zw G MS 51 a s9.1 s9.2)) := by
  refine kM.of (by decide) (Nat.le_of_ble_eq_true rfl) ?_
  intro p e s m below meth c A ls H C hr hlk hnm hP hD hS hl
  have C : kC G p s m c cX12_restore 1 RX12 A := C
  have hx := C.1
  have hb := C.2.1
  have hl : lv_has ls 1 [(0, .ref (a 0))] := hl
  obtain ⟨locs, hlocs⟩ : ∃ q : List Loc, q = [] := ⟨_, rfl⟩
  rw [← hlocs] at hS
  rw [← hlocs]
  unfold fX12_restore at h
  refine lv_aload_n hx hb dX12_restore_0 rfl (lv_at hl 0 rfl) ?_
  refine lv_iconst (v := 0) hx hb dX12_restore_1 (by decide) ?_
  refine y_puti (Or.inl fl_X12_177) ft_X12_0 C hP hD hS (by decide) ms_0 rfl rfl rfl dX12_restore_2 h (fun g1 H locs h hP hD hS => ?_)
  refine lv_aload_n hx hb dX12_restore_5 rfl (lv_at hl 0 rfl) ?_
  refine x_getv (v := .int (g1 0 81)) (Or.inl fl_X12_355) C hP (by decide) ms_0 rfl dX12_restore_6 ?_
  refine lv_if_ne (x := (g1 0 81)) (tgt := 14) hx hb dX12_restore_9 (by decide) (fun c2 => ?_) (fun c2 => ?_)
  ·
    have h := ite_e c2 h
    refine lv_aload_n hx hb dX12_restore_14 rfl (lv_at hl 0 rfl) ?_
    refine lv_aload_n hx hb dX12_restore_15 rfl (lv_at hl 0 rfl) ?_
    refine x_getv (v := .int (g1 0 82)) (Or.inl fl_X12_481) C hP (by decide) ms_0 rfl dX12_restore_16 ?_
    refine y_puti (Or.inl fl_X12_105) ft_X12_52 C hP hD hS (by decide) ms_0 rfl rfl rfl dX12_restore_19 h (fun g3 H locs h hP hD hS => ?_)
    refine lv_aload_n hx hb dX12_restore_22 rfl (lv_at hl 0 rfl) ?_
    refine lv_aload_n hx hb dX12_restore_23 rfl (lv_at hl 0 rfl) ?_
    refine x_getv (v := .int (g3 0 83)) (Or.inl fl_X12_484) C hP (by decide) ms_0 rfl dX12_restore_24 ?_
    refine y_puti (Or.inl fl_X12_345) ft_X12_62 C hP hD hS (by decide) ms_0 rfl rfl rfl dX12_restore_27 h (fun g4 H locs h hP hD hS => ?_)
    refine lv_aload_n hx hb dX12_restore_30 rfl (lv_at hl 0 rfl) ?_
    refine lv_aload_n hx hb dX12_restore_31 rfl (lv_at hl 0 rfl) ?_
    refine x_getv (v := .int (g4 0 84)) (Or.inl fl_X12_487) C hP (by decide) ms_0 rfl dX12_restore_32 ?_
    refine y_puti (Or.inl fl_X12_348) ft_X12_73 C hP hD hS (by decide) ms_0 rfl rfl rfl dX12_restore_35 h (fun g5 H locs h hP hD hS => ?_)
    refine lv_aload_n hx hb dX12_restore_38 rfl (lv_at hl 0 rfl) ?_
    refine lv_aload_n hx hb dX12_restore_39 rfl (lv_at hl 0 rfl) ?_
    refine x_getr (Or.inl fl_X12_168) C hP (by decide) ms_0 rfl dX12_restore_40 ?_
    refine lv_aload_n hx hb dX12_restore_43 rfl (lv_at hl 0 rfl) ?_
    refine x_getr (Or.inl fl_X12_50) C hP (by decide) ms_0 rfl dX12_restore_44 ?_
    obtain ⟨z_, g7, L8, hf9, h⟩ := cb_some h
    refine x_callVv (rest := []) li_X12_341 C (rX12_copies_48_12 l G H.size a fu g5 L z_ (g7, L8) hf9) (kR rfl) hP hD hS 0 12 rfl (zat (by decide) ms_0) rfl hl.1 rfl (Nat.le_of_ble_eq_true rfl) dX12_restore_47 (fun u_ H locs e_ hP hD hS => ?_)
    have hP : va_P G.1 vwCl (zw G MS 51 a g7 L8) H := hP
    have hD : va_D A (zw G MS 51 a g7 L8) := hD
    refine lv_aload_n hx hb dX12_restore_50 rfl (lv_at hl 0 rfl) ?_
    refine lv_aload_n hx hb dX12_restore_51 rfl (lv_at hl 0 rfl) ?_
    refine x_getr (Or.inl fl_X12_171) C hP (by decide) ms_0 rfl dX12_restore_52 ?_
    refine lv_aload_n hx hb dX12_restore_55 rfl (lv_at hl 0 rfl) ?_
    refine x_getr (Or.inl fl_X12_132) C hP (by decide) ms_0 rfl dX12_restore_56 ?_
    obtain ⟨z_, g11, L12, hf13, h⟩ := cb_some h
    refine x_callVv (rest := []) li_X12_341 C (rX12_copies_49_36 l G H.size a fu g7 L8 z_ (g11, L12) hf13) (kR rfl) hP hD hS 0 12 rfl (zat (by decide) ms_0) rfl hl.1 rfl (Nat.le_of_ble_eq_true rfl) dX12_restore_59 (fun u_ H locs e_ hP hD hS => ?_)
    have hP : va_P G.1 vwCl (zw G MS 51 a g11 L12) H := hP
    have hD : va_D A (zw G MS 51 a g11 L12) := hD
    refine lv_aload_n hx hb dX12_restore_62 rfl (lv_at hl 0 rfl) ?_
    refine lv_aload_n hx hb dX12_restore_63 rfl (lv_at hl 0 rfl) ?_
    refine x_getr (Or.inl fl_X12_174) C hP (by decide) ms_0 rfl dX12_restore_64 ?_
    refine lv_aload_n hx hb dX12_restore_67 rfl (lv_at hl 0 rfl) ?_
    refine x_getr (Or.inl fl_X12_153) C hP (by decide) ms_0 rfl dX12_restore_68 ?_
    obtain ⟨z_, g15, L16, hf17, h⟩ := cb_some h
    refine x_callVv (rest := []) li_X12_341 C (rX12_copies_50_43 l G H.size a fu g11 L12 z_ (g15, L16) hf17) (kR rfl) hP hD hS 0 12 rfl (zat (by decide) ms_0) rfl hl.1 rfl (Nat.le_of_ble_eq_true rfl) dX12_restore_71 (fun u_ H locs e_ hP hD hS => ?_)
    have hP : va_P G.1 vwCl (zw G MS 51 a g15 L16) H := hP
    have hD : va_D A (zw G MS 51 a g15 L16) := hD
    refine lv_iconst (v := 1) hx hb dX12_restore_74 (by decide) ?_
    exact y_zret C hr hlk hP hD hS h (Nat.le_of_ble_eq_true rfl) (Nat.le_of_ble_eq_true rfl) dX12_restore_75
  ·
    have h := ite_t c2 h
    refine lv_iconst (v := 0) hx hb dX12_restore_12 (by decide) ?_
    exact y_zret C hr hlk hP hD hS h (Nat.le_of_ble_eq_true rfl) (Nat.le_of_ble_eq_true rfl) dX12_restore_13
def fX12_thrown (fu : Nat) (g : Nat → Nat → Int32) (L : Nat → Nat → Int64) : Option ((Int32) × zS) :=
  some ((g 0 0), (g, L))
set_option maxHeartbeats 4000000 in
set_option maxRecDepth 100000 in
theorem rX12_thrown (l : Launch) (G : kG) (sz : Nat) (a : Nat → Nat) (fu : Nat) (g : Nat → Nat → Int32) (L : Nat → Nat → Int64) (res : Int32) (s9 : zS) (h : fX12_thrown fu g L = some (res, s9)) : kM l yX12_thrown cX12_thrown 1 (some .int) { frames := 6, cells := 0, slots := 0, locals := 110 } G [.ref (a 0)] (zw G MS 51 a g L) sz (kQi G (S := Unit) (fun r' _ => r' = res) (fun _ => zw G MS 51 a s9.1 s9.2)) := by
  refine kM.of (by decide) (Nat.le_of_ble_eq_true rfl) ?_
  intro p e s m below meth c A ls H C hr hlk hnm hP hD hS hl
  have C : kC G p s m c cX12_thrown 1 RX12 A := C
  have hx := C.1
  have hb := C.2.1
  have hl : lv_has ls 1 [(0, .ref (a 0))] := hl
  obtain ⟨locs, hlocs⟩ : ∃ q : List Loc, q = [] := ⟨_, rfl⟩
  rw [← hlocs] at hS
  rw [← hlocs]
  unfold fX12_thrown at h
  refine lv_aload_n hx hb dX12_thrown_0 rfl (lv_at hl 0 rfl) ?_
  refine x_getv (v := .int (g 0 0)) (Or.inl fl_X12_177) C hP (by decide) ms_0 rfl dX12_thrown_1 ?_
  exact y_iret C hr hlk hP hD hS h (Nat.le_of_ble_eq_true rfl) (Nat.le_of_ble_eq_true rfl) dX12_thrown_4
