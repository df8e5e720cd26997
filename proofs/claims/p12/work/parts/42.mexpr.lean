theorem tw_1472 : (Jvm.Cond.fieldLink "MarshBellsModel" (95 : Nat) "MarshBellsModel" "readCode" "[I") ∈ lw_tbl := tk_7 (List.mem_of_getElem? (i := 32) rfl)
theorem fl_X12_95 : kFL RX12 95 12 88 49 := ⟨RX12, TX12, rfl, by decide, inWX12, tw_1472⟩
theorem tw_1458 : (Jvm.Cond.fieldLink "MarshBellsModel" (246 : Nat) "MarshBellsModel" "top" "I") ∈ lw_tbl := tk_7 (List.mem_of_getElem? (i := 18) rfl)
theorem fl_X12_246 : kFL RX12 246 12 88 35 := ⟨RX12, TX12, rfl, by decide, inWX12, tw_1458⟩
theorem dX12_puts_0 : decode cX12_puts 0 = .ok (.aload_n 0, 1) := by decide +kernel
theorem dX12_puts_1 : decode cX12_puts 1 = .ok (.getfield 95, 3) := by decide +kernel
theorem dX12_puts_4 : decode cX12_puts 4 = .ok (.aload_n 0, 1) := by decide +kernel
theorem dX12_puts_5 : decode cX12_puts 5 = .ok (.getfield 246, 3) := by decide +kernel
theorem dX12_puts_8 : decode cX12_puts 8 = .ok (.iload_n 1, 1) := by decide +kernel
theorem dX12_puts_9 : decode cX12_puts 9 = .ok (.iastore, 1) := by decide +kernel
theorem dX12_puts_10 : decode cX12_puts 10 = .ok (.aload_n 0, 1) := by decide +kernel
theorem dX12_puts_11 : decode cX12_puts 11 = .ok (.dup, 1) := by decide +kernel
theorem dX12_puts_12 : decode cX12_puts 12 = .ok (.getfield 246, 3) := by decide +kernel
theorem dX12_puts_15 : decode cX12_puts 15 = .ok (.iconst 1, 1) := by decide +kernel
theorem dX12_puts_16 : decode cX12_puts 16 = .ok (.iadd, 1) := by decide +kernel
theorem ft_X12_35 : kFT 12 35 .int false RX12 := ⟨RX12, TX12, 88, tyX12, rfl, tyX12_ok, nmX12, rfl, by decide +kernel, rfl⟩
theorem dX12_puts_17 : decode cX12_puts 17 = .ok (.putfield 246, 3) := by decide +kernel
theorem dX12_puts_20 : decode cX12_puts 20 = .ok (.return_, 1) := by decide +kernel
theorem dX12_isOpen_0 : decode cX12_isOpen 0 = .ok (.iload_n 0, 1) := by decide +kernel
theorem dX12_isOpen_1 : decode cX12_isOpen 1 = .ok (.bipush 14, 2) := by decide +kernel
theorem dX12_isOpen_11 : decode cX12_isOpen 11 = .ok (.ireturn, 1) := by decide +kernel
theorem dX12_isOpen_3 : decode cX12_isOpen 3 = .ok (.if_icmp .lt 7, 3) := by decide +kernel
theorem dX12_isOpen_10 : decode cX12_isOpen 10 = .ok (.iconst 0, 1) := by decide +kernel
theorem dX12_isOpen_6 : decode cX12_isOpen 6 = .ok (.iconst 1, 1) := by decide +kernel
theorem dX12_isOpen_7 : decode cX12_isOpen 7 = .ok (.goto 4, 3) := by decide +kernel
theorem dX12_strength_0 : decode cX12_strength 0 = .ok (.iload_n 0, 1) := by decide +kernel
theorem dX12_strength_1 : decode cX12_strength 1 = .ok (.iconst 5, 1) := by decide +kernel
theorem dX12_strength_61 : decode cX12_strength 61 = .ok (.ireturn, 1) := by decide +kernel
theorem dX12_strength_2 : decode cX12_strength 2 = .ok (.if_icmp .ne 7, 3) := by decide +kernel
theorem dX12_strength_9 : decode cX12_strength 9 = .ok (.iload_n 0, 1) := by decide +kernel
theorem dX12_strength_10 : decode cX12_strength 10 = .ok (.iconst 4, 1) := by decide +kernel
theorem dX12_strength_11 : decode cX12_strength 11 = .ok (.if_icmp .ne 7, 3) := by decide +kernel
theorem dX12_strength_18 : decode cX12_strength 18 = .ok (.iload_n 0, 1) := by decide +kernel
theorem dX12_strength_19 : decode cX12_strength 19 = .ok (.iconst 3, 1) := by decide +kernel
theorem dX12_strength_20 : decode cX12_strength 20 = .ok (.if_icmp .ne 7, 3) := by decide +kernel
theorem dX12_strength_27 : decode cX12_strength 27 = .ok (.iload_n 0, 1) := by decide +kernel
theorem dX12_strength_28 : decode cX12_strength 28 = .ok (.bipush 6, 2) := by decide +kernel
theorem dX12_strength_39 : decode cX12_strength 39 = .ok (.iconst 4, 1) := by decide +kernel
theorem dX12_strength_40 : decode cX12_strength 40 = .ok (.goto 21, 3) := by decide +kernel
theorem dX12_strength_30 : decode cX12_strength 30 = .ok (.if_icmp .eq 9, 3) := by decide +kernel
theorem dX12_strength_33 : decode cX12_strength 33 = .ok (.iload_n 0, 1) := by decide +kernel
theorem dX12_strength_34 : decode cX12_strength 34 = .ok (.bipush 7, 2) := by decide +kernel
theorem dX12_strength_36 : decode cX12_strength 36 = .ok (.if_icmp .ne 7, 3) := by decide +kernel
theorem dX12_strength_43 : decode cX12_strength 43 = .ok (.iload_n 0, 1) := by decide +kernel
theorem dX12_strength_44 : decode cX12_strength 44 = .ok (.bipush 8, 2) := by decide +kernel
theorem dX12_strength_55 : decode cX12_strength 55 = .ok (.iconst 5, 1) := by decide +kernel
theorem dX12_strength_56 : decode cX12_strength 56 = .ok (.goto 5, 3) := by decide +kernel
theorem dX12_strength_46 : decode cX12_strength 46 = .ok (.if_icmp .eq 9, 3) := by decide +kernel
theorem dX12_strength_49 : decode cX12_strength 49 = .ok (.iload_n 0, 1) := by decide +kernel
theorem dX12_strength_50 : decode cX12_strength 50 = .ok (.bipush 9, 2) := by decide +kernel
theorem dX12_strength_52 : decode cX12_strength 52 = .ok (.if_icmp .ne 7, 3) := by decide +kernel
theorem dX12_strength_59 : decode cX12_strength 59 = .ok (.bipush 6, 2) := by decide +kernel
theorem dX12_strength_23 : decode cX12_strength 23 = .ok (.iconst 3, 1) := by decide +kernel
theorem dX12_strength_24 : decode cX12_strength 24 = .ok (.goto 37, 3) := by decide +kernel
theorem dX12_strength_14 : decode cX12_strength 14 = .ok (.iconst 2, 1) := by decide +kernel
theorem dX12_strength_15 : decode cX12_strength 15 = .ok (.goto 46, 3) := by decide +kernel
theorem dX12_strength_5 : decode cX12_strength 5 = .ok (.iconst 1, 1) := by decide +kernel
theorem dX12_strength_6 : decode cX12_strength 6 = .ok (.goto 55, 3) := by decide +kernel
theorem tw_1459 : (Jvm.Cond.fieldLink "MarshBellsModel" (249 : Nat) "MarshBellsModel" "waiting" "I") ∈ lw_tbl := tk_7 (List.mem_of_getElem? (i := 19) rfl)
theorem fl_X12_249 : kFL RX12 249 12 88 36 := ⟨RX12, TX12, rfl, by decide, inWX12, tw_1459⟩
theorem tw_1473 : (Jvm.Cond.fieldLink "MarshBellsModel" (98 : Nat) "MarshBellsModel" "waits" "[I") ∈ lw_tbl := tk_7 (List.mem_of_getElem? (i := 33) rfl)
theorem fl_X12_98 : kFL RX12 98 12 88 50 := ⟨RX12, TX12, rfl, by decide, inWX12, tw_1473⟩
theorem dX12_drops_0 : decode cX12_drops 0 = .ok (.aload_n 0, 1) := by decide +kernel
theorem dX12_drops_1 : decode cX12_drops 1 = .ok (.getfield 249, 3) := by decide +kernel
theorem dX12_drops_68 : decode cX12_drops 68 = .ok (.return_, 1) := by decide +kernel
theorem dX12_drops_4 : decode cX12_drops 4 = .ok (.ifCond .le 64, 3) := by decide +kernel
theorem dX12_drops_7 : decode cX12_drops 7 = .ok (.aload_n 0, 1) := by decide +kernel
theorem dX12_drops_8 : decode cX12_drops 8 = .ok (.getfield 98, 3) := by decide +kernel
theorem dX12_drops_11 : decode cX12_drops 11 = .ok (.aload_n 0, 1) := by decide +kernel
theorem dX12_drops_12 : decode cX12_drops 12 = .ok (.getfield 249, 3) := by decide +kernel
theorem dX12_drops_15 : decode cX12_drops 15 = .ok (.iconst 1, 1) := by decide +kernel
theorem dX12_drops_16 : decode cX12_drops 16 = .ok (.isub, 1) := by decide +kernel
theorem dX12_drops_17 : decode cX12_drops 17 = .ok (.iaload, 1) := by decide +kernel
theorem tw_1793 : (Jvm.Cond.methodLink "MarshBellsModel" (252 : Nat) ({ cls := "MarshBellsModel", name := "isOpen", desc := "(I)Z" } : Jvm.MethodName)) ∈ lw_tbl := tk_8 (List.mem_of_getElem? (i := 113) rfl)
theorem tw_1795 : (Jvm.Cond.code ({ cls := "MarshBellsModel", name := "isOpen", desc := "(I)Z" } : Jvm.MethodName) prog_14_method_22_code (1 : Nat) (Option.some Jvm.ClassFile.FieldType.boolean)) ∈ lw_tbl := tk_8 (List.mem_of_getElem? (i := 115) rfl)
theorem tw_1794 : (Jvm.Cond.static ({ cls := "MarshBellsModel", name := "isOpen", desc := "(I)Z" } : Jvm.MethodName)) ∈ lw_tbl := tk_8 (List.mem_of_getElem? (i := 114) rfl)
theorem li_X12_252 : kLS RX12 252 yX12_isOpen cX12_isOpen 1 (some .boolean) 1 := ⟨tw_1793, tw_1794, tw_1795, tw_13, by decide +kernel⟩
theorem dX12_drops_18 : decode cX12_drops 18 = .ok (.invokestatic 252, 3) := by decide +kernel
theorem dX12_drops_21 : decode cX12_drops 21 = .ok (.ifCond .ne 47, 3) := by decide +kernel
theorem dX12_drops_24 : decode cX12_drops 24 = .ok (.aload_n 0, 1) := by decide +kernel
theorem dX12_drops_25 : decode cX12_drops 25 = .ok (.getfield 98, 3) := by decide +kernel
theorem dX12_drops_28 : decode cX12_drops 28 = .ok (.aload_n 0, 1) := by decide +kernel
theorem dX12_drops_29 : decode cX12_drops 29 = .ok (.getfield 249, 3) := by decide +kernel
theorem dX12_drops_32 : decode cX12_drops 32 = .ok (.iconst 1, 1) := by decide +kernel
theorem dX12_drops_33 : decode cX12_drops 33 = .ok (.isub, 1) := by decide +kernel
theorem dX12_drops_34 : decode cX12_drops 34 = .ok (.iaload, 1) := by decide +kernel
theorem tw_1796 : (Jvm.Cond.methodLink "MarshBellsModel" (255 : Nat) ({ cls := "MarshBellsModel", name := "strength", desc := "(I)I" } : Jvm.MethodName)) ∈ lw_tbl := tk_8 (List.mem_of_getElem? (i := 116) rfl)
theorem tw_1798 : (Jvm.Cond.code ({ cls := "MarshBellsModel", name := "strength", desc := "(I)I" } : Jvm.MethodName) prog_14_method_23_code (1 : Nat) (Option.some Jvm.ClassFile.FieldType.int)) ∈ lw_tbl := tk_8 (List.mem_of_getElem? (i := 118) rfl)
theorem tw_1797 : (Jvm.Cond.static ({ cls := "MarshBellsModel", name := "strength", desc := "(I)I" } : Jvm.MethodName)) ∈ lw_tbl := tk_8 (List.mem_of_getElem? (i := 117) rfl)
theorem li_X12_255 : kLS RX12 255 yX12_strength cX12_strength 1 (some .int) 1 := ⟨tw_1796, tw_1797, tw_1798, tw_13, by decide +kernel⟩
theorem dX12_drops_35 : decode cX12_drops 35 = .ok (.invokestatic 255, 3) := by decide +kernel
theorem dX12_drops_38 : decode cX12_drops 38 = .ok (.iload_n 1, 1) := by decide +kernel
theorem dX12_drops_39 : decode cX12_drops 39 = .ok (.if_icmp .lt 29, 3) := by decide +kernel
theorem dX12_drops_42 : decode cX12_drops 42 = .ok (.aload_n 0, 1) := by decide +kernel
theorem dX12_drops_43 : decode cX12_drops 43 = .ok (.dup, 1) := by decide +kernel
theorem dX12_drops_44 : decode cX12_drops 44 = .ok (.getfield 249, 3) := by decide +kernel
theorem dX12_drops_47 : decode cX12_drops 47 = .ok (.iconst 1, 1) := by decide +kernel
theorem dX12_drops_48 : decode cX12_drops 48 = .ok (.isub, 1) := by decide +kernel
theorem ft_X12_36 : kFT 12 36 .int false RX12 := ⟨RX12, TX12, 88, tyX12, rfl, tyX12_ok, nmX12, rfl, by decide +kernel, rfl⟩
theorem dX12_drops_49 : decode cX12_drops 49 = .ok (.putfield 249, 3) := by decide +kernel
theorem dX12_drops_52 : decode cX12_drops 52 = .ok (.aload_n 0, 1) := by decide +kernel
theorem dX12_drops_53 : decode cX12_drops 53 = .ok (.aload_n 0, 1) := by decide +kernel
theorem dX12_drops_54 : decode cX12_drops 54 = .ok (.getfield 98, 3) := by decide +kernel
theorem dX12_drops_57 : decode cX12_drops 57 = .ok (.aload_n 0, 1) := by decide +kernel
theorem dX12_drops_58 : decode cX12_drops 58 = .ok (.getfield 249, 3) := by decide +kernel
theorem dX12_drops_61 : decode cX12_drops 61 = .ok (.iaload, 1) := by decide +kernel
theorem tw_1785 : (Jvm.Cond.methodLink "MarshBellsModel" (258 : Nat) ({ cls := "MarshBellsModel", name := "puts", desc := "(I)V" } : Jvm.MethodName)) ∈ lw_tbl := tk_8 (List.mem_of_getElem? (i := 105) rfl)
theorem tw_1788 : (Jvm.Cond.code ({ cls := "MarshBellsModel", name := "puts", desc := "(I)V" } : Jvm.MethodName) prog_14_method_21_code (2 : Nat) (Option.none : Option Jvm.ClassFile.FieldType)) ∈ lw_tbl := tk_8 (List.mem_of_getElem? (i := 108) rfl)
theorem tw_1787 : (Jvm.Cond.instanceMethod ({ cls := "MarshBellsModel", name := "puts", desc := "(I)V" } : Jvm.MethodName)) ∈ lw_tbl := tk_8 (List.mem_of_getElem? (i := 107) rfl)
theorem se_X12_puts : Cond.selects RX12 yX12_puts yX12_puts ∈ lw_tbl := List.mem_append_left _ (List.mem_of_getElem? (i := 126) rfl)
theorem li_X12_258 : kLV RX12 258 RX12 yX12_puts cX12_puts 2 none 1 := ⟨tw_1785, tw_1787, se_X12_puts, tw_1788, tw_13, by decide +kernel⟩
theorem dX12_drops_62 : decode cX12_drops 62 = .ok (.invokevirtual 258, 3) := by decide +kernel
theorem dX12_drops_65 : decode cX12_drops 65 = .ok (.goto (-65), 3) := by decide +kernel
theorem dX12_waitsFor_0 : decode cX12_waitsFor 0 = .ok (.aload_n 0, 1) := by decide +kernel
theorem dX12_waitsFor_1 : decode cX12_waitsFor 1 = .ok (.getfield 98, 3) := by decide +kernel
theorem dX12_waitsFor_4 : decode cX12_waitsFor 4 = .ok (.aload_n 0, 1) := by decide +kernel
theorem dX12_waitsFor_5 : decode cX12_waitsFor 5 = .ok (.getfield 249, 3) := by decide +kernel
theorem dX12_waitsFor_8 : decode cX12_waitsFor 8 = .ok (.iload_n 1, 1) := by decide +kernel
theorem dX12_waitsFor_9 : decode cX12_waitsFor 9 = .ok (.iastore, 1) := by decide +kernel
theorem dX12_waitsFor_10 : decode cX12_waitsFor 10 = .ok (.aload_n 0, 1) := by decide +kernel
theorem dX12_waitsFor_11 : decode cX12_waitsFor 11 = .ok (.dup, 1) := by decide +kernel
theorem dX12_waitsFor_12 : decode cX12_waitsFor 12 = .ok (.getfield 249, 3) := by decide +kernel
theorem dX12_waitsFor_15 : decode cX12_waitsFor 15 = .ok (.iconst 1, 1) := by decide +kernel
theorem dX12_waitsFor_16 : decode cX12_waitsFor 16 = .ok (.iadd, 1) := by decide +kernel
theorem dX12_waitsFor_17 : decode cX12_waitsFor 17 = .ok (.putfield 249, 3) := by decide +kernel
theorem dX12_waitsFor_20 : decode cX12_waitsFor 20 = .ok (.return_, 1) := by decide +kernel
theorem dX12_part_0 : decode cX12_part 0 = .ok (.aload_n 0, 1) := by decide +kernel
theorem dX12_part_1 : decode cX12_part 1 = .ok (.invokevirtual 236, 3) := by decide +kernel
theorem dX12_part_4 : decode cX12_part 4 = .ok (.ifCond .ne 4, 3) := by decide +kernel
theorem dX12_part_8 : decode cX12_part 8 = .ok (.aload_n 0, 1) := by decide +kernel
theorem dX12_part_9 : decode cX12_part 9 = .ok (.getfield 210, 3) := by decide +kernel
theorem dX12_part_12 : decode cX12_part 12 = .ok (.iconst 2, 1) := by decide +kernel
theorem dX12_part_90 : decode cX12_part 90 = .ok (.aload_n 0, 1) := by decide +kernel
theorem dX12_part_91 : decode cX12_part 91 = .ok (.invokevirtual 236, 3) := by decide +kernel
theorem dX12_part_101 : decode cX12_part 101 = .ok (.return_, 1) := by decide +kernel
theorem dX12_part_94 : decode cX12_part 94 = .ok (.ifCond .eq 7, 3) := by decide +kernel
theorem dX12_part_97 : decode cX12_part 97 = .ok (.aload_n 0, 1) := by decide +kernel
theorem dX12_part_98 : decode cX12_part 98 = .ok (.invokevirtual 240, 3) := by decide +kernel
theorem dX12_part_13 : decode cX12_part 13 = .ok (.if_icmp .ne 32, 3) := by decide +kernel
theorem dX12_part_45 : decode cX12_part 45 = .ok (.aload_n 0, 1) := by decide +kernel
theorem dX12_part_46 : decode cX12_part 46 = .ok (.getfield 210, 3) := by decide +kernel
theorem dX12_part_49 : decode cX12_part 49 = .ok (.iconst 1, 1) := by decide +kernel
theorem dX12_part_50 : decode cX12_part 50 = .ok (.if_icmp .ne 35, 3) := by decide +kernel
theorem dX12_part_85 : decode cX12_part 85 = .ok (.aload_n 0, 1) := by decide +kernel
theorem dX12_part_86 : decode cX12_part 86 = .ok (.iconst 1, 1) := by decide +kernel
theorem dX12_part_87 : decode cX12_part 87 = .ok (.invokevirtual 243, 3) := by decide +kernel
theorem dX12_part_53 : decode cX12_part 53 = .ok (.aload_n 0, 1) := by decide +kernel
theorem tw_1730 : (Jvm.Cond.methodLink "MarshBellsModel" (261 : Nat) ({ cls := "MarshBellsModel", name := "knownWord", desc := "()I" } : Jvm.MethodName)) ∈ lw_tbl := tk_8 (List.mem_of_getElem? (i := 50) rfl)
theorem tw_1733 : (Jvm.Cond.code ({ cls := "MarshBellsModel", name := "knownWord", desc := "()I" } : Jvm.MethodName) prog_14_method_15_code (2 : Nat) (Option.some Jvm.ClassFile.FieldType.int)) ∈ lw_tbl := tk_8 (List.mem_of_getElem? (i := 53) rfl)
theorem tw_1732 : (Jvm.Cond.instanceMethod ({ cls := "MarshBellsModel", name := "knownWord", desc := "()I" } : Jvm.MethodName)) ∈ lw_tbl := tk_8 (List.mem_of_getElem? (i := 52) rfl)
theorem se_X12_knownWord : Cond.selects RX12 yX12_knownWord yX12_knownWord ∈ lw_tbl := List.mem_append_left _ (List.mem_of_getElem? (i := 114) rfl)
theorem li_X12_261 : kLV RX12 261 RX12 yX12_knownWord cX12_knownWord 2 (some .int) 0 := ⟨tw_1730, tw_1732, se_X12_knownWord, tw_1733, tw_13, by decide +kernel⟩
theorem dX12_part_54 : decode cX12_part 54 = .ok (.invokevirtual 261, 3) := by decide +kernel
theorem dX12_part_57 : decode cX12_part 57 = .ok (.istore_n 1, 1) := by decide +kernel
theorem dX12_part_58 : decode cX12_part 58 = .ok (.iload_n 1, 1) := by decide +kernel
theorem dX12_part_72 : decode cX12_part 72 = .ok (.aload_n 0, 1) := by decide +kernel
theorem dX12_part_73 : decode cX12_part 73 = .ok (.iconst 2, 1) := by decide +kernel
theorem dX12_part_74 : decode cX12_part 74 = .ok (.invokevirtual 258, 3) := by decide +kernel
theorem dX12_part_77 : decode cX12_part 77 = .ok (.aload_n 0, 1) := by decide +kernel
theorem dX12_part_78 : decode cX12_part 78 = .ok (.iload_n 1, 1) := by decide +kernel
theorem dX12_part_79 : decode cX12_part 79 = .ok (.invokevirtual 258, 3) := by decide +kernel
theorem dX12_part_82 : decode cX12_part 82 = .ok (.goto 8, 3) := by decide +kernel
theorem dX12_part_67 : decode cX12_part 67 = .ok (.aload_n 0, 1) := by decide +kernel
theorem dX12_part_68 : decode cX12_part 68 = .ok (.iconst 3, 1) := by decide +kernel
theorem dX12_part_69 : decode cX12_part 69 = .ok (.invokevirtual 243, 3) := by decide +kernel
theorem dX12_part_59 : decode cX12_part 59 = .ok (.ifCond .lt 8, 3) := by decide +kernel
theorem dX12_part_62 : decode cX12_part 62 = .ok (.iload_n 1, 1) := by decide +kernel
theorem dX12_part_63 : decode cX12_part 63 = .ok (.iconst 5, 1) := by decide +kernel
theorem dX12_part_64 : decode cX12_part 64 = .ok (.if_icmp .le 8, 3) := by decide +kernel
theorem dX12_part_16 : decode cX12_part 16 = .ok (.aload_n 0, 1) := by decide +kernel
theorem dX12_part_17 : decode cX12_part 17 = .ok (.getfield 220, 3) := by decide +kernel
theorem dX12_part_20 : decode cX12_part 20 = .ok (.iconst 4, 1) := by decide +kernel
theorem dX12_part_29 : decode cX12_part 29 = .ok (.aload_n 0, 1) := by decide +kernel
theorem dX12_part_30 : decode cX12_part 30 = .ok (.iconst 1, 1) := by decide +kernel
theorem dX12_part_31 : decode cX12_part 31 = .ok (.invokevirtual 258, 3) := by decide +kernel
theorem dX12_part_34 : decode cX12_part 34 = .ok (.aload_n 0, 1) := by decide +kernel
theorem dX12_part_35 : decode cX12_part 35 = .ok (.aload_n 0, 1) := by decide +kernel
theorem dX12_part_36 : decode cX12_part 36 = .ok (.getfield 204, 3) := by decide +kernel
theorem dX12_part_39 : decode cX12_part 39 = .ok (.invokevirtual 258, 3) := by decide +kernel
theorem dX12_part_42 : decode cX12_part 42 = .ok (.goto 48, 3) := by decide +kernel
theorem dX12_part_21 : decode cX12_part 21 = .ok (.if_icmp .le 8, 3) := by decide +kernel
theorem dX12_part_24 : decode cX12_part 24 = .ok (.aload_n 0, 1) := by decide +kernel
theorem dX12_part_25 : decode cX12_part 25 = .ok (.iconst 2, 1) := by decide +kernel
theorem dX12_part_26 : decode cX12_part 26 = .ok (.invokevirtual 243, 3) := by decide +kernel
theorem dX12_part_7 : decode cX12_part 7 = .ok (.return_, 1) := by decide +kernel
theorem tw_1460 : (Jvm.Cond.fieldLink "MarshBellsModel" (265 : Nat) "MarshBellsModel" "depth" "I") ∈ lw_tbl := tk_7 (List.mem_of_getElem? (i := 20) rfl)
theorem fl_X12_265 : kFL RX12 265 12 88 37 := ⟨RX12, TX12, rfl, by decide, inWX12, tw_1460⟩
theorem tw_1474 : (Jvm.Cond.fieldLink "MarshBellsModel" (101 : Nat) "MarshBellsModel" "tested" "[Z") ∈ lw_tbl := tk_7 (List.mem_of_getElem? (i := 34) rfl)
theorem fl_X12_101 : kFL RX12 101 12 88 51 := ⟨RX12, TX12, rfl, by decide, inWX12, tw_1474⟩
theorem dX12_deeper_0 : decode cX12_deeper 0 = .ok (.aload_n 0, 1) := by decide +kernel
theorem dX12_deeper_1 : decode cX12_deeper 1 = .ok (.getfield 265, 3) := by decide +kernel
theorem dX12_deeper_4 : decode cX12_deeper 4 = .ok (.bipush 6, 2) := by decide +kernel
theorem dX12_deeper_6 : decode cX12_deeper 6 = .ok (.if_icmp .ge 24, 3) := by decide +kernel
theorem dX12_deeper_30 : decode cX12_deeper 30 = .ok (.aload_n 0, 1) := by decide +kernel
theorem dX12_deeper_31 : decode cX12_deeper 31 = .ok (.aload_n 0, 1) := by decide +kernel
theorem dX12_deeper_32 : decode cX12_deeper 32 = .ok (.getfield 210, 3) := by decide +kernel
theorem dX12_deeper_35 : decode cX12_deeper 35 = .ok (.iconst 2, 1) := by decide +kernel
theorem dX12_deeper_61 : decode cX12_deeper 61 = .ok (.invokevirtual 243, 3) := by decide +kernel
theorem dX12_deeper_64 : decode cX12_deeper 64 = .ok (.return_, 1) := by decide +kernel
theorem dX12_deeper_56 : decode cX12_deeper 56 = .ok (.iconst 2, 1) := by decide +kernel
theorem dX12_deeper_57 : decode cX12_deeper 57 = .ok (.goto 4, 3) := by decide +kernel
theorem dX12_deeper_36 : decode cX12_deeper 36 = .ok (.if_icmp .eq 20, 3) := by decide +kernel
theorem dX12_deeper_39 : decode cX12_deeper 39 = .ok (.aload_n 0, 1) := by decide +kernel
theorem dX12_deeper_40 : decode cX12_deeper 40 = .ok (.getfield 210, 3) := by decide +kernel
theorem dX12_deeper_43 : decode cX12_deeper 43 = .ok (.iconst 1, 1) := by decide +kernel
theorem dX12_deeper_44 : decode cX12_deeper 44 = .ok (.if_icmp .eq 12, 3) := by decide +kernel
theorem dX12_deeper_47 : decode cX12_deeper 47 = .ok (.aload_n 0, 1) := by decide +kernel
theorem dX12_deeper_48 : decode cX12_deeper 48 = .ok (.bipush 40, 2) := by decide +kernel
theorem tw_1769 : (Jvm.Cond.methodLink "MarshBellsModel" (268 : Nat) ({ cls := "MarshBellsModel", name := "isSign", desc := "(I)Z" } : Jvm.MethodName)) ∈ lw_tbl := tk_8 (List.mem_of_getElem? (i := 89) rfl)
theorem tw_1772 : (Jvm.Cond.code ({ cls := "MarshBellsModel", name := "isSign", desc := "(I)Z" } : Jvm.MethodName) prog_14_method_18_code (2 : Nat) (Option.some Jvm.ClassFile.FieldType.boolean)) ∈ lw_tbl := tk_8 (List.mem_of_getElem? (i := 92) rfl)
theorem tw_1771 : (Jvm.Cond.instanceMethod ({ cls := "MarshBellsModel", name := "isSign", desc := "(I)Z" } : Jvm.MethodName)) ∈ lw_tbl := tk_8 (List.mem_of_getElem? (i := 91) rfl)
theorem se_X12_isSign : Cond.selects RX12 yX12_isSign yX12_isSign ∈ lw_tbl := List.mem_append_left _ (List.mem_of_getElem? (i := 122) rfl)
theorem li_X12_268 : kLV RX12 268 RX12 yX12_isSign cX12_isSign 2 (some .boolean) 1 := ⟨tw_1769, tw_1771, se_X12_isSign, tw_1772, tw_13, by decide +kernel⟩
theorem dX12_deeper_50 : decode cX12_deeper 50 = .ok (.invokevirtual 268, 3) := by decide +kernel
theorem dX12_deeper_53 : decode cX12_deeper 53 = .ok (.ifCond .eq 7, 3) := by decide +kernel
theorem dX12_deeper_60 : decode cX12_deeper 60 = .ok (.iconst 1, 1) := by decide +kernel
theorem dX12_deeper_9 : decode cX12_deeper 9 = .ok (.aload_n 0, 1) := by decide +kernel
theorem dX12_deeper_10 : decode cX12_deeper 10 = .ok (.dup, 1) := by decide +kernel
theorem dX12_deeper_11 : decode cX12_deeper 11 = .ok (.getfield 265, 3) := by decide +kernel
theorem dX12_deeper_14 : decode cX12_deeper 14 = .ok (.iconst 1, 1) := by decide +kernel
theorem dX12_deeper_15 : decode cX12_deeper 15 = .ok (.iadd, 1) := by decide +kernel
theorem ft_X12_37 : kFT 12 37 .int false RX12 := ⟨RX12, TX12, 88, tyX12, rfl, tyX12_ok, nmX12, rfl, by decide +kernel, rfl⟩
theorem dX12_deeper_16 : decode cX12_deeper 16 = .ok (.putfield 265, 3) := by decide +kernel
theorem dX12_deeper_19 : decode cX12_deeper 19 = .ok (.aload_n 0, 1) := by decide +kernel
theorem dX12_deeper_20 : decode cX12_deeper 20 = .ok (.getfield 101, 3) := by decide +kernel
theorem dX12_deeper_23 : decode cX12_deeper 23 = .ok (.aload_n 0, 1) := by decide +kernel
theorem dX12_deeper_24 : decode cX12_deeper 24 = .ok (.getfield 265, 3) := by decide +kernel
theorem dX12_deeper_27 : decode cX12_deeper 27 = .ok (.iconst 0, 1) := by decide +kernel
theorem dX12_deeper_28 : decode cX12_deeper 28 = .ok (.bastore, 1) := by decide +kernel
theorem dX12_deeper_29 : decode cX12_deeper 29 = .ok (.return_, 1) := by decide +kernel
theorem dX12_operand_0 : decode cX12_operand 0 = .ok (.iload_n 1, 1) := by decide +kernel
theorem dX12_operand_1 : decode cX12_operand 1 = .ok (.istore_n 2, 1) := by decide +kernel
theorem dX12_operand_2 : decode cX12_operand 2 = .ok (.iconst 1, 1) := by decide +kernel
theorem dX12_operand_3 : decode cX12_operand 3 = .ok (.istore_n 3, 1) := by decide +kernel
theorem dX12_operand_4 : decode cX12_operand 4 = .ok (.iload_n 3, 1) := by decide +kernel
theorem dX12_operand_120 : decode cX12_operand 120 = .ok (.aload_n 0, 1) := by decide +kernel
theorem tw_1781 : (Jvm.Cond.methodLink "MarshBellsModel" (277 : Nat) ({ cls := "MarshBellsModel", name := "part", desc := "()V" } : Jvm.MethodName)) ∈ lw_tbl := tk_8 (List.mem_of_getElem? (i := 101) rfl)
theorem tw_1784 : (Jvm.Cond.code ({ cls := "MarshBellsModel", name := "part", desc := "()V" } : Jvm.MethodName) prog_14_method_26_code (2 : Nat) (Option.none : Option Jvm.ClassFile.FieldType)) ∈ lw_tbl := tk_8 (List.mem_of_getElem? (i := 104) rfl)
theorem tw_1783 : (Jvm.Cond.instanceMethod ({ cls := "MarshBellsModel", name := "part", desc := "()V" } : Jvm.MethodName)) ∈ lw_tbl := tk_8 (List.mem_of_getElem? (i := 103) rfl)
theorem se_X12_part : Cond.selects RX12 yX12_part yX12_part ∈ lw_tbl := List.mem_append_left _ (List.mem_of_getElem? (i := 125) rfl)
theorem li_X12_277 : kLV RX12 277 RX12 yX12_part cX12_part 2 none 0 := ⟨tw_1781, tw_1783, se_X12_part, tw_1784, tw_13, by decide +kernel⟩
theorem dX12_operand_121 : decode cX12_operand 121 = .ok (.invokevirtual 277, 3) := by decide +kernel
theorem dX12_operand_124 : decode cX12_operand 124 = .ok (.return_, 1) := by decide +kernel
theorem dX12_operand_5 : decode cX12_operand 5 = .ok (.ifCond .eq 115, 3) := by decide +kernel
theorem dX12_operand_8 : decode cX12_operand 8 = .ok (.aload_n 0, 1) := by decide +kernel
theorem dX12_operand_9 : decode cX12_operand 9 = .ok (.invokevirtual 236, 3) := by decide +kernel
theorem dX12_operand_12 : decode cX12_operand 12 = .ok (.ifCond .eq 108, 3) := by decide +kernel
theorem dX12_operand_15 : decode cX12_operand 15 = .ok (.iconst 0, 1) := by decide +kernel
theorem dX12_operand_16 : decode cX12_operand 16 = .ok (.istore 4, 2) := by decide +kernel
theorem dX12_operand_18 : decode cX12_operand 18 = .ok (.aload_n 0, 1) := by decide +kernel
theorem dX12_operand_19 : decode cX12_operand 19 = .ok (.invokevirtual 236, 3) := by decide +kernel
theorem dX12_operand_75 : decode cX12_operand 75 = .ok (.aload_n 0, 1) := by decide +kernel
theorem dX12_operand_76 : decode cX12_operand 76 = .ok (.invokevirtual 236, 3) := by decide +kernel
theorem dX12_operand_96 : decode cX12_operand 96 = .ok (.istore_n 3, 1) := by decide +kernel
theorem dX12_operand_97 : decode cX12_operand 97 = .ok (.iload_n 3, 1) := by decide +kernel
theorem dX12_operand_117 : decode cX12_operand 117 = .ok (.goto (-113), 3) := by decide +kernel
theorem dX12_operand_98 : decode cX12_operand 98 = .ok (.ifCond .eq 19, 3) := by decide +kernel
theorem dX12_operand_101 : decode cX12_operand 101 = .ok (.aload_n 0, 1) := by decide +kernel
theorem dX12_operand_102 : decode cX12_operand 102 = .ok (.bipush 14, 2) := by decide +kernel
theorem tw_1777 : (Jvm.Cond.methodLink "MarshBellsModel" (271 : Nat) ({ cls := "MarshBellsModel", name := "waitsFor", desc := "(I)V" } : Jvm.MethodName)) ∈ lw_tbl := tk_8 (List.mem_of_getElem? (i := 97) rfl)
theorem tw_1780 : (Jvm.Cond.code ({ cls := "MarshBellsModel", name := "waitsFor", desc := "(I)V" } : Jvm.MethodName) prog_14_method_25_code (2 : Nat) (Option.none : Option Jvm.ClassFile.FieldType)) ∈ lw_tbl := tk_8 (List.mem_of_getElem? (i := 100) rfl)
theorem tw_1779 : (Jvm.Cond.instanceMethod ({ cls := "MarshBellsModel", name := "waitsFor", desc := "(I)V" } : Jvm.MethodName)) ∈ lw_tbl := tk_8 (List.mem_of_getElem? (i := 99) rfl)
theorem se_X12_waitsFor : Cond.selects RX12 yX12_waitsFor yX12_waitsFor ∈ lw_tbl := List.mem_append_left _ (List.mem_of_getElem? (i := 124) rfl)
theorem li_X12_271 : kLV RX12 271 RX12 yX12_waitsFor cX12_waitsFor 2 none 1 := ⟨tw_1777, tw_1779, se_X12_waitsFor, tw_1780, tw_13, by decide +kernel⟩
theorem dX12_operand_104 : decode cX12_operand 104 = .ok (.invokevirtual 271, 3) := by decide +kernel
theorem dX12_operand_107 : decode cX12_operand 107 = .ok (.aload_n 0, 1) := by decide +kernel
theorem dX12_operand_108 : decode cX12_operand 108 = .ok (.invokevirtual 240, 3) := by decide +kernel
theorem dX12_operand_111 : decode cX12_operand 111 = .ok (.aload_n 0, 1) := by decide +kernel
theorem tw_1765 : (Jvm.Cond.methodLink "MarshBellsModel" (274 : Nat) ({ cls := "MarshBellsModel", name := "deeper", desc := "()V" } : Jvm.MethodName)) ∈ lw_tbl := tk_8 (List.mem_of_getElem? (i := 85) rfl)
theorem tw_1768 : (Jvm.Cond.code ({ cls := "MarshBellsModel", name := "deeper", desc := "()V" } : Jvm.MethodName) prog_14_method_27_code (1 : Nat) (Option.none : Option Jvm.ClassFile.FieldType)) ∈ lw_tbl := tk_8 (List.mem_of_getElem? (i := 88) rfl)
theorem tw_1767 : (Jvm.Cond.instanceMethod ({ cls := "MarshBellsModel", name := "deeper", desc := "()V" } : Jvm.MethodName)) ∈ lw_tbl := tk_8 (List.mem_of_getElem? (i := 87) rfl)
theorem se_X12_deeper : Cond.selects RX12 yX12_deeper yX12_deeper ∈ lw_tbl := List.mem_append_left _ (List.mem_of_getElem? (i := 121) rfl)
theorem li_X12_274 : kLV RX12 274 RX12 yX12_deeper cX12_deeper 1 none 0 := ⟨tw_1765, tw_1767, se_X12_deeper, tw_1768, tw_13, by decide +kernel⟩
theorem dX12_operand_112 : decode cX12_operand 112 = .ok (.invokevirtual 274, 3) := by decide +kernel
theorem dX12_operand_115 : decode cX12_operand 115 = .ok (.iconst 1, 1) := by decide +kernel
theorem dX12_operand_116 : decode cX12_operand 116 = .ok (.istore_n 2, 1) := by decide +kernel
theorem dX12_operand_95 : decode cX12_operand 95 = .ok (.iconst 0, 1) := by decide +kernel
theorem dX12_operand_79 : decode cX12_operand 79 = .ok (.ifCond .eq 16, 3) := by decide +kernel
theorem dX12_operand_82 : decode cX12_operand 82 = .ok (.aload_n 0, 1) := by decide +kernel
theorem dX12_operand_83 : decode cX12_operand 83 = .ok (.bipush 40, 2) := by decide +kernel
theorem dX12_operand_85 : decode cX12_operand 85 = .ok (.invokevirtual 268, 3) := by decide +kernel
theorem dX12_operand_88 : decode cX12_operand 88 = .ok (.ifCond .eq 7, 3) := by decide +kernel
theorem dX12_operand_91 : decode cX12_operand 91 = .ok (.iconst 1, 1) := by decide +kernel
theorem dX12_operand_92 : decode cX12_operand 92 = .ok (.goto 4, 3) := by decide +kernel
theorem dX12_operand_22 : decode cX12_operand 22 = .ok (.ifCond .eq 53, 3) := by decide +kernel
theorem dX12_operand_25 : decode cX12_operand 25 = .ok (.iload_n 2, 1) := by decide +kernel
theorem dX12_operand_26 : decode cX12_operand 26 = .ok (.ifCond .eq 49, 3) := by decide +kernel
theorem dX12_operand_29 : decode cX12_operand 29 = .ok (.aload_n 0, 1) := by decide +kernel
theorem dX12_operand_30 : decode cX12_operand 30 = .ok (.invokevirtual 261, 3) := by decide +kernel
theorem dX12_operand_33 : decode cX12_operand 33 = .ok (.bipush 16, 2) := by decide +kernel
theorem dX12_operand_35 : decode cX12_operand 35 = .ok (.if_icmp .ne 40, 3) := by decide +kernel
theorem dX12_operand_38 : decode cX12_operand 38 = .ok (.iload 4, 2) := by decide +kernel
theorem dX12_operand_40 : decode cX12_operand 40 = .ok (.bipush 6, 2) := by decide +kernel
theorem dX12_operand_50 : decode cX12_operand 50 = .ok (.iinc 4 1, 3) := by decide +kernel
theorem dX12_operand_53 : decode cX12_operand 53 = .ok (.aload_n 0, 1) := by decide +kernel
theorem dX12_operand_54 : decode cX12_operand 54 = .ok (.invokevirtual 236, 3) := by decide +kernel
theorem dX12_operand_57 : decode cX12_operand 57 = .ok (.ifCond .ne 6, 3) := by decide +kernel
theorem dX12_operand_63 : decode cX12_operand 63 = .ok (.aload_n 0, 1) := by decide +kernel
theorem dX12_operand_64 : decode cX12_operand 64 = .ok (.iconst 3, 1) := by decide +kernel
theorem dX12_operand_65 : decode cX12_operand 65 = .ok (.invokevirtual 271, 3) := by decide +kernel
theorem dX12_operand_68 : decode cX12_operand 68 = .ok (.aload_n 0, 1) := by decide +kernel
theorem dX12_operand_69 : decode cX12_operand 69 = .ok (.invokevirtual 240, 3) := by decide +kernel
theorem dX12_operand_72 : decode cX12_operand 72 = .ok (.goto (-54), 3) := by decide +kernel
theorem dX12_operand_60 : decode cX12_operand 60 = .ok (.goto (-42), 3) := by decide +kernel
theorem dX12_operand_42 : decode cX12_operand 42 = .ok (.if_icmp .ne 8, 3) := by decide +kernel
theorem dX12_operand_45 : decode cX12_operand 45 = .ok (.aload_n 0, 1) := by decide +kernel
theorem dX12_operand_46 : decode cX12_operand 46 = .ok (.iconst 2, 1) := by decide +kernel
theorem dX12_operand_47 : decode cX12_operand 47 = .ok (.invokevirtual 243, 3) := by decide +kernel
theorem dX12_isOpened_0 : decode cX12_isOpened 0 = .ok (.aload_n 0, 1) := by decide +kernel
theorem dX12_isOpened_1 : decode cX12_isOpened 1 = .ok (.getfield 249, 3) := by decide +kernel
theorem dX12_isOpened_4 : decode cX12_isOpened 4 = .ok (.iconst 1, 1) := by decide +kernel
theorem dX12_isOpened_5 : decode cX12_isOpened 5 = .ok (.isub, 1) := by decide +kernel
theorem dX12_isOpened_6 : decode cX12_isOpened 6 = .ok (.istore_n 1, 1) := by decide +kernel
theorem dX12_isOpened_7 : decode cX12_isOpened 7 = .ok (.iload_n 1, 1) := by decide +kernel
theorem dX12_isOpened_29 : decode cX12_isOpened 29 = .ok (.iload_n 1, 1) := by decide +kernel
theorem dX12_isOpened_38 : decode cX12_isOpened 38 = .ok (.ireturn, 1) := by decide +kernel
theorem dX12_isOpened_30 : decode cX12_isOpened 30 = .ok (.ifCond .lt 7, 3) := by decide +kernel
theorem dX12_isOpened_37 : decode cX12_isOpened 37 = .ok (.iconst 0, 1) := by decide +kernel
theorem dX12_isOpened_33 : decode cX12_isOpened 33 = .ok (.iconst 1, 1) := by decide +kernel
theorem dX12_isOpened_34 : decode cX12_isOpened 34 = .ok (.goto 4, 3) := by decide +kernel
theorem dX12_isOpened_8 : decode cX12_isOpened 8 = .ok (.ifCond .lt 21, 3) := by decide +kernel
theorem dX12_isOpened_11 : decode cX12_isOpened 11 = .ok (.aload_n 0, 1) := by decide +kernel
theorem dX12_isOpened_12 : decode cX12_isOpened 12 = .ok (.getfield 98, 3) := by decide +kernel
theorem dX12_isOpened_15 : decode cX12_isOpened 15 = .ok (.iload_n 1, 1) := by decide +kernel
theorem dX12_isOpened_16 : decode cX12_isOpened 16 = .ok (.iaload, 1) := by decide +kernel
theorem dX12_isOpened_17 : decode cX12_isOpened 17 = .ok (.invokestatic 252, 3) := by decide +kernel
theorem dX12_isOpened_20 : decode cX12_isOpened 20 = .ok (.ifCond .ne 9, 3) := by decide +kernel
theorem dX12_isOpened_23 : decode cX12_isOpened 23 = .ok (.iinc 1 (-1), 3) := by decide +kernel
theorem dX12_isOpened_26 : decode cX12_isOpened 26 = .ok (.goto (-19), 3) := by decide +kernel
theorem dX12_closes_0 : decode cX12_closes 0 = .ok (.aload_n 0, 1) := by decide +kernel
theorem dX12_closes_1 : decode cX12_closes 1 = .ok (.iconst 0, 1) := by decide +kernel
theorem tw_1789 : (Jvm.Cond.methodLink "MarshBellsModel" (280 : Nat) ({ cls := "MarshBellsModel", name := "drops", desc := "(I)V" } : Jvm.MethodName)) ∈ lw_tbl := tk_8 (List.mem_of_getElem? (i := 109) rfl)
theorem tw_1792 : (Jvm.Cond.code ({ cls := "MarshBellsModel", name := "drops", desc := "(I)V" } : Jvm.MethodName) prog_14_method_24_code (2 : Nat) (Option.none : Option Jvm.ClassFile.FieldType)) ∈ lw_tbl := tk_8 (List.mem_of_getElem? (i := 112) rfl)
theorem tw_1791 : (Jvm.Cond.instanceMethod ({ cls := "MarshBellsModel", name := "drops", desc := "(I)V" } : Jvm.MethodName)) ∈ lw_tbl := tk_8 (List.mem_of_getElem? (i := 111) rfl)
theorem se_X12_drops : Cond.selects RX12 yX12_drops yX12_drops ∈ lw_tbl := List.mem_append_left _ (List.mem_of_getElem? (i := 127) rfl)
theorem li_X12_280 : kLV RX12 280 RX12 yX12_drops cX12_drops 2 none 1 := ⟨tw_1789, tw_1791, se_X12_drops, tw_1792, tw_13, by decide +kernel⟩
theorem dX12_closes_2 : decode cX12_closes 2 = .ok (.invokevirtual 280, 3) := by decide +kernel
theorem dX12_closes_5 : decode cX12_closes 5 = .ok (.aload_n 0, 1) := by decide +kernel
theorem dX12_closes_6 : decode cX12_closes 6 = .ok (.dup, 1) := by decide +kernel
theorem dX12_closes_7 : decode cX12_closes 7 = .ok (.getfield 249, 3) := by decide +kernel
theorem dX12_closes_10 : decode cX12_closes 10 = .ok (.iconst 1, 1) := by decide +kernel
theorem dX12_closes_11 : decode cX12_closes 11 = .ok (.isub, 1) := by decide +kernel
theorem dX12_closes_12 : decode cX12_closes 12 = .ok (.putfield 249, 3) := by decide +kernel
theorem dX12_closes_15 : decode cX12_closes 15 = .ok (.aload_n 0, 1) := by decide +kernel
theorem dX12_closes_16 : decode cX12_closes 16 = .ok (.dup, 1) := by decide +kernel
theorem dX12_closes_17 : decode cX12_closes 17 = .ok (.getfield 265, 3) := by decide +kernel
theorem dX12_closes_20 : decode cX12_closes 20 = .ok (.iconst 1, 1) := by decide +kernel
theorem dX12_closes_21 : decode cX12_closes 21 = .ok (.isub, 1) := by decide +kernel
theorem dX12_closes_22 : decode cX12_closes 22 = .ok (.putfield 265, 3) := by decide +kernel
theorem dX12_closes_25 : decode cX12_closes 25 = .ok (.aload_n 0, 1) := by decide +kernel
theorem dX12_closes_26 : decode cX12_closes 26 = .ok (.invokevirtual 240, 3) := by decide +kernel
theorem dX12_closes_29 : decode cX12_closes 29 = .ok (.return_, 1) := by decide +kernel
theorem dX12_expression_0 : decode cX12_expression 0 = .ok (.aload_n 0, 1) := by decide +kernel
theorem dX12_expression_1 : decode cX12_expression 1 = .ok (.invokevirtual 236, 3) := by decide +kernel
theorem dX12_expression_4 : decode cX12_expression 4 = .ok (.ifCond .ne 4, 3) := by decide +kernel
theorem dX12_expression_8 : decode cX12_expression 8 = .ok (.aload_n 0, 1) := by decide +kernel
theorem dX12_expression_9 : decode cX12_expression 9 = .ok (.iconst 0, 1) := by decide +kernel
theorem dX12_expression_10 : decode cX12_expression 10 = .ok (.putfield 249, 3) := by decide +kernel
theorem dX12_expression_13 : decode cX12_expression 13 = .ok (.aload_n 0, 1) := by decide +kernel
theorem dX12_expression_14 : decode cX12_expression 14 = .ok (.iconst 0, 1) := by decide +kernel
theorem dX12_expression_15 : decode cX12_expression 15 = .ok (.putfield 265, 3) := by decide +kernel
theorem dX12_expression_18 : decode cX12_expression 18 = .ok (.aload_n 0, 1) := by decide +kernel
theorem dX12_expression_19 : decode cX12_expression 19 = .ok (.invokevirtual 274, 3) := by decide +kernel
theorem dX12_expression_22 : decode cX12_expression 22 = .ok (.aload_n 0, 1) := by decide +kernel
theorem dX12_expression_23 : decode cX12_expression 23 = .ok (.iconst 1, 1) := by decide +kernel
theorem tw_1773 : (Jvm.Cond.methodLink "MarshBellsModel" (283 : Nat) ({ cls := "MarshBellsModel", name := "operand", desc := "(Z)V" } : Jvm.MethodName)) ∈ lw_tbl := tk_8 (List.mem_of_getElem? (i := 93) rfl)
theorem tw_1776 : (Jvm.Cond.code ({ cls := "MarshBellsModel", name := "operand", desc := "(Z)V" } : Jvm.MethodName) prog_14_method_28_code (5 : Nat) (Option.none : Option Jvm.ClassFile.FieldType)) ∈ lw_tbl := tk_8 (List.mem_of_getElem? (i := 96) rfl)
theorem tw_1775 : (Jvm.Cond.instanceMethod ({ cls := "MarshBellsModel", name := "operand", desc := "(Z)V" } : Jvm.MethodName)) ∈ lw_tbl := tk_8 (List.mem_of_getElem? (i := 95) rfl)
theorem se_X12_operand : Cond.selects RX12 yX12_operand yX12_operand ∈ lw_tbl := List.mem_append_left _ (List.mem_of_getElem? (i := 123) rfl)
theorem li_X12_283 : kLV RX12 283 RX12 yX12_operand cX12_operand 5 none 1 := ⟨tw_1773, tw_1775, se_X12_operand, tw_1776, tw_13, by decide +kernel⟩
theorem dX12_expression_24 : decode cX12_expression 24 = .ok (.invokevirtual 283, 3) := by decide +kernel
theorem dX12_expression_27 : decode cX12_expression 27 = .ok (.iconst 1, 1) := by decide +kernel
theorem dX12_expression_28 : decode cX12_expression 28 = .ok (.istore_n 1, 1) := by decide +kernel
theorem dX12_expression_29 : decode cX12_expression 29 = .ok (.iload_n 1, 1) := by decide +kernel
theorem dX12_expression_325 : decode cX12_expression 325 = .ok (.aload_n 0, 1) := by decide +kernel
theorem dX12_expression_326 : decode cX12_expression 326 = .ok (.invokevirtual 236, 3) := by decide +kernel
theorem dX12_expression_345 : decode cX12_expression 345 = .ok (.aload_n 0, 1) := by decide +kernel
theorem dX12_expression_346 : decode cX12_expression 346 = .ok (.iconst 0, 1) := by decide +kernel
theorem dX12_expression_347 : decode cX12_expression 347 = .ok (.invokevirtual 280, 3) := by decide +kernel
theorem dX12_expression_350 : decode cX12_expression 350 = .ok (.aload_n 0, 1) := by decide +kernel
theorem dX12_expression_351 : decode cX12_expression 351 = .ok (.iconst 0, 1) := by decide +kernel
theorem dX12_expression_352 : decode cX12_expression 352 = .ok (.invokevirtual 258, 3) := by decide +kernel
theorem dX12_expression_355 : decode cX12_expression 355 = .ok (.return_, 1) := by decide +kernel
theorem dX12_expression_329 : decode cX12_expression 329 = .ok (.ifCond .eq 16, 3) := by decide +kernel
theorem dX12_expression_332 : decode cX12_expression 332 = .ok (.aload_n 0, 1) := by decide +kernel
theorem dX12_expression_333 : decode cX12_expression 333 = .ok (.getfield 265, 3) := by decide +kernel
theorem dX12_expression_336 : decode cX12_expression 336 = .ok (.iconst 1, 1) := by decide +kernel
theorem dX12_expression_337 : decode cX12_expression 337 = .ok (.if_icmp .le 8, 3) := by decide +kernel
theorem dX12_expression_340 : decode cX12_expression 340 = .ok (.aload_n 0, 1) := by decide +kernel
theorem dX12_expression_341 : decode cX12_expression 341 = .ok (.iconst 1, 1) := by decide +kernel
theorem dX12_expression_342 : decode cX12_expression 342 = .ok (.invokevirtual 243, 3) := by decide +kernel
theorem dX12_expression_30 : decode cX12_expression 30 = .ok (.ifCond .eq 295, 3) := by decide +kernel
theorem dX12_expression_33 : decode cX12_expression 33 = .ok (.aload_n 0, 1) := by decide +kernel
theorem dX12_expression_34 : decode cX12_expression 34 = .ok (.invokevirtual 236, 3) := by decide +kernel
theorem dX12_expression_37 : decode cX12_expression 37 = .ok (.ifCond .eq 288, 3) := by decide +kernel
theorem dX12_expression_40 : decode cX12_expression 40 = .ok (.aload_n 0, 1) := by decide +kernel
theorem dX12_expression_41 : decode cX12_expression 41 = .ok (.invokevirtual 261, 3) := by decide +kernel
theorem dX12_expression_44 : decode cX12_expression 44 = .ok (.istore_n 2, 1) := by decide +kernel
theorem dX12_expression_45 : decode cX12_expression 45 = .ok (.iload_n 2, 1) := by decide +kernel
theorem dX12_expression_46 : decode cX12_expression 46 = .ok (.bipush 14, 2) := by decide +kernel
theorem dX12_expression_322 : decode cX12_expression 322 = .ok (.goto (-293), 3) := by decide +kernel
theorem dX12_expression_57 : decode cX12_expression 57 = .ok (.aload_n 0, 1) := by decide +kernel
theorem dX12_expression_58 : decode cX12_expression 58 = .ok (.iload_n 2, 1) := by decide +kernel
theorem dX12_expression_59 : decode cX12_expression 59 = .ok (.bipush 14, 2) := by decide +kernel
theorem dX12_expression_69 : decode cX12_expression 69 = .ok (.invokevirtual 280, 3) := by decide +kernel
theorem dX12_expression_72 : decode cX12_expression 72 = .ok (.aload_n 0, 1) := by decide +kernel
theorem dX12_expression_73 : decode cX12_expression 73 = .ok (.iload_n 2, 1) := by decide +kernel
theorem dX12_expression_74 : decode cX12_expression 74 = .ok (.bipush 14, 2) := by decide +kernel
theorem dX12_expression_84 : decode cX12_expression 84 = .ok (.invokevirtual 271, 3) := by decide +kernel
theorem dX12_expression_87 : decode cX12_expression 87 = .ok (.aload_n 0, 1) := by decide +kernel
theorem dX12_expression_88 : decode cX12_expression 88 = .ok (.getfield 101, 3) := by decide +kernel
theorem dX12_expression_91 : decode cX12_expression 91 = .ok (.aload_n 0, 1) := by decide +kernel
theorem dX12_expression_92 : decode cX12_expression 92 = .ok (.getfield 265, 3) := by decide +kernel
theorem dX12_expression_95 : decode cX12_expression 95 = .ok (.iconst 0, 1) := by decide +kernel
theorem dX12_expression_96 : decode cX12_expression 96 = .ok (.bastore, 1) := by decide +kernel
theorem dX12_expression_97 : decode cX12_expression 97 = .ok (.aload_n 0, 1) := by decide +kernel
theorem dX12_expression_98 : decode cX12_expression 98 = .ok (.invokevirtual 240, 3) := by decide +kernel
theorem dX12_expression_101 : decode cX12_expression 101 = .ok (.aload_n 0, 1) := by decide +kernel
theorem dX12_expression_102 : decode cX12_expression 102 = .ok (.iconst 1, 1) := by decide +kernel
theorem dX12_expression_103 : decode cX12_expression 103 = .ok (.invokevirtual 283, 3) := by decide +kernel
theorem dX12_expression_106 : decode cX12_expression 106 = .ok (.goto 216, 3) := by decide +kernel
theorem dX12_expression_76 : decode cX12_expression 76 = .ok (.if_icmp .ne 7, 3) := by decide +kernel
theorem dX12_expression_83 : decode cX12_expression 83 = .ok (.iconst 5, 1) := by decide +kernel
theorem dX12_expression_79 : decode cX12_expression 79 = .ok (.iconst 4, 1) := by decide +kernel
theorem dX12_expression_80 : decode cX12_expression 80 = .ok (.goto 4, 3) := by decide +kernel
theorem dX12_expression_61 : decode cX12_expression 61 = .ok (.if_icmp .ne 7, 3) := by decide +kernel
theorem dX12_expression_68 : decode cX12_expression 68 = .ok (.iconst 1, 1) := by decide +kernel
theorem dX12_expression_64 : decode cX12_expression 64 = .ok (.iconst 2, 1) := by decide +kernel
theorem dX12_expression_65 : decode cX12_expression 65 = .ok (.goto 4, 3) := by decide +kernel
theorem dX12_expression_48 : decode cX12_expression 48 = .ok (.if_icmp .eq 9, 3) := by decide +kernel
theorem dX12_expression_51 : decode cX12_expression 51 = .ok (.iload_n 2, 1) := by decide +kernel
theorem dX12_expression_52 : decode cX12_expression 52 = .ok (.bipush 15, 2) := by decide +kernel
theorem dX12_expression_54 : decode cX12_expression 54 = .ok (.if_icmp .ne 55, 3) := by decide +kernel
theorem dX12_expression_109 : decode cX12_expression 109 = .ok (.aload_n 0, 1) := by decide +kernel
theorem dX12_expression_110 : decode cX12_expression 110 = .ok (.bipush 60, 2) := by decide +kernel
theorem dX12_expression_112 : decode cX12_expression 112 = .ok (.invokevirtual 268, 3) := by decide +kernel
theorem dX12_expression_186 : decode cX12_expression 186 = .ok (.aload_n 0, 1) := by decide +kernel
theorem dX12_expression_187 : decode cX12_expression 187 = .ok (.bipush 43, 2) := by decide +kernel
theorem dX12_expression_189 : decode cX12_expression 189 = .ok (.invokevirtual 268, 3) := by decide +kernel
theorem dX12_expression_204 : decode cX12_expression 204 = .ok (.aload_n 0, 1) := by decide +kernel
theorem dX12_expression_205 : decode cX12_expression 205 = .ok (.iconst 5, 1) := by decide +kernel
theorem dX12_expression_206 : decode cX12_expression 206 = .ok (.invokevirtual 280, 3) := by decide +kernel
theorem dX12_expression_209 : decode cX12_expression 209 = .ok (.aload_n 0, 1) := by decide +kernel
theorem dX12_expression_210 : decode cX12_expression 210 = .ok (.aload_n 0, 1) := by decide +kernel
theorem dX12_expression_211 : decode cX12_expression 211 = .ok (.bipush 43, 2) := by decide +kernel
theorem dX12_expression_213 : decode cX12_expression 213 = .ok (.invokevirtual 268, 3) := by decide +kernel
theorem dX12_expression_226 : decode cX12_expression 226 = .ok (.invokevirtual 271, 3) := by decide +kernel
theorem dX12_expression_229 : decode cX12_expression 229 = .ok (.aload_n 0, 1) := by decide +kernel
theorem dX12_expression_230 : decode cX12_expression 230 = .ok (.invokevirtual 240, 3) := by decide +kernel
theorem dX12_expression_233 : decode cX12_expression 233 = .ok (.aload_n 0, 1) := by decide +kernel
theorem dX12_expression_234 : decode cX12_expression 234 = .ok (.iconst 0, 1) := by decide +kernel
theorem dX12_expression_235 : decode cX12_expression 235 = .ok (.invokevirtual 283, 3) := by decide +kernel
theorem dX12_expression_238 : decode cX12_expression 238 = .ok (.goto 84, 3) := by decide +kernel
theorem dX12_expression_216 : decode cX12_expression 216 = .ok (.ifCond .eq 8, 3) := by decide +kernel
theorem dX12_expression_224 : decode cX12_expression 224 = .ok (.bipush 9, 2) := by decide +kernel
theorem dX12_expression_219 : decode cX12_expression 219 = .ok (.bipush 8, 2) := by decide +kernel
theorem dX12_expression_221 : decode cX12_expression 221 = .ok (.goto 5, 3) := by decide +kernel
theorem dX12_expression_192 : decode cX12_expression 192 = .ok (.ifCond .ne 12, 3) := by decide +kernel
theorem dX12_expression_195 : decode cX12_expression 195 = .ok (.aload_n 0, 1) := by decide +kernel
theorem dX12_expression_196 : decode cX12_expression 196 = .ok (.bipush 45, 2) := by decide +kernel
theorem dX12_expression_198 : decode cX12_expression 198 = .ok (.invokevirtual 268, 3) := by decide +kernel
theorem dX12_expression_201 : decode cX12_expression 201 = .ok (.ifCond .eq 40, 3) := by decide +kernel
theorem dX12_expression_241 : decode cX12_expression 241 = .ok (.aload_n 0, 1) := by decide +kernel
theorem dX12_expression_242 : decode cX12_expression 242 = .ok (.bipush 42, 2) := by decide +kernel
theorem dX12_expression_244 : decode cX12_expression 244 = .ok (.invokevirtual 268, 3) := by decide +kernel
theorem dX12_expression_259 : decode cX12_expression 259 = .ok (.aload_n 0, 1) := by decide +kernel
theorem dX12_expression_260 : decode cX12_expression 260 = .ok (.bipush 6, 2) := by decide +kernel
theorem dX12_expression_262 : decode cX12_expression 262 = .ok (.invokevirtual 280, 3) := by decide +kernel
theorem dX12_expression_265 : decode cX12_expression 265 = .ok (.aload_n 0, 1) := by decide +kernel
theorem dX12_expression_266 : decode cX12_expression 266 = .ok (.aload_n 0, 1) := by decide +kernel
theorem dX12_expression_267 : decode cX12_expression 267 = .ok (.bipush 42, 2) := by decide +kernel
theorem dX12_expression_269 : decode cX12_expression 269 = .ok (.invokevirtual 268, 3) := by decide +kernel
theorem dX12_expression_282 : decode cX12_expression 282 = .ok (.invokevirtual 271, 3) := by decide +kernel
theorem dX12_expression_285 : decode cX12_expression 285 = .ok (.aload_n 0, 1) := by decide +kernel
theorem dX12_expression_286 : decode cX12_expression 286 = .ok (.invokevirtual 240, 3) := by decide +kernel
theorem dX12_expression_289 : decode cX12_expression 289 = .ok (.aload_n 0, 1) := by decide +kernel
theorem dX12_expression_290 : decode cX12_expression 290 = .ok (.iconst 0, 1) := by decide +kernel
theorem dX12_expression_291 : decode cX12_expression 291 = .ok (.invokevirtual 283, 3) := by decide +kernel
theorem dX12_expression_294 : decode cX12_expression 294 = .ok (.goto 28, 3) := by decide +kernel
theorem dX12_expression_272 : decode cX12_expression 272 = .ok (.ifCond .eq 8, 3) := by decide +kernel
theorem dX12_expression_280 : decode cX12_expression 280 = .ok (.bipush 11, 2) := by decide +kernel
theorem dX12_expression_275 : decode cX12_expression 275 = .ok (.bipush 10, 2) := by decide +kernel
theorem dX12_expression_277 : decode cX12_expression 277 = .ok (.goto 5, 3) := by decide +kernel
theorem dX12_expression_247 : decode cX12_expression 247 = .ok (.ifCond .ne 12, 3) := by decide +kernel
theorem dX12_expression_250 : decode cX12_expression 250 = .ok (.aload_n 0, 1) := by decide +kernel
theorem dX12_expression_251 : decode cX12_expression 251 = .ok (.bipush 47, 2) := by decide +kernel
theorem dX12_expression_253 : decode cX12_expression 253 = .ok (.invokevirtual 268, 3) := by decide +kernel
theorem dX12_expression_256 : decode cX12_expression 256 = .ok (.ifCond .eq 41, 3) := by decide +kernel
theorem dX12_expression_297 : decode cX12_expression 297 = .ok (.aload_n 0, 1) := by decide +kernel
theorem dX12_expression_298 : decode cX12_expression 298 = .ok (.bipush 41, 2) := by decide +kernel
theorem dX12_expression_300 : decode cX12_expression 300 = .ok (.invokevirtual 268, 3) := by decide +kernel
theorem dX12_expression_320 : decode cX12_expression 320 = .ok (.iconst 0, 1) := by decide +kernel
theorem dX12_expression_321 : decode cX12_expression 321 = .ok (.istore_n 1, 1) := by decide +kernel
theorem dX12_expression_303 : decode cX12_expression 303 = .ok (.ifCond .eq 17, 3) := by decide +kernel
theorem dX12_expression_306 : decode cX12_expression 306 = .ok (.aload_n 0, 1) := by decide +kernel
theorem tw_1799 : (Jvm.Cond.methodLink "MarshBellsModel" (287 : Nat) ({ cls := "MarshBellsModel", name := "isOpened", desc := "()Z" } : Jvm.MethodName)) ∈ lw_tbl := tk_8 (List.mem_of_getElem? (i := 119) rfl)
theorem tw_1802 : (Jvm.Cond.code ({ cls := "MarshBellsModel", name := "isOpened", desc := "()Z" } : Jvm.MethodName) prog_14_method_29_code (2 : Nat) (Option.some Jvm.ClassFile.FieldType.boolean)) ∈ lw_tbl := tk_8 (List.mem_of_getElem? (i := 122) rfl)
theorem tw_1801 : (Jvm.Cond.instanceMethod ({ cls := "MarshBellsModel", name := "isOpened", desc := "()Z" } : Jvm.MethodName)) ∈ lw_tbl := tk_8 (List.mem_of_getElem? (i := 121) rfl)
theorem se_X12_isOpened : Cond.selects RX12 yX12_isOpened yX12_isOpened ∈ lw_tbl := List.mem_append_left _ (List.mem_of_getElem? (i := 128) rfl)
theorem li_X12_287 : kLV RX12 287 RX12 yX12_isOpened cX12_isOpened 2 (some .boolean) 0 := ⟨tw_1799, tw_1801, se_X12_isOpened, tw_1802, tw_13, by decide +kernel⟩
theorem dX12_expression_307 : decode cX12_expression 307 = .ok (.invokevirtual 287, 3) := by decide +kernel
theorem dX12_expression_310 : decode cX12_expression 310 = .ok (.ifCond .eq 10, 3) := by decide +kernel
theorem dX12_expression_313 : decode cX12_expression 313 = .ok (.aload_n 0, 1) := by decide +kernel
theorem tw_1803 : (Jvm.Cond.methodLink "MarshBellsModel" (290 : Nat) ({ cls := "MarshBellsModel", name := "closes", desc := "()V" } : Jvm.MethodName)) ∈ lw_tbl := tk_8 (List.mem_of_getElem? (i := 123) rfl)
theorem tw_1806 : (Jvm.Cond.code ({ cls := "MarshBellsModel", name := "closes", desc := "()V" } : Jvm.MethodName) prog_14_method_30_code (1 : Nat) (Option.none : Option Jvm.ClassFile.FieldType)) ∈ lw_tbl := tk_8 (List.mem_of_getElem? (i := 126) rfl)
theorem tw_1805 : (Jvm.Cond.instanceMethod ({ cls := "MarshBellsModel", name := "closes", desc := "()V" } : Jvm.MethodName)) ∈ lw_tbl := tk_8 (List.mem_of_getElem? (i := 125) rfl)
theorem se_X12_closes : Cond.selects RX12 yX12_closes yX12_closes ∈ lw_tbl := List.mem_append_left _ (List.mem_of_getElem? (i := 129) rfl)
theorem li_X12_290 : kLV RX12 290 RX12 yX12_closes cX12_closes 1 none 0 := ⟨tw_1803, tw_1805, se_X12_closes, tw_1806, tw_13, by decide +kernel⟩
theorem dX12_expression_314 : decode cX12_expression 314 = .ok (.invokevirtual 290, 3) := by decide +kernel
theorem dX12_expression_317 : decode cX12_expression 317 = .ok (.goto 5, 3) := by decide +kernel
theorem dX12_expression_127 : decode cX12_expression 127 = .ok (.aload_n 0, 1) := by decide +kernel
theorem dX12_expression_128 : decode cX12_expression 128 = .ok (.getfield 101, 3) := by decide +kernel
theorem dX12_expression_131 : decode cX12_expression 131 = .ok (.aload_n 0, 1) := by decide +kernel
theorem dX12_expression_132 : decode cX12_expression 132 = .ok (.getfield 265, 3) := by decide +kernel
theorem dX12_expression_135 : decode cX12_expression 135 = .ok (.baload, 1) := by decide +kernel
theorem dX12_expression_136 : decode cX12_expression 136 = .ok (.ifCond .ne 50, 3) := by decide +kernel
theorem dX12_expression_139 : decode cX12_expression 139 = .ok (.aload_n 0, 1) := by decide +kernel
theorem dX12_expression_140 : decode cX12_expression 140 = .ok (.iconst 4, 1) := by decide +kernel
theorem dX12_expression_141 : decode cX12_expression 141 = .ok (.invokevirtual 280, 3) := by decide +kernel
theorem dX12_expression_144 : decode cX12_expression 144 = .ok (.aload_n 0, 1) := by decide +kernel
theorem dX12_expression_145 : decode cX12_expression 145 = .ok (.aload_n 0, 1) := by decide +kernel
theorem dX12_expression_146 : decode cX12_expression 146 = .ok (.bipush 60, 2) := by decide +kernel
theorem dX12_expression_148 : decode cX12_expression 148 = .ok (.invokevirtual 268, 3) := by decide +kernel
theorem dX12_expression_161 : decode cX12_expression 161 = .ok (.invokevirtual 271, 3) := by decide +kernel
theorem dX12_expression_164 : decode cX12_expression 164 = .ok (.aload_n 0, 1) := by decide +kernel
theorem dX12_expression_165 : decode cX12_expression 165 = .ok (.getfield 101, 3) := by decide +kernel
theorem dX12_expression_168 : decode cX12_expression 168 = .ok (.aload_n 0, 1) := by decide +kernel
theorem dX12_expression_169 : decode cX12_expression 169 = .ok (.getfield 265, 3) := by decide +kernel
theorem dX12_expression_172 : decode cX12_expression 172 = .ok (.iconst 1, 1) := by decide +kernel
theorem dX12_expression_173 : decode cX12_expression 173 = .ok (.bastore, 1) := by decide +kernel
theorem dX12_expression_174 : decode cX12_expression 174 = .ok (.aload_n 0, 1) := by decide +kernel
theorem dX12_expression_175 : decode cX12_expression 175 = .ok (.invokevirtual 240, 3) := by decide +kernel
theorem dX12_expression_178 : decode cX12_expression 178 = .ok (.aload_n 0, 1) := by decide +kernel
theorem dX12_expression_179 : decode cX12_expression 179 = .ok (.iconst 0, 1) := by decide +kernel
theorem dX12_expression_180 : decode cX12_expression 180 = .ok (.invokevirtual 283, 3) := by decide +kernel
theorem dX12_expression_183 : decode cX12_expression 183 = .ok (.goto 139, 3) := by decide +kernel
theorem dX12_expression_151 : decode cX12_expression 151 = .ok (.ifCond .eq 8, 3) := by decide +kernel
theorem dX12_expression_159 : decode cX12_expression 159 = .ok (.bipush 7, 2) := by decide +kernel
theorem dX12_expression_154 : decode cX12_expression 154 = .ok (.bipush 6, 2) := by decide +kernel
theorem dX12_expression_156 : decode cX12_expression 156 = .ok (.goto 5, 3) := by decide +kernel
theorem dX12_expression_115 : decode cX12_expression 115 = .ok (.ifCond .ne 12, 3) := by decide +kernel
theorem dX12_expression_118 : decode cX12_expression 118 = .ok (.aload_n 0, 1) := by decide +kernel
theorem dX12_expression_119 : decode cX12_expression 119 = .ok (.bipush 61, 2) := by decide +kernel
theorem dX12_expression_121 : decode cX12_expression 121 = .ok (.invokevirtual 268, 3) := by decide +kernel
theorem dX12_expression_124 : decode cX12_expression 124 = .ok (.ifCond .eq 62, 3) := by decide +kernel
theorem dX12_expression_7 : decode cX12_expression 7 = .ok (.return_, 1) := by decide +kernel
def fX12_puts (fu : Nat) (p1 : Int32) (g : Nat → Nat → Int32) (L : Nat → Nat → Int64) : Option ((Unit) × zS) :=
  ck (g 0 35) 1900 (sti g 26 (Int32.toNatClampNeg (g 0 35)) p1 (fun g1 =>
  sti g1 0 35 ((g1 0 35) + 1) (fun g2 =>
  some ((), (g2, L)))))
set_option maxHeartbeats 4000000 in
set_option maxRecDepth 100000 in
theorem rX12_puts (l : Launch) (G : kG) (sz : Nat) (a : Nat → Nat) (fu : Nat) (g : Nat → Nat → Int32) (L : Nat → Nat → Int64) (p1 : Int32) (res : Unit) (s9 : zS) (h : fX12_puts fu p1 g L = some (res, s9)) : kM l yX12_puts cX12_puts 2 none { frames := 6, cells := 0, slots := 0, locals := 110 } G [.ref (a 0), .int p1] (zw G MS 51 a g L) sz (kQv G (S := Unit) (fun _ => True) (fun _ => zw G MS 51 a s9.1 s9.2)) := by
  refine kM.of (by decide) (Nat.le_of_ble_eq_true rfl) ?_
  intro p e s m below meth c A ls H C hr hlk hnm hP hD hS hl
  have C : kC G p s m c cX12_puts 2 RX12 A := C
  have hx := C.1
  have hb := C.2.1
  have hl : lv_has ls 2 [(0, .ref (a 0)), (1, .int p1)] := hl
  obtain ⟨locs, hlocs⟩ : ∃ q : List Loc, q = [] := ⟨_, rfl⟩
  rw [← hlocs] at hS
  rw [← hlocs]
  unfold fX12_puts at h
  refine lv_aload_n hx hb dX12_puts_0 rfl (lv_at hl 0 rfl) ?_
  refine x_getr (Or.inl fl_X12_95) C hP (by decide) ms_0 rfl dX12_puts_1 ?_
  refine lv_aload_n hx hb dX12_puts_4 rfl (lv_at hl 0 rfl) ?_
  refine x_getv (v := .int (g 0 35)) (Or.inl fl_X12_246) C hP (by decide) ms_0 rfl dX12_puts_5 ?_
  refine lv_iload_n hx hb dX12_puts_8 rfl (lv_at hl 1 rfl) ?_
  refine y_ast C hP hD hS (by decide) ms_26 dX12_puts_9 h (fun g1 H locs h hP hD hS => ?_)
  refine lv_aload_n hx hb dX12_puts_10 rfl (lv_at hl 0 rfl) ?_
  refine lv_dup hx hb dX12_puts_11 rfl ?_
  refine x_getv (v := .int (g1 0 35)) (Or.inl fl_X12_246) C hP (by decide) ms_0 rfl dX12_puts_12 ?_
  refine lv_iconst (v := 1) hx hb dX12_puts_15 (by decide) ?_
  refine lv_iadd hx hb dX12_puts_16 ?_
  refine y_puti (Or.inl fl_X12_246) ft_X12_35 C hP hD hS (by decide) ms_0 rfl rfl rfl dX12_puts_17 h (fun g2 H locs h hP hD hS => ?_)
  exact y_vret C hr hlk hP hD hS h (Nat.le_of_ble_eq_true rfl) (Nat.le_of_ble_eq_true rfl) dX12_puts_20
def fX12_isOpen_p11 (fu : Nat) (t0 : Int32) (g : Nat → Nat → Int32) (L : Nat → Nat → Int64) : Option ((Int32) × zS) :=
  ckb t0 (some (t0, (g, L)))
def fX12_isOpen (fu : Nat) (p1 : Int32) (g : Nat → Nat → Int32) (L : Nat → Nat → Int64) : Option ((Int32) × zS) :=
  if (p1 : Int32) < 14 then fX12_isOpen_p11 fu 0 g L
  else fX12_isOpen_p11 fu 1 g L
set_option maxHeartbeats 4000000 in
set_option maxRecDepth 100000 in
theorem rX12_isOpen (l : Launch) (G : kG) (sz : Nat) (a : Nat → Nat) (fu : Nat) (g : Nat → Nat → Int32) (L : Nat → Nat → Int64) (p1 : Int32) (res : Int32) (s9 : zS) (h : fX12_isOpen fu p1 g L = some (res, s9)) : kM l yX12_isOpen cX12_isOpen 1 (some .boolean) { frames := 6, cells := 0, slots := 0, locals := 110 } G [.int p1] (zw G MS 51 a g L) sz (kQi G (S := Unit) (fun r' _ => r' = res) (fun _ => zw G MS 51 a s9.1 s9.2)) := by
  refine kM.of (by decide) (Nat.le_of_ble_eq_true rfl) ?_
  intro p e s m below meth c A ls H C hr hlk hnm hP hD hS hl
  have C : kC G p s m c cX12_isOpen 1 RX12 A := C
  have hx := C.1
  have hb := C.2.1
  have hl : lv_has ls 1 [(0, .int p1)] := hl
  obtain ⟨locs, hlocs⟩ : ∃ q : List Loc, q = [] := ⟨_, rfl⟩
  rw [← hlocs] at hS
  rw [← hlocs]
  unfold fX12_isOpen at h
  refine lv_iload_n hx hb dX12_isOpen_0 rfl (lv_at hl 0 rfl) ?_
  refine lv_bipush (v := 14) hx hb dX12_isOpen_1 (by decide) ?_
  have J11 : ∀ (t0 : Int32) (g : Nat → Nat → Int32) (L : Nat → Nat → Int64) (H : Heap) (locs : List Loc) (ls : Array Slot), fX12_isOpen_p11 fu t0 g L = some (res, s9) → va_P G.1 vwCl (zw G MS 51 a g L) H → va_D A (zw G MS 51 a g L) → va_S A s.heap H locs → lv_has ls 1 [] → W p l e { frames := 6, cells := 0, slots := 0, locals := 110 } s m [.int p1].toArray below meth c H locs 0 0 (MQ below ((kQi G (S := Unit) (fun r' _ => r' = res) (fun _ => zw G MS 51 a s9.1 s9.2)) A) [.int p1].toArray s 0 0 A) (F0 m 11 ls [.int t0]) := by
    intro t0 g L H locs ls h hP hD hS hl
    unfold fX12_isOpen_p11 at h
    exact y_zret C hr hlk hP hD hS h (Nat.le_of_ble_eq_true rfl) (Nat.le_of_ble_eq_true rfl) dX12_isOpen_11
  refine lv_icmp_lt (x := p1) (y := 14) (tgt := 10) hx hb dX12_isOpen_3 (by decide) (fun c1 => ?_) (fun c1 => ?_)
  ·
    have h := ite_t c1 h
    refine lv_iconst (v := 0) hx hb dX12_isOpen_10 (by decide) ?_
    exact J11 0 g L H locs ls h hP hD hS (lv_sub hl [] rfl)
  ·
    have h := ite_e c1 h
    refine lv_iconst (v := 1) hx hb dX12_isOpen_6 (by decide) ?_
    refine lv_goto (tgt := 11) hx hb dX12_isOpen_7 (by decide) ?_
    exact J11 1 g L H locs ls h hP hD hS (lv_sub hl [] rfl)
def fX12_strength_p61 (fu : Nat) (t0 : Int32) (g : Nat → Nat → Int32) (L : Nat → Nat → Int64) : Option ((Int32) × zS) :=
  some (t0, (g, L))
def fX12_strength_p39 (fu : Nat) (g : Nat → Nat → Int32) (L : Nat → Nat → Int64) : Option ((Int32) × zS) :=
  fX12_strength_p61 fu 4 g L
def fX12_strength_p55 (fu : Nat) (g : Nat → Nat → Int32) (L : Nat → Nat → Int64) : Option ((Int32) × zS) :=
  fX12_strength_p61 fu 5 g L
def fX12_strength (fu : Nat) (p1 : Int32) (g : Nat → Nat → Int32) (L : Nat → Nat → Int64) : Option ((Int32) × zS) :=
  if (p1 : Int32) = 5 then fX12_strength_p61 fu 1 g L
  else if (p1 : Int32) = 4 then fX12_strength_p61 fu 2 g L
  else if (p1 : Int32) = 3 then fX12_strength_p61 fu 3 g L
  else if (p1 : Int32) = 6 then fX12_strength_p39 fu g L
  else if (p1 : Int32) = 7 then fX12_strength_p39 fu g L
  else if (p1 : Int32) = 8 then fX12_strength_p55 fu g L
  else if (p1 : Int32) = 9 then fX12_strength_p55 fu g L
  else fX12_strength_p61 fu 6 g L
set_option maxHeartbeats 4000000 in
set_option maxRecDepth 100000 in
theorem rX12_strength (l : Launch) (G : kG) (sz : Nat) (a : Nat → Nat) (fu : Nat) (g : Nat → Nat → Int32) (L : Nat → Nat → Int64) (p1 : Int32) (res : Int32) (s9 : zS) (h : fX12_strength fu p1 g L = some (res, s9)) : kM l yX12_strength cX12_strength 1 (some .int) { frames := 6, cells := 0, slots := 0, locals := 110 } G [.int p1] (zw G MS 51 a g L) sz (kQi G (S := Unit) (fun r' _ => r' = res) (fun _ => zw G MS 51 a s9.1 s9.2)) := by
  refine kM.of (by decide) (Nat.le_of_ble_eq_true rfl) ?_
  intro p e s m below meth c A ls H C hr hlk hnm hP hD hS hl
  have C : kC G p s m c cX12_strength 1 RX12 A := C
  have hx := C.1
  have hb := C.2.1
  have hl : lv_has ls 1 [(0, .int p1)] := hl
  obtain ⟨locs, hlocs⟩ : ∃ q : List Loc, q = [] := ⟨_, rfl⟩
  rw [← hlocs] at hS
  rw [← hlocs]
  unfold fX12_strength at h
  refine lv_iload_n hx hb dX12_strength_0 rfl (lv_at hl 0 rfl) ?_
  refine lv_iconst (v := 5) hx hb dX12_strength_1 (by decide) ?_
  have J61 : ∀ (t0 : Int32) (g : Nat → Nat → Int32) (L : Nat → Nat → Int64) (H : Heap) (locs : List Loc) (ls : Array Slot), fX12_strength_p61 fu t0 g L = some (res, s9) → va_P G.1 vwCl (zw G MS 51 a g L) H → va_D A (zw G MS 51 a g L) → va_S A s.heap H locs → lv_has ls 1 [] → W p l e { frames := 6, cells := 0, slots := 0, locals := 110 } s m [.int p1].toArray below meth c H locs 0 0 (MQ below ((kQi G (S := Unit) (fun r' _ => r' = res) (fun _ => zw G MS 51 a s9.1 s9.2)) A) [.int p1].toArray s 0 0 A) (F0 m 61 ls [.int t0]) := by
    intro t0 g L H locs ls h hP hD hS hl
    unfold fX12_strength_p61 at h
    exact y_iret C hr hlk hP hD hS h (Nat.le_of_ble_eq_true rfl) (Nat.le_of_ble_eq_true rfl) dX12_strength_61
  refine lv_icmp_ne (x := p1) (y := 5) (tgt := 9) hx hb dX12_strength_2 (by decide) (fun c1 => ?_) (fun c1 => ?_)
  ·
    have h := ite_e c1 h
    refine lv_iload_n hx hb dX12_strength_9 rfl (lv_at hl 0 rfl) ?_
    refine lv_iconst (v := 4) hx hb dX12_strength_10 (by decide) ?_
    refine lv_icmp_ne (x := p1) (y := 4) (tgt := 18) hx hb dX12_strength_11 (by decide) (fun c2 => ?_) (fun c2 => ?_)
    ·
      have h := ite_e c2 h
      refine lv_iload_n hx hb dX12_strength_18 rfl (lv_at hl 0 rfl) ?_
      refine lv_iconst (v := 3) hx hb dX12_strength_19 (by decide) ?_
      refine lv_icmp_ne (x := p1) (y := 3) (tgt := 27) hx hb dX12_strength_20 (by decide) (fun c3 => ?_) (fun c3 => ?_)
      ·
        have h := ite_e c3 h
        refine lv_iload_n hx hb dX12_strength_27 rfl (lv_at hl 0 rfl) ?_
        refine lv_bipush (v := 6) hx hb dX12_strength_28 (by decide) ?_
        have J39 : ∀ (g : Nat → Nat → Int32) (L : Nat → Nat → Int64) (H : Heap) (locs : List Loc) (ls : Array Slot), fX12_strength_p39 fu g L = some (res, s9) → va_P G.1 vwCl (zw G MS 51 a g L) H → va_D A (zw G MS 51 a g L) → va_S A s.heap H locs → lv_has ls 1 [] → W p l e { frames := 6, cells := 0, slots := 0, locals := 110 } s m [.int p1].toArray below meth c H locs 0 0 (MQ below ((kQi G (S := Unit) (fun r' _ => r' = res) (fun _ => zw G MS 51 a s9.1 s9.2)) A) [.int p1].toArray s 0 0 A) (F0 m 39 ls []) := by
          intro g L H locs ls h hP hD hS hl
          unfold fX12_strength_p39 at h
          refine lv_iconst (v := 4) hx hb dX12_strength_39 (by decide) ?_
          refine lv_goto (tgt := 61) hx hb dX12_strength_40 (by decide) ?_
          exact J61 4 g L H locs ls h hP hD hS (lv_sub hl [] rfl)
        refine lv_icmp_eq (x := p1) (y := 6) (tgt := 39) hx hb dX12_strength_30 (by decide) (fun c4 => ?_) (fun c4 => ?_)
        ·
          have h := ite_t c4 h
          exact J39 g L H locs ls h hP hD hS (lv_sub hl [] rfl)
        ·
          have h := ite_e c4 h
          refine lv_iload_n hx hb dX12_strength_33 rfl (lv_at hl 0 rfl) ?_
          refine lv_bipush (v := 7) hx hb dX12_strength_34 (by decide) ?_
          refine lv_icmp_ne (x := p1) (y := 7) (tgt := 43) hx hb dX12_strength_36 (by decide) (fun c5 => ?_) (fun c5 => ?_)
          ·
            have h := ite_e c5 h
            refine lv_iload_n hx hb dX12_strength_43 rfl (lv_at hl 0 rfl) ?_
            refine lv_bipush (v := 8) hx hb dX12_strength_44 (by decide) ?_
            have J55 : ∀ (g : Nat → Nat → Int32) (L : Nat → Nat → Int64) (H : Heap) (locs : List Loc) (ls : Array Slot), fX12_strength_p55 fu g L = some (res, s9) → va_P G.1 vwCl (zw G MS 51 a g L) H → va_D A (zw G MS 51 a g L) → va_S A s.heap H locs → lv_has ls 1 [] → W p l e { frames := 6, cells := 0, slots := 0, locals := 110 } s m [.int p1].toArray below meth c H locs 0 0 (MQ below ((kQi G (S := Unit) (fun r' _ => r' = res) (fun _ => zw G MS 51 a s9.1 s9.2)) A) [.int p1].toArray s 0 0 A) (F0 m 55 ls []) := by
              intro g L H locs ls h hP hD hS hl
              unfold fX12_strength_p55 at h
              refine lv_iconst (v := 5) hx hb dX12_strength_55 (by decide) ?_
              refine lv_goto (tgt := 61) hx hb dX12_strength_56 (by decide) ?_
              exact J61 5 g L H locs ls h hP hD hS (lv_sub hl [] rfl)
            refine lv_icmp_eq (x := p1) (y := 8) (tgt := 55) hx hb dX12_strength_46 (by decide) (fun c6 => ?_) (fun c6 => ?_)
            ·
              have h := ite_t c6 h
              exact J55 g L H locs ls h hP hD hS (lv_sub hl [] rfl)
            ·
              have h := ite_e c6 h
              refine lv_iload_n hx hb dX12_strength_49 rfl (lv_at hl 0 rfl) ?_
              refine lv_bipush (v := 9) hx hb dX12_strength_50 (by decide) ?_
              refine lv_icmp_ne (x := p1) (y := 9) (tgt := 59) hx hb dX12_strength_52 (by decide) (fun c7 => ?_) (fun c7 => ?_)
              ·
                have h := ite_e c7 h
                refine lv_bipush (v := 6) hx hb dX12_strength_59 (by decide) ?_
                exact J61 6 g L H locs ls h hP hD hS (lv_sub hl [] rfl)
              ·
                have h := ite_t c7 h
                exact J55 g L H locs ls h hP hD hS (lv_sub hl [] rfl)
          ·
            have h := ite_t c5 h
            exact J39 g L H locs ls h hP hD hS (lv_sub hl [] rfl)
      ·
        have h := ite_t c3 h
        refine lv_iconst (v := 3) hx hb dX12_strength_23 (by decide) ?_
        refine lv_goto (tgt := 61) hx hb dX12_strength_24 (by decide) ?_
        exact J61 3 g L H locs ls h hP hD hS (lv_sub hl [] rfl)
    ·
      have h := ite_t c2 h
      refine lv_iconst (v := 2) hx hb dX12_strength_14 (by decide) ?_
      refine lv_goto (tgt := 61) hx hb dX12_strength_15 (by decide) ?_
      exact J61 2 g L H locs ls h hP hD hS (lv_sub hl [] rfl)
  ·
    have h := ite_t c1 h
    refine lv_iconst (v := 1) hx hb dX12_strength_5 (by decide) ?_
    refine lv_goto (tgt := 61) hx hb dX12_strength_6 (by decide) ?_
    exact J61 1 g L H locs ls h hP hD hS (lv_sub hl [] rfl)
def fX12_drops_p68 (fu : Nat) (g : Nat → Nat → Int32) (L : Nat → Nat → Int64) : Option ((Unit) × zS) :=
  some ((), (g, L))
def fX12_drops_s0 (fu : Nat) (v1 : Int32) (k0 : (Nat → Nat → Int32) × (Nat → Nat → Int64) → Option ((Unit) × zS)) (g : Nat → Nat → Int32) (L : Nat → Nat → Int64) : Option ((Unit) × zS) :=
  if (g 0 36) ≤ 0 then fX12_drops_p68 fu g L
  else ck ((g 0 36) - 1) 950 (
  cb (fX12_isOpen fu (g 27 (Int32.toNatClampNeg ((g 0 36) - 1))) g L) (fun x2 g3 L4 =>
  if x2 = 0 then ck ((g3 0 36) - 1) 950 (
  cb (fX12_strength fu (g3 27 (Int32.toNatClampNeg ((g3 0 36) - 1))) g3 L4) (fun x7 g8 L9 =>
  if (x7 : Int32) < v1 then fX12_drops_p68 fu g8 L9
  else sti g8 0 36 ((g8 0 36) - 1) (fun g12 =>
  ck (g12 0 36) 950 (
  cb (fX12_puts fu (g12 27 (Int32.toNatClampNeg (g12 0 36))) g12 L9) (fun x13 g14 L15 =>
  k0 (g14, L15))))))
  else fX12_drops_p68 fu g3 L4))
def fX12_drops_l0 (fu : Nat) (v1 : Int32) (g : Nat → Nat → Int32) (L : Nat → Nat → Int64) : Option ((Unit) × zS) :=
  whileK (fun k v => fX12_drops_s0 fu v1 k v.1 v.2) fu (g, L)
def fX12_drops (fu : Nat) (p1 : Int32) (g : Nat → Nat → Int32) (L : Nat → Nat → Int64) : Option ((Unit) × zS) :=
  fX12_drops_l0 fu p1 g L
set_option maxHeartbeats 4000000 in
set_option maxRecDepth 100000 in
theorem rX12_drops (l : Launch) (G : kG) (sz : Nat) (a : Nat → Nat) (fu : Nat) (g : Nat → Nat → Int32) (L : Nat → Nat → Int64) (p1 : Int32) (res : Unit) (s9 : zS) (h : fX12_drops fu p1 g L = some (res, s9)) : kM l yX12_drops cX12_drops 2 none { frames := 7, cells := 0, slots := 0, locals := 131 } G [.ref (a 0), .int p1] (zw G MS 51 a g L) sz (kQv G (S := Unit) (fun _ => True) (fun _ => zw G MS 51 a s9.1 s9.2)) := by
  refine kM.of (by decide) (Nat.le_of_ble_eq_true rfl) ?_
  intro p e s m below meth c A ls H C hr hlk hnm hP hD hS hl
  have C : kC G p s m c cX12_drops 2 RX12 A := C
  have hx := C.1
  have hb := C.2.1
  have hl : lv_has ls 2 [(0, .ref (a 0)), (1, .int p1)] := hl
  obtain ⟨locs, hlocs⟩ : ∃ q : List Loc, q = [] := ⟨_, rfl⟩
  rw [← hlocs] at hS
  rw [← hlocs]
  unfold fX12_drops at h
  have lp0 : ∀ (v1 : Int32), ∀ (n : Nat) (v : (Nat → Nat → Int32) × (Nat → Nat → Int64)), whileK (fun k v => fX12_drops_s0 fu v1 k v.1 v.2) n v = some (res, s9) → ∀ (H : Heap) (locs : List Loc) (ls : Array Slot), va_P G.1 vwCl (zw G MS 51 a (v.1) (v.2)) H → va_D A (zw G MS 51 a (v.1) (v.2)) → va_S A s.heap H locs → lv_has ls 2 [(0, .ref (a 0)), (1, .int v1)] → W p l e { frames := 7, cells := 0, slots := 0, locals := 131 } s m [.ref (a 0), .int p1].toArray below meth c H locs 0 0 (MQ below ((kQv G (S := Unit) (fun _ => True) (fun _ => zw G MS 51 a s9.1 s9.2)) A) [.ref (a 0), .int p1].toArray s 0 0 A) (F0 m 0 ls []) := by
    intro v1
    refine while_ind (fun k0 ih0 v h => ?_)
    obtain ⟨g, L⟩ := v
    intro H locs ls hP hD hS hl
    have h : fX12_drops_s0 fu v1 k0 g L = some (res, s9) := h
    have hP : va_P G.1 vwCl (zw G MS 51 a g L) H := hP
    have hD : va_D A (zw G MS 51 a g L) := hD
    have hl : lv_has ls 2 [(0, .ref (a 0)), (1, .int v1)] := hl
    show W p l e { frames := 7, cells := 0, slots := 0, locals := 131 } s m [.ref (a 0), .int p1].toArray below meth c H locs 0 0 (MQ below ((kQv G (S := Unit) (fun _ => True) (fun _ => zw G MS 51 a s9.1 s9.2)) A) [.ref (a 0), .int p1].toArray s 0 0 A) (F0 m 0 ls [])
    unfold fX12_drops_s0 at h
    refine lv_aload_n hx hb dX12_drops_0 rfl (lv_at hl 0 rfl) ?_
    refine x_getv (v := .int (g 0 36)) (Or.inl fl_X12_249) C hP (by decide) ms_0 rfl dX12_drops_1 ?_
    have J68 : ∀ (g : Nat → Nat → Int32) (L : Nat → Nat → Int64) (H : Heap) (locs : List Loc) (ls : Array Slot), fX12_drops_p68 fu g L = some (res, s9) → va_P G.1 vwCl (zw G MS 51 a g L) H → va_D A (zw G MS 51 a g L) → va_S A s.heap H locs → lv_has ls 2 [] → W p l e { frames := 7, cells := 0, slots := 0, locals := 131 } s m [.ref (a 0), .int p1].toArray below meth c H locs 0 0 (MQ below ((kQv G (S := Unit) (fun _ => True) (fun _ => zw G MS 51 a s9.1 s9.2)) A) [.ref (a 0), .int p1].toArray s 0 0 A) (F0 m 68 ls []) := by
      intro g L H locs ls h hP hD hS hl
      unfold fX12_drops_p68 at h
      exact y_vret C hr hlk hP hD hS h (Nat.le_of_ble_eq_true rfl) (Nat.le_of_ble_eq_true rfl) dX12_drops_68
    refine lv_if_le (x := (g 0 36)) (tgt := 68) hx hb dX12_drops_4 (by decide) (fun c1 => ?_) (fun c1 => ?_)
    ·
      have h := ite_t c1 h
      exact J68 g L H locs ls h hP hD hS (lv_sub hl [] rfl)
    ·
      have h := ite_e c1 h
      refine lv_aload_n hx hb dX12_drops_7 rfl (lv_at hl 0 rfl) ?_
      refine x_getr (Or.inl fl_X12_98) C hP (by decide) ms_0 rfl dX12_drops_8 ?_
      refine lv_aload_n hx hb dX12_drops_11 rfl (lv_at hl 0 rfl) ?_
      refine x_getv (v := .int (g 0 36)) (Or.inl fl_X12_249) C hP (by decide) ms_0 rfl dX12_drops_12 ?_
      refine lv_iconst (v := 1) hx hb dX12_drops_15 (by decide) ?_
      refine lv_isub hx hb dX12_drops_16 ?_
      refine y_ald C hP (by decide) ms_27 dX12_drops_17 h (fun h => ?_)
      obtain ⟨z_, g3, L4, hf5, h⟩ := cb_some h
      refine x_callSi (rest := []) li_X12_252 C (rX12_isOpen l G H.size a fu g L (g 27 (Int32.toNatClampNeg ((g 0 36) - 1))) z_ (g3, L4) hf5) (kR rfl) hP hD hS rfl hl.1 rfl (Nat.le_of_ble_eq_true rfl) dX12_drops_18 (fun x2 u_ H locs e_ hP hD hS => ?_)
      have e_ : x2 = z_ := e_
      subst e_
      have hP : va_P G.1 vwCl (zw G MS 51 a g3 L4) H := hP
      have hD : va_D A (zw G MS 51 a g3 L4) := hD
      refine lv_if_ne (x := x2) (tgt := 68) hx hb dX12_drops_21 (by decide) (fun c6 => ?_) (fun c6 => ?_)
      ·
        have h := ite_e c6 h
        exact J68 g3 L4 H locs ls h hP hD hS (lv_sub hl [] rfl)
      ·
        have h := ite_t c6 h
        refine lv_aload_n hx hb dX12_drops_24 rfl (lv_at hl 0 rfl) ?_
        refine x_getr (Or.inl fl_X12_98) C hP (by decide) ms_0 rfl dX12_drops_25 ?_
        refine lv_aload_n hx hb dX12_drops_28 rfl (lv_at hl 0 rfl) ?_
        refine x_getv (v := .int (g3 0 36)) (Or.inl fl_X12_249) C hP (by decide) ms_0 rfl dX12_drops_29 ?_
        refine lv_iconst (v := 1) hx hb dX12_drops_32 (by decide) ?_
        refine lv_isub hx hb dX12_drops_33 ?_
        refine y_ald C hP (by decide) ms_27 dX12_drops_34 h (fun h => ?_)
        obtain ⟨z_, g8, L9, hf10, h⟩ := cb_some h
        refine x_callSi (rest := []) li_X12_255 C (rX12_strength l G H.size a fu g3 L4 (g3 27 (Int32.toNatClampNeg ((g3 0 36) - 1))) z_ (g8, L9) hf10) (kR rfl) hP hD hS rfl hl.1 rfl (Nat.le_of_ble_eq_true rfl) dX12_drops_35 (fun x7 u_ H locs e_ hP hD hS => ?_)
        have e_ : x7 = z_ := e_
        subst e_
        have hP : va_P G.1 vwCl (zw G MS 51 a g8 L9) H := hP
        have hD : va_D A (zw G MS 51 a g8 L9) := hD
        refine lv_iload_n hx hb dX12_drops_38 rfl (lv_at hl 1 rfl) ?_
        refine lv_icmp_lt (x := x7) (y := v1) (tgt := 68) hx hb dX12_drops_39 (by decide) (fun c11 => ?_) (fun c11 => ?_)
        ·
          have h := ite_t c11 h
          exact J68 g8 L9 H locs ls h hP hD hS (lv_sub hl [] rfl)
        ·
          have h := ite_e c11 h
          refine lv_aload_n hx hb dX12_drops_42 rfl (lv_at hl 0 rfl) ?_
          refine lv_dup hx hb dX12_drops_43 rfl ?_
          refine x_getv (v := .int (g8 0 36)) (Or.inl fl_X12_249) C hP (by decide) ms_0 rfl dX12_drops_44 ?_
          refine lv_iconst (v := 1) hx hb dX12_drops_47 (by decide) ?_
          refine lv_isub hx hb dX12_drops_48 ?_
          refine y_puti (Or.inl fl_X12_249) ft_X12_36 C hP hD hS (by decide) ms_0 rfl rfl rfl dX12_drops_49 h (fun g12 H locs h hP hD hS => ?_)
          refine lv_aload_n hx hb dX12_drops_52 rfl (lv_at hl 0 rfl) ?_
          refine lv_aload_n hx hb dX12_drops_53 rfl (lv_at hl 0 rfl) ?_
          refine x_getr (Or.inl fl_X12_98) C hP (by decide) ms_0 rfl dX12_drops_54 ?_
          refine lv_aload_n hx hb dX12_drops_57 rfl (lv_at hl 0 rfl) ?_
          refine x_getv (v := .int (g12 0 36)) (Or.inl fl_X12_249) C hP (by decide) ms_0 rfl dX12_drops_58 ?_
          refine y_ald C hP (by decide) ms_27 dX12_drops_61 h (fun h => ?_)
          obtain ⟨z_, g14, L15, hf16, h⟩ := cb_some h
          refine x_callVv (rest := []) li_X12_258 C (rX12_puts l G H.size a fu g12 L9 (g12 27 (Int32.toNatClampNeg (g12 0 36))) z_ (g14, L15) hf16) (kR rfl) hP hD hS 0 12 rfl (zat (by decide) ms_0) rfl hl.1 rfl (Nat.le_of_ble_eq_true rfl) dX12_drops_62 (fun u_ H locs e_ hP hD hS => ?_)
          have hP : va_P G.1 vwCl (zw G MS 51 a g14 L15) H := hP
          have hD : va_D A (zw G MS 51 a g14 L15) := hD
          refine lv_goto (tgt := 0) hx hb dX12_drops_65 (by decide) ?_
          exact ih0 (g14, L15) h H locs ls hP hD hS (lv_sub hl [0, 1] rfl)
  exact lp0 p1 fu (g, L) h H locs ls hP hD hS (lv_sub hl [0, 1] rfl)
def fX12_waitsFor (fu : Nat) (p1 : Int32) (g : Nat → Nat → Int32) (L : Nat → Nat → Int64) : Option ((Unit) × zS) :=
  ck (g 0 36) 950 (sti g 27 (Int32.toNatClampNeg (g 0 36)) p1 (fun g1 =>
  sti g1 0 36 ((g1 0 36) + 1) (fun g2 =>
  some ((), (g2, L)))))
set_option maxHeartbeats 4000000 in
set_option maxRecDepth 100000 in
theorem rX12_waitsFor (l : Launch) (G : kG) (sz : Nat) (a : Nat → Nat) (fu : Nat) (g : Nat → Nat → Int32) (L : Nat → Nat → Int64) (p1 : Int32) (res : Unit) (s9 : zS) (h : fX12_waitsFor fu p1 g L = some (res, s9)) : kM l yX12_waitsFor cX12_waitsFor 2 none { frames := 6, cells := 0, slots := 0, locals := 110 } G [.ref (a 0), .int p1] (zw G MS 51 a g L) sz (kQv G (S := Unit) (fun _ => True) (fun _ => zw G MS 51 a s9.1 s9.2)) := by
  refine kM.of (by decide) (Nat.le_of_ble_eq_true rfl) ?_
  intro p e s m below meth c A ls H C hr hlk hnm hP hD hS hl
  have C : kC G p s m c cX12_waitsFor 2 RX12 A := C
  have hx := C.1
  have hb := C.2.1
  have hl : lv_has ls 2 [(0, .ref (a 0)), (1, .int p1)] := hl
  obtain ⟨locs, hlocs⟩ : ∃ q : List Loc, q = [] := ⟨_, rfl⟩
  rw [← hlocs] at hS
  rw [← hlocs]
  unfold fX12_waitsFor at h
  refine lv_aload_n hx hb dX12_waitsFor_0 rfl (lv_at hl 0 rfl) ?_
  refine x_getr (Or.inl fl_X12_98) C hP (by decide) ms_0 rfl dX12_waitsFor_1 ?_
  refine lv_aload_n hx hb dX12_waitsFor_4 rfl (lv_at hl 0 rfl) ?_
  refine x_getv (v := .int (g 0 36)) (Or.inl fl_X12_249) C hP (by decide) ms_0 rfl dX12_waitsFor_5 ?_
  refine lv_iload_n hx hb dX12_waitsFor_8 rfl (lv_at hl 1 rfl) ?_
  refine y_ast C hP hD hS (by decide) ms_27 dX12_waitsFor_9 h (fun g1 H locs h hP hD hS => ?_)
  refine lv_aload_n hx hb dX12_waitsFor_10 rfl (lv_at hl 0 rfl) ?_
  refine lv_dup hx hb dX12_waitsFor_11 rfl ?_
  refine x_getv (v := .int (g1 0 36)) (Or.inl fl_X12_249) C hP (by decide) ms_0 rfl dX12_waitsFor_12 ?_
  refine lv_iconst (v := 1) hx hb dX12_waitsFor_15 (by decide) ?_
  refine lv_iadd hx hb dX12_waitsFor_16 ?_
  refine y_puti (Or.inl fl_X12_249) ft_X12_36 C hP hD hS (by decide) ms_0 rfl rfl rfl dX12_waitsFor_17 h (fun g2 H locs h hP hD hS => ?_)
  exact y_vret C hr hlk hP hD hS h (Nat.le_of_ble_eq_true rfl) (Nat.le_of_ble_eq_true rfl) dX12_waitsFor_20
def fX12_part_p101 (fu : Nat) (g : Nat → Nat → Int32) (L : Nat → Nat → Int64) : Option ((Unit) × zS) :=
  some ((), (g, L))
def fX12_part_p90 (fu : Nat) (g : Nat → Nat → Int32) (L : Nat → Nat → Int64) : Option ((Unit) × zS) :=
  cb (fX12_isGood fu g L) (fun x6 g7 L8 =>
  if x6 = 0 then fX12_part_p101 fu g7 L8
  else cb (fX12_goes fu g7 L8) (fun x11 g12 L13 =>
  fX12_part_p101 fu g12 L13))
def fX12_part_p72 (fu : Nat) (v1 : Int32) (g : Nat → Nat → Int32) (L : Nat → Nat → Int64) : Option ((Unit) × zS) :=
  cb (fX12_puts fu 2 g L) (fun x25 g26 L27 =>
  cb (fX12_puts fu v1 g26 L27) (fun x29 g30 L31 =>
  fX12_part_p90 fu g30 L31))
def fX12_part_p67 (fu : Nat) (v1 : Int32) (g : Nat → Nat → Int32) (L : Nat → Nat → Int64) : Option ((Unit) × zS) :=
  cb (fX12_wrong fu 3 g L) (fun x33 g34 L35 =>
  fX12_part_p72 fu v1 g34 L35)
def fX12_part_p29 (fu : Nat) (g : Nat → Nat → Int32) (L : Nat → Nat → Int64) : Option ((Unit) × zS) :=
  cb (fX12_puts fu 1 g L) (fun x39 g40 L41 =>
  cb (fX12_puts fu (g40 0 27) g40 L41) (fun x43 g44 L45 =>
  fX12_part_p90 fu g44 L45))
def fX12_part (fu : Nat) (g : Nat → Nat → Int32) (L : Nat → Nat → Int64) : Option ((Unit) × zS) :=
  cb (fX12_isGood fu g L) (fun x1 g2 L3 =>
  if x1 = 0 then some ((), (g2, L3))
  else if (g2 0 24) = 2 then (if (g2 0 26) ≤ 4 then fX12_part_p29 fu g2 L3
  else cb (fX12_wrong fu 2 g2 L3) (fun x48 g49 L50 =>
  fX12_part_p29 fu g49 L50))
  else if (g2 0 24) = 1 then cb (fX12_knownWord fu g2 L3) (fun x21 g22 L23 =>
  if x21 < 0 then fX12_part_p67 fu x21 g22 L23
  else if (x21 : Int32) ≤ 5 then fX12_part_p72 fu x21 g22 L23
  else fX12_part_p67 fu x21 g22 L23)
  else cb (fX12_wrong fu 1 g2 L3) (fun x17 g18 L19 =>
  fX12_part_p90 fu g18 L19))
set_option maxHeartbeats 4000000 in
set_option maxRecDepth 100000 in
theorem rX12_part (l : Launch) (G : kG) (sz : Nat) (a : Nat → Nat) (fu : Nat) (g : Nat → Nat → Int32) (L : Nat → Nat → Int64) (res : Unit) (s9 : zS) (h : fX12_part fu g L = some (res, s9)) : kM l yX12_part cX12_part 2 none { frames := 9, cells := 0, slots := 0, locals := 178 } G [.ref (a 0)] (zw G MS 51 a g L) sz (kQv G (S := Unit) (fun _ => True) (fun _ => zw G MS 51 a s9.1 s9.2)) := by
  refine kM.of (by decide) (Nat.le_of_ble_eq_true rfl) ?_
  intro p e s m below meth c A ls H C hr hlk hnm hP hD hS hl
  have C : kC G p s m c cX12_part 2 RX12 A := C
  have hx := C.1
  have hb := C.2.1
  have hl : lv_has ls 2 [(0, .ref (a 0))] := hl
  obtain ⟨locs, hlocs⟩ : ∃ q : List Loc, q = [] := ⟨_, rfl⟩
  rw [← hlocs] at hS
  rw [← hlocs]
  unfold fX12_part at h
  refine lv_aload_n hx hb dX12_part_0 rfl (lv_at hl 0 rfl) ?_
  obtain ⟨z_, g2, L3, hf4, h⟩ := cb_some h
  refine x_callVi (rest := []) li_X12_236 C (rX12_isGood l G H.size a fu g L z_ (g2, L3) hf4) (kR rfl) hP hD hS 0 12 rfl (zat (by decide) ms_0) rfl hl.1 rfl (Nat.le_of_ble_eq_true rfl) dX12_part_1 (fun x1 u_ H locs e_ hP hD hS => ?_)
  have e_ : x1 = z_ := e_
  subst e_
  have hP : va_P G.1 vwCl (zw G MS 51 a g2 L3) H := hP
  have hD : va_D A (zw G MS 51 a g2 L3) := hD
  refine lv_if_ne (x := x1) (tgt := 8) hx hb dX12_part_4 (by decide) (fun c5 => ?_) (fun c5 => ?_)
  ·
    have h := ite_e c5 h
    refine lv_aload_n hx hb dX12_part_8 rfl (lv_at hl 0 rfl) ?_
    refine x_getv (v := .int (g2 0 24)) (Or.inl fl_X12_210) C hP (by decide) ms_0 rfl dX12_part_9 ?_
    refine lv_iconst (v := 2) hx hb dX12_part_12 (by decide) ?_
    have J90 : ∀ (g : Nat → Nat → Int32) (L : Nat → Nat → Int64) (H : Heap) (locs : List Loc) (ls : Array Slot), fX12_part_p90 fu g L = some (res, s9) → va_P G.1 vwCl (zw G MS 51 a g L) H → va_D A (zw G MS 51 a g L) → va_S A s.heap H locs → lv_has ls 2 [(0, .ref (a 0))] → W p l e { frames := 9, cells := 0, slots := 0, locals := 178 } s m [.ref (a 0)].toArray below meth c H locs 0 0 (MQ below ((kQv G (S := Unit) (fun _ => True) (fun _ => zw G MS 51 a s9.1 s9.2)) A) [.ref (a 0)].toArray s 0 0 A) (F0 m 90 ls []) := by
      intro g L H locs ls h hP hD hS hl
      unfold fX12_part_p90 at h
      refine lv_aload_n hx hb dX12_part_90 rfl (lv_at hl 0 rfl) ?_
      obtain ⟨z_, g7, L8, hf9, h⟩ := cb_some h
      refine x_callVi (rest := []) li_X12_236 C (rX12_isGood l G H.size a fu g L z_ (g7, L8) hf9) (kR rfl) hP hD hS 0 12 rfl (zat (by decide) ms_0) rfl hl.1 rfl (Nat.le_of_ble_eq_true rfl) dX12_part_91 (fun x6 u_ H locs e_ hP hD hS => ?_)
      have e_ : x6 = z_ := e_
      subst e_
      have hP : va_P G.1 vwCl (zw G MS 51 a g7 L8) H := hP
      have hD : va_D A (zw G MS 51 a g7 L8) := hD
      have J101 : ∀ (g : Nat → Nat → Int32) (L : Nat → Nat → Int64) (H : Heap) (locs : List Loc) (ls : Array Slot), fX12_part_p101 fu g L = some (res, s9) → va_P G.1 vwCl (zw G MS 51 a g L) H → va_D A (zw G MS 51 a g L) → va_S A s.heap H locs → lv_has ls 2 [] → W p l e { frames := 9, cells := 0, slots := 0, locals := 178 } s m [.ref (a 0)].toArray below meth c H locs 0 0 (MQ below ((kQv G (S := Unit) (fun _ => True) (fun _ => zw G MS 51 a s9.1 s9.2)) A) [.ref (a 0)].toArray s 0 0 A) (F0 m 101 ls []) := by
        intro g L H locs ls h hP hD hS hl
        unfold fX12_part_p101 at h
        exact y_vret C hr hlk hP hD hS h (Nat.le_of_ble_eq_true rfl) (Nat.le_of_ble_eq_true rfl) dX12_part_101
      refine lv_if_eq (x := x6) (tgt := 101) hx hb dX12_part_94 (by decide) (fun c10 => ?_) (fun c10 => ?_)
      ·
        have h := ite_t c10 h
        exact J101 g7 L8 H locs ls h hP hD hS (lv_sub hl [] rfl)
      ·
        have h := ite_e c10 h
        refine lv_aload_n hx hb dX12_part_97 rfl (lv_at hl 0 rfl) ?_
        obtain ⟨z_, g12, L13, hf14, h⟩ := cb_some h
        refine x_callVv (rest := []) li_X12_240 C (rX12_goes l G H.size a fu g7 L8 z_ (g12, L13) hf14) (kR rfl) hP hD hS 0 12 rfl (zat (by decide) ms_0) rfl hl.1 rfl (Nat.le_of_ble_eq_true rfl) dX12_part_98 (fun u_ H locs e_ hP hD hS => ?_)
        have hP : va_P G.1 vwCl (zw G MS 51 a g12 L13) H := hP
        have hD : va_D A (zw G MS 51 a g12 L13) := hD
        exact J101 g12 L13 H locs ls h hP hD hS (lv_sub hl [] rfl)
    refine lv_icmp_ne (x := (g2 0 24)) (y := 2) (tgt := 45) hx hb dX12_part_13 (by decide) (fun c15 => ?_) (fun c15 => ?_)
    ·
      have h := ite_e c15 h
      refine lv_aload_n hx hb dX12_part_45 rfl (lv_at hl 0 rfl) ?_
      refine x_getv (v := .int (g2 0 24)) (Or.inl fl_X12_210) C hP (by decide) ms_0 rfl dX12_part_46 ?_
      refine lv_iconst (v := 1) hx hb dX12_part_49 (by decide) ?_
      refine lv_icmp_ne (x := (g2 0 24)) (y := 1) (tgt := 85) hx hb dX12_part_50 (by decide) (fun c16 => ?_) (fun c16 => ?_)
      ·
        have h := ite_e c16 h
        refine lv_aload_n hx hb dX12_part_85 rfl (lv_at hl 0 rfl) ?_
        refine lv_iconst (v := 1) hx hb dX12_part_86 (by decide) ?_
        obtain ⟨z_, g18, L19, hf20, h⟩ := cb_some h
        refine x_callVv (rest := []) li_X12_243 C (rX12_wrong l G H.size a fu g2 L3 1 z_ (g18, L19) hf20) (kR rfl) hP hD hS 0 12 rfl (zat (by decide) ms_0) rfl hl.1 rfl (Nat.le_of_ble_eq_true rfl) dX12_part_87 (fun u_ H locs e_ hP hD hS => ?_)
        have hP : va_P G.1 vwCl (zw G MS 51 a g18 L19) H := hP
        have hD : va_D A (zw G MS 51 a g18 L19) := hD
        exact J90 g18 L19 H locs ls h hP hD hS (lv_sub hl [0] rfl)
      ·
        have h := ite_t c16 h
        refine lv_aload_n hx hb dX12_part_53 rfl (lv_at hl 0 rfl) ?_
        obtain ⟨z_, g22, L23, hf24, h⟩ := cb_some h
        refine x_callVi (rest := []) li_X12_261 C (rX12_knownWord l G H.size a fu g2 L3 z_ (g22, L23) hf24) (kR rfl) hP hD hS 0 12 rfl (zat (by decide) ms_0) rfl hl.1 rfl (Nat.le_of_ble_eq_true rfl) dX12_part_54 (fun x21 u_ H locs e_ hP hD hS => ?_)
        have e_ : x21 = z_ := e_
        subst e_
        have hP : va_P G.1 vwCl (zw G MS 51 a g22 L23) H := hP
        have hD : va_D A (zw G MS 51 a g22 L23) := hD
        refine lv_istore_n (lv' := [(1, .int x21), (0, .ref (a 0))]) hx hb dX12_part_57 rfl hl (by decide) rfl (fun ls hl => ?_)
        refine lv_iload_n hx hb dX12_part_58 rfl (lv_at hl 0 rfl) ?_
        have J72 : ∀ (v1 : Int32) (g : Nat → Nat → Int32) (L : Nat → Nat → Int64) (H : Heap) (locs : List Loc) (ls : Array Slot), fX12_part_p72 fu v1 g L = some (res, s9) → va_P G.1 vwCl (zw G MS 51 a g L) H → va_D A (zw G MS 51 a g L) → va_S A s.heap H locs → lv_has ls 2 [(0, .ref (a 0)), (1, .int v1)] → W p l e { frames := 9, cells := 0, slots := 0, locals := 178 } s m [.ref (a 0)].toArray below meth c H locs 0 0 (MQ below ((kQv G (S := Unit) (fun _ => True) (fun _ => zw G MS 51 a s9.1 s9.2)) A) [.ref (a 0)].toArray s 0 0 A) (F0 m 72 ls []) := by
          intro v1 g L H locs ls h hP hD hS hl
          unfold fX12_part_p72 at h
          refine lv_aload_n hx hb dX12_part_72 rfl (lv_at hl 0 rfl) ?_
          refine lv_iconst (v := 2) hx hb dX12_part_73 (by decide) ?_
          obtain ⟨z_, g26, L27, hf28, h⟩ := cb_some h
          refine x_callVv (rest := []) li_X12_258 C (rX12_puts l G H.size a fu g L 2 z_ (g26, L27) hf28) (kR rfl) hP hD hS 0 12 rfl (zat (by decide) ms_0) rfl hl.1 rfl (Nat.le_of_ble_eq_true rfl) dX12_part_74 (fun u_ H locs e_ hP hD hS => ?_)
          have hP : va_P G.1 vwCl (zw G MS 51 a g26 L27) H := hP
          have hD : va_D A (zw G MS 51 a g26 L27) := hD
          refine lv_aload_n hx hb dX12_part_77 rfl (lv_at hl 0 rfl) ?_
          refine lv_iload_n hx hb dX12_part_78 rfl (lv_at hl 1 rfl) ?_
          obtain ⟨z_, g30, L31, hf32, h⟩ := cb_some h
          refine x_callVv (rest := []) li_X12_258 C (rX12_puts l G H.size a fu g26 L27 v1 z_ (g30, L31) hf32) (kR rfl) hP hD hS 0 12 rfl (zat (by decide) ms_0) rfl hl.1 rfl (Nat.le_of_ble_eq_true rfl) dX12_part_79 (fun u_ H locs e_ hP hD hS => ?_)
          have hP : va_P G.1 vwCl (zw G MS 51 a g30 L31) H := hP
          have hD : va_D A (zw G MS 51 a g30 L31) := hD
          refine lv_goto (tgt := 90) hx hb dX12_part_82 (by decide) ?_
          exact J90 g30 L31 H locs ls h hP hD hS (lv_sub hl [0] rfl)
        have J67 : ∀ (v1 : Int32) (g : Nat → Nat → Int32) (L : Nat → Nat → Int64) (H : Heap) (locs : List Loc) (ls : Array Slot), fX12_part_p67 fu v1 g L = some (res, s9) → va_P G.1 vwCl (zw G MS 51 a g L) H → va_D A (zw G MS 51 a g L) → va_S A s.heap H locs → lv_has ls 2 [(0, .ref (a 0)), (1, .int v1)] → W p l e { frames := 9, cells := 0, slots := 0, locals := 178 } s m [.ref (a 0)].toArray below meth c H locs 0 0 (MQ below ((kQv G (S := Unit) (fun _ => True) (fun _ => zw G MS 51 a s9.1 s9.2)) A) [.ref (a 0)].toArray s 0 0 A) (F0 m 67 ls []) := by
          intro v1 g L H locs ls h hP hD hS hl
          unfold fX12_part_p67 at h
          refine lv_aload_n hx hb dX12_part_67 rfl (lv_at hl 0 rfl) ?_
          refine lv_iconst (v := 3) hx hb dX12_part_68 (by decide) ?_
          obtain ⟨z_, g34, L35, hf36, h⟩ := cb_some h
          refine x_callVv (rest := []) li_X12_243 C (rX12_wrong l G H.size a fu g L 3 z_ (g34, L35) hf36) (kR rfl) hP hD hS 0 12 rfl (zat (by decide) ms_0) rfl hl.1 rfl (Nat.le_of_ble_eq_true rfl) dX12_part_69 (fun u_ H locs e_ hP hD hS => ?_)
          have hP : va_P G.1 vwCl (zw G MS 51 a g34 L35) H := hP
          have hD : va_D A (zw G MS 51 a g34 L35) := hD
          exact J72 v1 g34 L35 H locs ls h hP hD hS (lv_sub hl [0, 1] rfl)
        refine lv_if_lt (x := x21) (tgt := 67) hx hb dX12_part_59 (by decide) (fun c37 => ?_) (fun c37 => ?_)
        ·
          have h := ite_t c37 h
          exact J67 x21 g22 L23 H locs ls h hP hD hS (lv_sub hl [1, 0] rfl)
        ·
          have h := ite_e c37 h
          refine lv_iload_n hx hb dX12_part_62 rfl (lv_at hl 0 rfl) ?_
          refine lv_iconst (v := 5) hx hb dX12_part_63 (by decide) ?_
          refine lv_icmp_le (x := x21) (y := 5) (tgt := 72) hx hb dX12_part_64 (by decide) (fun c38 => ?_) (fun c38 => ?_)
          ·
            have h := ite_t c38 h
            exact J72 x21 g22 L23 H locs ls h hP hD hS (lv_sub hl [1, 0] rfl)
          ·
            have h := ite_e c38 h
            exact J67 x21 g22 L23 H locs ls h hP hD hS (lv_sub hl [1, 0] rfl)
    ·
      have h := ite_t c15 h
      refine lv_aload_n hx hb dX12_part_16 rfl (lv_at hl 0 rfl) ?_
      refine x_getv (v := .int (g2 0 26)) (Or.inl fl_X12_220) C hP (by decide) ms_0 rfl dX12_part_17 ?_
      refine lv_iconst (v := 4) hx hb dX12_part_20 (by decide) ?_
      have J29 : ∀ (g : Nat → Nat → Int32) (L : Nat → Nat → Int64) (H : Heap) (locs : List Loc) (ls : Array Slot), fX12_part_p29 fu g L = some (res, s9) → va_P G.1 vwCl (zw G MS 51 a g L) H → va_D A (zw G MS 51 a g L) → va_S A s.heap H locs → lv_has ls 2 [(0, .ref (a 0))] → W p l e { frames := 9, cells := 0, slots := 0, locals := 178 } s m [.ref (a 0)].toArray below meth c H locs 0 0 (MQ below ((kQv G (S := Unit) (fun _ => True) (fun _ => zw G MS 51 a s9.1 s9.2)) A) [.ref (a 0)].toArray s 0 0 A) (F0 m 29 ls []) := by
        intro g L H locs ls h hP hD hS hl
        unfold fX12_part_p29 at h
        refine lv_aload_n hx hb dX12_part_29 rfl (lv_at hl 0 rfl) ?_
        refine lv_iconst (v := 1) hx hb dX12_part_30 (by decide) ?_
        obtain ⟨z_, g40, L41, hf42, h⟩ := cb_some h
        refine x_callVv (rest := []) li_X12_258 C (rX12_puts l G H.size a fu g L 1 z_ (g40, L41) hf42) (kR rfl) hP hD hS 0 12 rfl (zat (by decide) ms_0) rfl hl.1 rfl (Nat.le_of_ble_eq_true rfl) dX12_part_31 (fun u_ H locs e_ hP hD hS => ?_)
        have hP : va_P G.1 vwCl (zw G MS 51 a g40 L41) H := hP
        have hD : va_D A (zw G MS 51 a g40 L41) := hD
        refine lv_aload_n hx hb dX12_part_34 rfl (lv_at hl 0 rfl) ?_
        refine lv_aload_n hx hb dX12_part_35 rfl (lv_at hl 0 rfl) ?_
        refine x_getv (v := .int (g40 0 27)) (Or.inl fl_X12_204) C hP (by decide) ms_0 rfl dX12_part_36 ?_
        obtain ⟨z_, g44, L45, hf46, h⟩ := cb_some h
        refine x_callVv (rest := []) li_X12_258 C (rX12_puts l G H.size a fu g40 L41 (g40 0 27) z_ (g44, L45) hf46) (kR rfl) hP hD hS 0 12 rfl (zat (by decide) ms_0) rfl hl.1 rfl (Nat.le_of_ble_eq_true rfl) dX12_part_39 (fun u_ H locs e_ hP hD hS => ?_)
        have hP : va_P G.1 vwCl (zw G MS 51 a g44 L45) H := hP
        have hD : va_D A (zw G MS 51 a g44 L45) := hD
        refine lv_goto (tgt := 90) hx hb dX12_part_42 (by decide) ?_
        exact J90 g44 L45 H locs ls h hP hD hS (lv_sub hl [0] rfl)
      refine lv_icmp_le (x := (g2 0 26)) (y := 4) (tgt := 29) hx hb dX12_part_21 (by decide) (fun c47 => ?_) (fun c47 => ?_)
      ·
        have h := ite_t c47 h
        exact J29 g2 L3 H locs ls h hP hD hS (lv_sub hl [0] rfl)
      ·
        have h := ite_e c47 h
        refine lv_aload_n hx hb dX12_part_24 rfl (lv_at hl 0 rfl) ?_
        refine lv_iconst (v := 2) hx hb dX12_part_25 (by decide) ?_
        obtain ⟨z_, g49, L50, hf51, h⟩ := cb_some h
        refine x_callVv (rest := []) li_X12_243 C (rX12_wrong l G H.size a fu g2 L3 2 z_ (g49, L50) hf51) (kR rfl) hP hD hS 0 12 rfl (zat (by decide) ms_0) rfl hl.1 rfl (Nat.le_of_ble_eq_true rfl) dX12_part_26 (fun u_ H locs e_ hP hD hS => ?_)
        have hP : va_P G.1 vwCl (zw G MS 51 a g49 L50) H := hP
        have hD : va_D A (zw G MS 51 a g49 L50) := hD
        exact J29 g49 L50 H locs ls h hP hD hS (lv_sub hl [0] rfl)
  ·
    have h := ite_t c5 h
    exact y_vret C hr hlk hP hD hS h (Nat.le_of_ble_eq_true rfl) (Nat.le_of_ble_eq_true rfl) dX12_part_7
def fX12_deeper_p61 (fu : Nat) (t0 : Int32) (g : Nat → Nat → Int32) (L : Nat → Nat → Int64) : Option ((Unit) × zS) :=
  cb (fX12_wrong fu t0 g L) (fun x2 g3 L4 =>
  some ((), (g3, L4)))
def fX12_deeper_p56 (fu : Nat) (g : Nat → Nat → Int32) (L : Nat → Nat → Int64) : Option ((Unit) × zS) :=
  fX12_deeper_p61 fu 2 g L
def fX12_deeper (fu : Nat) (g : Nat → Nat → Int32) (L : Nat → Nat → Int64) : Option ((Unit) × zS) :=
  if 6 ≤ (g 0 37) then (if (g 0 24) = 2 then fX12_deeper_p56 fu g L
  else if (g 0 24) = 1 then fX12_deeper_p56 fu g L
  else cb (fX12_isSign fu 40 g L) (fun x8 g9 L10 =>
  if x8 = 0 then fX12_deeper_p61 fu 1 g9 L10
  else fX12_deeper_p56 fu g9 L10))
  else sti g 0 37 ((g 0 37) + 1) (fun g13 =>
  ck (g13 0 37) 9 (sti g13 28 (Int32.toNatClampNeg (g13 0 37)) (vp_nar .boolean 0) (fun g14 =>
  some ((), (g14, L)))))
set_option maxHeartbeats 4000000 in
set_option maxRecDepth 100000 in
theorem rX12_deeper (l : Launch) (G : kG) (sz : Nat) (a : Nat → Nat) (fu : Nat) (g : Nat → Nat → Int32) (L : Nat → Nat → Int64) (res : Unit) (s9 : zS) (h : fX12_deeper fu g L = some (res, s9)) : kM l yX12_deeper cX12_deeper 1 none { frames := 7, cells := 0, slots := 0, locals := 131 } G [.ref (a 0)] (zw G MS 51 a g L) sz (kQv G (S := Unit) (fun _ => True) (fun _ => zw G MS 51 a s9.1 s9.2)) := by
  refine kM.of (by decide) (Nat.le_of_ble_eq_true rfl) ?_
  intro p e s m below meth c A ls H C hr hlk hnm hP hD hS hl
  have C : kC G p s m c cX12_deeper 1 RX12 A := C
  have hx := C.1
  have hb := C.2.1
  have hl : lv_has ls 1 [(0, .ref (a 0))] := hl
  obtain ⟨locs, hlocs⟩ : ∃ q : List Loc, q = [] := ⟨_, rfl⟩
  rw [← hlocs] at hS
  rw [← hlocs]
  unfold fX12_deeper at h
  refine lv_aload_n hx hb dX12_deeper_0 rfl (lv_at hl 0 rfl) ?_
  refine x_getv (v := .int (g 0 37)) (Or.inl fl_X12_265) C hP (by decide) ms_0 rfl dX12_deeper_1 ?_
  refine lv_bipush (v := 6) hx hb dX12_deeper_4 (by decide) ?_
  refine lv_icmp_ge (x := (g 0 37)) (y := 6) (tgt := 30) hx hb dX12_deeper_6 (by decide) (fun c1 => ?_) (fun c1 => ?_)
  ·
    have h := ite_t c1 h
    refine lv_aload_n hx hb dX12_deeper_30 rfl (lv_at hl 0 rfl) ?_
    refine lv_aload_n hx hb dX12_deeper_31 rfl (lv_at hl 0 rfl) ?_
    refine x_getv (v := .int (g 0 24)) (Or.inl fl_X12_210) C hP (by decide) ms_0 rfl dX12_deeper_32 ?_
    refine lv_iconst (v := 2) hx hb dX12_deeper_35 (by decide) ?_
    have J61 : ∀ (t0 : Int32) (g : Nat → Nat → Int32) (L : Nat → Nat → Int64) (H : Heap) (locs : List Loc) (ls : Array Slot), fX12_deeper_p61 fu t0 g L = some (res, s9) → va_P G.1 vwCl (zw G MS 51 a g L) H → va_D A (zw G MS 51 a g L) → va_S A s.heap H locs → lv_has ls 1 [] → W p l e { frames := 7, cells := 0, slots := 0, locals := 131 } s m [.ref (a 0)].toArray below meth c H locs 0 0 (MQ below ((kQv G (S := Unit) (fun _ => True) (fun _ => zw G MS 51 a s9.1 s9.2)) A) [.ref (a 0)].toArray s 0 0 A) (F0 m 61 ls [.int t0, .ref (a 0)]) := by
      intro t0 g L H locs ls h hP hD hS hl
      unfold fX12_deeper_p61 at h
      obtain ⟨z_, g3, L4, hf5, h⟩ := cb_some h
      refine x_callVv (rest := []) li_X12_243 C (rX12_wrong l G H.size a fu g L t0 z_ (g3, L4) hf5) (kR rfl) hP hD hS 0 12 rfl (zat (by decide) ms_0) rfl hl.1 rfl (Nat.le_of_ble_eq_true rfl) dX12_deeper_61 (fun u_ H locs e_ hP hD hS => ?_)
      have hP : va_P G.1 vwCl (zw G MS 51 a g3 L4) H := hP
      have hD : va_D A (zw G MS 51 a g3 L4) := hD
      exact y_vret C hr hlk hP hD hS h (Nat.le_of_ble_eq_true rfl) (Nat.le_of_ble_eq_true rfl) dX12_deeper_64
    have J56 : ∀ (g : Nat → Nat → Int32) (L : Nat → Nat → Int64) (H : Heap) (locs : List Loc) (ls : Array Slot), fX12_deeper_p56 fu g L = some (res, s9) → va_P G.1 vwCl (zw G MS 51 a g L) H → va_D A (zw G MS 51 a g L) → va_S A s.heap H locs → lv_has ls 1 [] → W p l e { frames := 7, cells := 0, slots := 0, locals := 131 } s m [.ref (a 0)].toArray below meth c H locs 0 0 (MQ below ((kQv G (S := Unit) (fun _ => True) (fun _ => zw G MS 51 a s9.1 s9.2)) A) [.ref (a 0)].toArray s 0 0 A) (F0 m 56 ls [.ref (a 0)]) := by
      intro g L H locs ls h hP hD hS hl
      unfold fX12_deeper_p56 at h
      refine lv_iconst (v := 2) hx hb dX12_deeper_56 (by decide) ?_
      refine lv_goto (tgt := 61) hx hb dX12_deeper_57 (by decide) ?_
      exact J61 2 g L H locs ls h hP hD hS (lv_sub hl [] rfl)
    refine lv_icmp_eq (x := (g 0 24)) (y := 2) (tgt := 56) hx hb dX12_deeper_36 (by decide) (fun c6 => ?_) (fun c6 => ?_)
    ·
      have h := ite_t c6 h
      exact J56 g L H locs ls h hP hD hS (lv_sub hl [] rfl)
    ·
      have h := ite_e c6 h
      refine lv_aload_n hx hb dX12_deeper_39 rfl (lv_at hl 0 rfl) ?_
      refine x_getv (v := .int (g 0 24)) (Or.inl fl_X12_210) C hP (by decide) ms_0 rfl dX12_deeper_40 ?_
      refine lv_iconst (v := 1) hx hb dX12_deeper_43 (by decide) ?_
      refine lv_icmp_eq (x := (g 0 24)) (y := 1) (tgt := 56) hx hb dX12_deeper_44 (by decide) (fun c7 => ?_) (fun c7 => ?_)
      ·
        have h := ite_t c7 h
        exact J56 g L H locs ls h hP hD hS (lv_sub hl [] rfl)
      ·
        have h := ite_e c7 h
        refine lv_aload_n hx hb dX12_deeper_47 rfl (lv_at hl 0 rfl) ?_
        refine lv_bipush (v := 40) hx hb dX12_deeper_48 (by decide) ?_
        obtain ⟨z_, g9, L10, hf11, h⟩ := cb_some h
        refine x_callVi (rest := [.ref (a 0)]) li_X12_268 C (rX12_isSign l G H.size a fu g L 40 z_ (g9, L10) hf11) (kR rfl) hP hD hS 0 12 rfl (zat (by decide) ms_0) rfl hl.1 rfl (Nat.le_of_ble_eq_true rfl) dX12_deeper_50 (fun x8 u_ H locs e_ hP hD hS => ?_)
        have e_ : x8 = z_ := e_
        subst e_
        have hP : va_P G.1 vwCl (zw G MS 51 a g9 L10) H := hP
        have hD : va_D A (zw G MS 51 a g9 L10) := hD
        refine lv_if_eq (x := x8) (tgt := 60) hx hb dX12_deeper_53 (by decide) (fun c12 => ?_) (fun c12 => ?_)
        ·
          have h := ite_t c12 h
          refine lv_iconst (v := 1) hx hb dX12_deeper_60 (by decide) ?_
          exact J61 1 g9 L10 H locs ls h hP hD hS (lv_sub hl [] rfl)
        ·
          have h := ite_e c12 h
          exact J56 g9 L10 H locs ls h hP hD hS (lv_sub hl [] rfl)
  ·
    have h := ite_e c1 h
    refine lv_aload_n hx hb dX12_deeper_9 rfl (lv_at hl 0 rfl) ?_
    refine lv_dup hx hb dX12_deeper_10 rfl ?_
    refine x_getv (v := .int (g 0 37)) (Or.inl fl_X12_265) C hP (by decide) ms_0 rfl dX12_deeper_11 ?_
    refine lv_iconst (v := 1) hx hb dX12_deeper_14 (by decide) ?_
    refine lv_iadd hx hb dX12_deeper_15 ?_
    refine y_puti (Or.inl fl_X12_265) ft_X12_37 C hP hD hS (by decide) ms_0 rfl rfl rfl dX12_deeper_16 h (fun g13 H locs h hP hD hS => ?_)
    refine lv_aload_n hx hb dX12_deeper_19 rfl (lv_at hl 0 rfl) ?_
    refine x_getr (Or.inl fl_X12_101) C hP (by decide) ms_0 rfl dX12_deeper_20 ?_
    refine lv_aload_n hx hb dX12_deeper_23 rfl (lv_at hl 0 rfl) ?_
    refine x_getv (v := .int (g13 0 37)) (Or.inl fl_X12_265) C hP (by decide) ms_0 rfl dX12_deeper_24 ?_
    refine lv_iconst (v := 0) hx hb dX12_deeper_27 (by decide) ?_
    refine y_zast C hP hD hS (by decide) ms_28 dX12_deeper_28 h (fun g14 H locs h hP hD hS => ?_)
    exact y_vret C hr hlk hP hD hS h (Nat.le_of_ble_eq_true rfl) (Nat.le_of_ble_eq_true rfl) dX12_deeper_29
def fX12_operand_p120 (fu : Nat) (g : Nat → Nat → Int32) (L : Nat → Nat → Int64) : Option ((Unit) × zS) :=
  cb (fX12_part fu g L) (fun x1 g2 L3 =>
  some ((), (g2, L3)))
def fX12_operand_p117 (fu : Nat) (k4 : Int32 × Int32 × (Nat → Nat → Int32) × (Nat → Nat → Int64) → Option ((Unit) × zS)) (v2 : Int32) (v3 : Int32) (g : Nat → Nat → Int32) (L : Nat → Nat → Int64) : Option ((Unit) × zS) :=
  k4 (v2, v3, g, L)
def fX12_operand_p96 (fu : Nat) (k4 : Int32 × Int32 × (Nat → Nat → Int32) × (Nat → Nat → Int64) → Option ((Unit) × zS)) (v2 : Int32) (t0 : Int32) (g : Nat → Nat → Int32) (L : Nat → Nat → Int64) : Option ((Unit) × zS) :=
  if t0 = 0 then fX12_operand_p117 fu k4 v2 t0 g L
  else cb (fX12_waitsFor fu 14 g L) (fun x20 g21 L22 =>
  cb (fX12_goes fu g21 L22) (fun x24 g25 L26 =>
  cb (fX12_deeper fu g25 L26) (fun x28 g29 L30 =>
  fX12_operand_p117 fu k4 1 t0 g29 L30)))
def fX12_operand_p95 (fu : Nat) (k4 : Int32 × Int32 × (Nat → Nat → Int32) × (Nat → Nat → Int64) → Option ((Unit) × zS)) (v2 : Int32) (g : Nat → Nat → Int32) (L : Nat → Nat → Int64) : Option ((Unit) × zS) :=
  fX12_operand_p96 fu k4 v2 0 g L
def fX12_operand_p75 (fu : Nat) (k4 : Int32 × Int32 × (Nat → Nat → Int32) × (Nat → Nat → Int64) → Option ((Unit) × zS)) (v2 : Int32) (g : Nat → Nat → Int32) (L : Nat → Nat → Int64) : Option ((Unit) × zS) :=
  cb (fX12_isGood fu g L) (fun x15 g16 L17 =>
  if x15 = 0 then fX12_operand_p95 fu k4 v2 g16 L17
  else cb (fX12_isSign fu 40 g16 L17) (fun x33 g34 L35 =>
  if x33 = 0 then fX12_operand_p95 fu k4 v2 g34 L35
  else fX12_operand_p96 fu k4 v2 1 g34 L35))
def fX12_operand_p50 (fu : Nat) (k4 : Int32 × Int32 × (Nat → Nat → Int32) × (Nat → Nat → Int64) → Option ((Unit) × zS)) (k18 : Int32 × (Nat → Nat → Int32) × (Nat → Nat → Int64) → Option ((Unit) × zS)) (v2 : Int32) (v4 : Int32) (g : Nat → Nat → Int32) (L : Nat → Nat → Int64) : Option ((Unit) × zS) :=
  cb (fX12_isGood fu g L) (fun x45 g46 L47 =>
  if x45 = 0 then k18 ((v4 + 1), g46, L47)
  else cb (fX12_waitsFor fu 3 g46 L47) (fun x50 g51 L52 =>
  cb (fX12_goes fu g51 L52) (fun x54 g55 L56 =>
  k18 ((v4 + 1), g55, L56))))
def fX12_operand_s18 (fu : Nat) (k4 : Int32 × Int32 × (Nat → Nat → Int32) × (Nat → Nat → Int64) → Option ((Unit) × zS)) (v2 : Int32) (k18 : Int32 × (Nat → Nat → Int32) × (Nat → Nat → Int64) → Option ((Unit) × zS)) (v4 : Int32) (g : Nat → Nat → Int32) (L : Nat → Nat → Int64) : Option ((Unit) × zS) :=
  cb (fX12_isGood fu g L) (fun x11 g12 L13 =>
  if x11 = 0 then fX12_operand_p75 fu k4 v2 g12 L13
  else if v2 = 0 then fX12_operand_p75 fu k4 v2 g12 L13
  else cb (fX12_knownWord fu g12 L13) (fun x40 g41 L42 =>
  if (x40 : Int32) = 16 then (if (v4 : Int32) = 6 then cb (fX12_wrong fu 2 g41 L42) (fun x59 g60 L61 =>
  fX12_operand_p50 fu k4 k18 v2 v4 g60 L61)
  else fX12_operand_p50 fu k4 k18 v2 v4 g41 L42)
  else fX12_operand_p75 fu k4 v2 g41 L42))
def fX12_operand_l18 (fu : Nat) (k4 : Int32 × Int32 × (Nat → Nat → Int32) × (Nat → Nat → Int64) → Option ((Unit) × zS)) (v2 : Int32) (v4 : Int32) (g : Nat → Nat → Int32) (L : Nat → Nat → Int64) : Option ((Unit) × zS) :=
  whileK (fun k v => fX12_operand_s18 fu k4 v2 k v.1 v.2.1 v.2.2) fu (v4, g, L)
def fX12_operand_s4 (fu : Nat) (k4 : Int32 × Int32 × (Nat → Nat → Int32) × (Nat → Nat → Int64) → Option ((Unit) × zS)) (v2 : Int32) (v3 : Int32) (g : Nat → Nat → Int32) (L : Nat → Nat → Int64) : Option ((Unit) × zS) :=
  if v3 = 0 then fX12_operand_p120 fu g L
  else cb (fX12_isGood fu g L) (fun x6 g7 L8 =>
  if x6 = 0 then fX12_operand_p120 fu g7 L8
  else fX12_operand_l18 fu k4 v2 0 g7 L8)
def fX12_operand_l4 (fu : Nat) (v2 : Int32) (v3 : Int32) (g : Nat → Nat → Int32) (L : Nat → Nat → Int64) : Option ((Unit) × zS) :=
  whileK (fun k v => fX12_operand_s4 fu k v.1 v.2.1 v.2.2.1 v.2.2.2) fu (v2, v3, g, L)
def fX12_operand (fu : Nat) (p1 : Int32) (g : Nat → Nat → Int32) (L : Nat → Nat → Int64) : Option ((Unit) × zS) :=
  fX12_operand_l4 fu p1 1 g L
set_option maxHeartbeats 4000000 in
set_option maxRecDepth 100000 in
theorem rX12_operand (l : Launch) (G : kG) (sz : Nat) (a : Nat → Nat) (fu : Nat) (g : Nat → Nat → Int32) (L : Nat → Nat → Int64) (p1 : Int32) (res : Unit) (s9 : zS) (h : fX12_operand fu p1 g L = some (res, s9)) : kM l yX12_operand cX12_operand 5 none { frames := 10, cells := 0, slots := 0, locals := 199 } G [.ref (a 0), .int p1] (zw G MS 51 a g L) sz (kQv G (S := Unit) (fun _ => True) (fun _ => zw G MS 51 a s9.1 s9.2)) := by
  refine kM.of (by decide) (Nat.le_of_ble_eq_true rfl) ?_
  intro p e s m below meth c A ls H C hr hlk hnm hP hD hS hl
  have C : kC G p s m c cX12_operand 5 RX12 A := C
  have hx := C.1
  have hb := C.2.1
  have hl : lv_has ls 5 [(0, .ref (a 0)), (1, .int p1)] := hl
  obtain ⟨locs, hlocs⟩ : ∃ q : List Loc, q = [] := ⟨_, rfl⟩
  rw [← hlocs] at hS
  rw [← hlocs]
  unfold fX12_operand at h
  refine lv_iload_n hx hb dX12_operand_0 rfl (lv_at hl 1 rfl) ?_
  refine lv_istore_n (lv' := [(2, .int p1), (0, .ref (a 0)), (1, .int p1)]) hx hb dX12_operand_1 rfl hl (by decide) rfl (fun ls hl => ?_)
  refine lv_iconst (v := 1) hx hb dX12_operand_2 (by decide) ?_
  refine lv_istore_n (lv' := [(3, .int 1), (2, .int p1), (0, .ref (a 0)), (1, .int p1)]) hx hb dX12_operand_3 rfl hl (by decide) rfl (fun ls hl => ?_)
  have lp4 : ∀ (_ : True), ∀ (n : Nat) (v : Int32 × Int32 × (Nat → Nat → Int32) × (Nat → Nat → Int64)), whileK (fun k v => fX12_operand_s4 fu k v.1 v.2.1 v.2.2.1 v.2.2.2) n v = some (res, s9) → ∀ (H : Heap) (locs : List Loc) (ls : Array Slot), va_P G.1 vwCl (zw G MS 51 a (v.2.2.1) (v.2.2.2)) H → va_D A (zw G MS 51 a (v.2.2.1) (v.2.2.2)) → va_S A s.heap H locs → lv_has ls 5 [(0, .ref (a 0)), (2, .int (v.1)), (3, .int (v.2.1))] → W p l e { frames := 10, cells := 0, slots := 0, locals := 199 } s m [.ref (a 0), .int p1].toArray below meth c H locs 0 0 (MQ below ((kQv G (S := Unit) (fun _ => True) (fun _ => zw G MS 51 a s9.1 s9.2)) A) [.ref (a 0), .int p1].toArray s 0 0 A) (F0 m 4 ls []) := by
    intro _
    refine while_ind (fun k4 ih4 v h => ?_)
    obtain ⟨v2, v3, g, L⟩ := v
    intro H locs ls hP hD hS hl
    have h : fX12_operand_s4 fu k4 v2 v3 g L = some (res, s9) := h
    have hP : va_P G.1 vwCl (zw G MS 51 a g L) H := hP
    have hD : va_D A (zw G MS 51 a g L) := hD
    have hl : lv_has ls 5 [(0, .ref (a 0)), (2, .int v2), (3, .int v3)] := hl
    show W p l e { frames := 10, cells := 0, slots := 0, locals := 199 } s m [.ref (a 0), .int p1].toArray below meth c H locs 0 0 (MQ below ((kQv G (S := Unit) (fun _ => True) (fun _ => zw G MS 51 a s9.1 s9.2)) A) [.ref (a 0), .int p1].toArray s 0 0 A) (F0 m 4 ls [])
    unfold fX12_operand_s4 at h
    refine lv_iload_n hx hb dX12_operand_4 rfl (lv_at hl 2 rfl) ?_
    have J120 : ∀ (g : Nat → Nat → Int32) (L : Nat → Nat → Int64) (H : Heap) (locs : List Loc) (ls : Array Slot), fX12_operand_p120 fu g L = some (res, s9) → va_P G.1 vwCl (zw G MS 51 a g L) H → va_D A (zw G MS 51 a g L) → va_S A s.heap H locs → lv_has ls 5 [(0, .ref (a 0))] → W p l e { frames := 10, cells := 0, slots := 0, locals := 199 } s m [.ref (a 0), .int p1].toArray below meth c H locs 0 0 (MQ below ((kQv G (S := Unit) (fun _ => True) (fun _ => zw G MS 51 a s9.1 s9.2)) A) [.ref (a 0), .int p1].toArray s 0 0 A) (F0 m 120 ls []) := by
      intro g L H locs ls h hP hD hS hl
      unfold fX12_operand_p120 at h
      refine lv_aload_n hx hb dX12_operand_120 rfl (lv_at hl 0 rfl) ?_
      obtain ⟨z_, g2, L3, hf4, h⟩ := cb_some h
      refine x_callVv (rest := []) li_X12_277 C (rX12_part l G H.size a fu g L z_ (g2, L3) hf4) (kR rfl) hP hD hS 0 12 rfl (zat (by decide) ms_0) rfl hl.1 rfl (Nat.le_of_ble_eq_true rfl) dX12_operand_121 (fun u_ H locs e_ hP hD hS => ?_)
      have hP : va_P G.1 vwCl (zw G MS 51 a g2 L3) H := hP
      have hD : va_D A (zw G MS 51 a g2 L3) := hD
      exact y_vret C hr hlk hP hD hS h (Nat.le_of_ble_eq_true rfl) (Nat.le_of_ble_eq_true rfl) dX12_operand_124
    refine lv_if_eq (x := v3) (tgt := 120) hx hb dX12_operand_5 (by decide) (fun c5 => ?_) (fun c5 => ?_)
    ·
      have h := ite_t c5 h
      exact J120 g L H locs ls h hP hD hS (lv_sub hl [0] rfl)
    ·
      have h := ite_e c5 h
      refine lv_aload_n hx hb dX12_operand_8 rfl (lv_at hl 0 rfl) ?_
      obtain ⟨z_, g7, L8, hf9, h⟩ := cb_some h
      refine x_callVi (rest := []) li_X12_236 C (rX12_isGood l G H.size a fu g L z_ (g7, L8) hf9) (kR rfl) hP hD hS 0 12 rfl (zat (by decide) ms_0) rfl hl.1 rfl (Nat.le_of_ble_eq_true rfl) dX12_operand_9 (fun x6 u_ H locs e_ hP hD hS => ?_)
      have e_ : x6 = z_ := e_
      subst e_
      have hP : va_P G.1 vwCl (zw G MS 51 a g7 L8) H := hP
      have hD : va_D A (zw G MS 51 a g7 L8) := hD
      refine lv_if_eq (x := x6) (tgt := 120) hx hb dX12_operand_12 (by decide) (fun c10 => ?_) (fun c10 => ?_)
      ·
        have h := ite_t c10 h
        exact J120 g7 L8 H locs ls h hP hD hS (lv_sub hl [0] rfl)
      ·
        have h := ite_e c10 h
        refine lv_iconst (v := 0) hx hb dX12_operand_15 (by decide) ?_
        refine lv_istore (lv' := [(4, .int 0), (0, .ref (a 0)), (2, .int v2), (3, .int v3)]) hx hb dX12_operand_16 hl (by decide) rfl (fun ls hl => ?_)
        have lp18 : ∀ (v2 : Int32), ∀ (n : Nat) (v : Int32 × (Nat → Nat → Int32) × (Nat → Nat → Int64)), whileK (fun k v => fX12_operand_s18 fu k4 v2 k v.1 v.2.1 v.2.2) n v = some (res, s9) → ∀ (H : Heap) (locs : List Loc) (ls : Array Slot), va_P G.1 vwCl (zw G MS 51 a (v.2.1) (v.2.2)) H → va_D A (zw G MS 51 a (v.2.1) (v.2.2)) → va_S A s.heap H locs → lv_has ls 5 [(0, .ref (a 0)), (2, .int v2), (4, .int (v.1))] → W p l e { frames := 10, cells := 0, slots := 0, locals := 199 } s m [.ref (a 0), .int p1].toArray below meth c H locs 0 0 (MQ below ((kQv G (S := Unit) (fun _ => True) (fun _ => zw G MS 51 a s9.1 s9.2)) A) [.ref (a 0), .int p1].toArray s 0 0 A) (F0 m 18 ls []) := by
          intro v2
          refine while_ind (fun k18 ih18 v h => ?_)
          obtain ⟨v4, g, L⟩ := v
          intro H locs ls hP hD hS hl
          have h : fX12_operand_s18 fu k4 v2 k18 v4 g L = some (res, s9) := h
          have hP : va_P G.1 vwCl (zw G MS 51 a g L) H := hP
          have hD : va_D A (zw G MS 51 a g L) := hD
          have hl : lv_has ls 5 [(0, .ref (a 0)), (2, .int v2), (4, .int v4)] := hl
          show W p l e { frames := 10, cells := 0, slots := 0, locals := 199 } s m [.ref (a 0), .int p1].toArray below meth c H locs 0 0 (MQ below ((kQv G (S := Unit) (fun _ => True) (fun _ => zw G MS 51 a s9.1 s9.2)) A) [.ref (a 0), .int p1].toArray s 0 0 A) (F0 m 18 ls [])
          unfold fX12_operand_s18 at h
          refine lv_aload_n hx hb dX12_operand_18 rfl (lv_at hl 0 rfl) ?_
          obtain ⟨z_, g12, L13, hf14, h⟩ := cb_some h
          refine x_callVi (rest := []) li_X12_236 C (rX12_isGood l G H.size a fu g L z_ (g12, L13) hf14) (kR rfl) hP hD hS 0 12 rfl (zat (by decide) ms_0) rfl hl.1 rfl (Nat.le_of_ble_eq_true rfl) dX12_operand_19 (fun x11 u_ H locs e_ hP hD hS => ?_)
          have e_ : x11 = z_ := e_
          subst e_
          have hP : va_P G.1 vwCl (zw G MS 51 a g12 L13) H := hP
          have hD : va_D A (zw G MS 51 a g12 L13) := hD
          have J75 : ∀ (v2 : Int32) (g : Nat → Nat → Int32) (L : Nat → Nat → Int64) (H : Heap) (locs : List Loc) (ls : Array Slot), fX12_operand_p75 fu k4 v2 g L = some (res, s9) → va_P G.1 vwCl (zw G MS 51 a g L) H → va_D A (zw G MS 51 a g L) → va_S A s.heap H locs → lv_has ls 5 [(0, .ref (a 0)), (2, .int v2)] → W p l e { frames := 10, cells := 0, slots := 0, locals := 199 } s m [.ref (a 0), .int p1].toArray below meth c H locs 0 0 (MQ below ((kQv G (S := Unit) (fun _ => True) (fun _ => zw G MS 51 a s9.1 s9.2)) A) [.ref (a 0), .int p1].toArray s 0 0 A) (F0 m 75 ls []) := by
            intro v2 g L H locs ls h hP hD hS hl
            unfold fX12_operand_p75 at h
            refine lv_aload_n hx hb dX12_operand_75 rfl (lv_at hl 0 rfl) ?_
            obtain ⟨z_, g16, L17, hf18, h⟩ := cb_some h
            refine x_callVi (rest := []) li_X12_236 C (rX12_isGood l G H.size a fu g L z_ (g16, L17) hf18) (kR rfl) hP hD hS 0 12 rfl (zat (by decide) ms_0) rfl hl.1 rfl (Nat.le_of_ble_eq_true rfl) dX12_operand_76 (fun x15 u_ H locs e_ hP hD hS => ?_)
            have e_ : x15 = z_ := e_
            subst e_
            have hP : va_P G.1 vwCl (zw G MS 51 a g16 L17) H := hP
            have hD : va_D A (zw G MS 51 a g16 L17) := hD
            have J96 : ∀ (v2 : Int32) (t0 : Int32) (g : Nat → Nat → Int32) (L : Nat → Nat → Int64) (H : Heap) (locs : List Loc) (ls : Array Slot), fX12_operand_p96 fu k4 v2 t0 g L = some (res, s9) → va_P G.1 vwCl (zw G MS 51 a g L) H → va_D A (zw G MS 51 a g L) → va_S A s.heap H locs → lv_has ls 5 [(0, .ref (a 0)), (2, .int v2)] → W p l e { frames := 10, cells := 0, slots := 0, locals := 199 } s m [.ref (a 0), .int p1].toArray below meth c H locs 0 0 (MQ below ((kQv G (S := Unit) (fun _ => True) (fun _ => zw G MS 51 a s9.1 s9.2)) A) [.ref (a 0), .int p1].toArray s 0 0 A) (F0 m 96 ls [.int t0]) := by
              intro v2 t0 g L H locs ls h hP hD hS hl
              unfold fX12_operand_p96 at h
              refine lv_istore_n (lv' := [(3, .int t0), (0, .ref (a 0)), (2, .int v2)]) hx hb dX12_operand_96 rfl hl (by decide) rfl (fun ls hl => ?_)
              refine lv_iload_n hx hb dX12_operand_97 rfl (lv_at hl 0 rfl) ?_
              have J117 : ∀ (v2 : Int32) (v3 : Int32) (g : Nat → Nat → Int32) (L : Nat → Nat → Int64) (H : Heap) (locs : List Loc) (ls : Array Slot), fX12_operand_p117 fu k4 v2 v3 g L = some (res, s9) → va_P G.1 vwCl (zw G MS 51 a g L) H → va_D A (zw G MS 51 a g L) → va_S A s.heap H locs → lv_has ls 5 [(0, .ref (a 0)), (2, .int v2), (3, .int v3)] → W p l e { frames := 10, cells := 0, slots := 0, locals := 199 } s m [.ref (a 0), .int p1].toArray below meth c H locs 0 0 (MQ below ((kQv G (S := Unit) (fun _ => True) (fun _ => zw G MS 51 a s9.1 s9.2)) A) [.ref (a 0), .int p1].toArray s 0 0 A) (F0 m 117 ls []) := by
                intro v2 v3 g L H locs ls h hP hD hS hl
                unfold fX12_operand_p117 at h
                refine lv_goto (tgt := 4) hx hb dX12_operand_117 (by decide) ?_
                exact ih4 (v2, v3, g, L) h H locs ls hP hD hS (lv_sub hl [0, 1, 2] rfl)
              refine lv_if_eq (x := t0) (tgt := 117) hx hb dX12_operand_98 (by decide) (fun c19 => ?_) (fun c19 => ?_)
              ·
                have h := ite_t c19 h
                exact J117 v2 t0 g L H locs ls h hP hD hS (lv_sub hl [1, 2, 0] rfl)
              ·
                have h := ite_e c19 h
                refine lv_aload_n hx hb dX12_operand_101 rfl (lv_at hl 1 rfl) ?_
                refine lv_bipush (v := 14) hx hb dX12_operand_102 (by decide) ?_
                obtain ⟨z_, g21, L22, hf23, h⟩ := cb_some h
                refine x_callVv (rest := []) li_X12_271 C (rX12_waitsFor l G H.size a fu g L 14 z_ (g21, L22) hf23) (kR rfl) hP hD hS 0 12 rfl (zat (by decide) ms_0) rfl hl.1 rfl (Nat.le_of_ble_eq_true rfl) dX12_operand_104 (fun u_ H locs e_ hP hD hS => ?_)
                have hP : va_P G.1 vwCl (zw G MS 51 a g21 L22) H := hP
                have hD : va_D A (zw G MS 51 a g21 L22) := hD
                refine lv_aload_n hx hb dX12_operand_107 rfl (lv_at hl 1 rfl) ?_
                obtain ⟨z_, g25, L26, hf27, h⟩ := cb_some h
                refine x_callVv (rest := []) li_X12_240 C (rX12_goes l G H.size a fu g21 L22 z_ (g25, L26) hf27) (kR rfl) hP hD hS 0 12 rfl (zat (by decide) ms_0) rfl hl.1 rfl (Nat.le_of_ble_eq_true rfl) dX12_operand_108 (fun u_ H locs e_ hP hD hS => ?_)
                have hP : va_P G.1 vwCl (zw G MS 51 a g25 L26) H := hP
                have hD : va_D A (zw G MS 51 a g25 L26) := hD
                refine lv_aload_n hx hb dX12_operand_111 rfl (lv_at hl 1 rfl) ?_
                obtain ⟨z_, g29, L30, hf31, h⟩ := cb_some h
                refine x_callVv (rest := []) li_X12_274 C (rX12_deeper l G H.size a fu g25 L26 z_ (g29, L30) hf31) (kR rfl) hP hD hS 0 12 rfl (zat (by decide) ms_0) rfl hl.1 rfl (Nat.le_of_ble_eq_true rfl) dX12_operand_112 (fun u_ H locs e_ hP hD hS => ?_)
                have hP : va_P G.1 vwCl (zw G MS 51 a g29 L30) H := hP
                have hD : va_D A (zw G MS 51 a g29 L30) := hD
                refine lv_iconst (v := 1) hx hb dX12_operand_115 (by decide) ?_
                refine lv_istore_n (lv' := [(2, .int 1), (3, .int t0), (0, .ref (a 0))]) hx hb dX12_operand_116 rfl hl (by decide) rfl (fun ls hl => ?_)
                exact J117 1 t0 g29 L30 H locs ls h hP hD hS (lv_sub hl [2, 0, 1] rfl)
            have J95 : ∀ (v2 : Int32) (g : Nat → Nat → Int32) (L : Nat → Nat → Int64) (H : Heap) (locs : List Loc) (ls : Array Slot), fX12_operand_p95 fu k4 v2 g L = some (res, s9) → va_P G.1 vwCl (zw G MS 51 a g L) H → va_D A (zw G MS 51 a g L) → va_S A s.heap H locs → lv_has ls 5 [(0, .ref (a 0)), (2, .int v2)] → W p l e { frames := 10, cells := 0, slots := 0, locals := 199 } s m [.ref (a 0), .int p1].toArray below meth c H locs 0 0 (MQ below ((kQv G (S := Unit) (fun _ => True) (fun _ => zw G MS 51 a s9.1 s9.2)) A) [.ref (a 0), .int p1].toArray s 0 0 A) (F0 m 95 ls []) := by
              intro v2 g L H locs ls h hP hD hS hl
              unfold fX12_operand_p95 at h
              refine lv_iconst (v := 0) hx hb dX12_operand_95 (by decide) ?_
              exact J96 v2 0 g L H locs ls h hP hD hS (lv_sub hl [0, 1] rfl)
            refine lv_if_eq (x := x15) (tgt := 95) hx hb dX12_operand_79 (by decide) (fun c32 => ?_) (fun c32 => ?_)
            ·
              have h := ite_t c32 h
              exact J95 v2 g16 L17 H locs ls h hP hD hS (lv_sub hl [0, 1] rfl)
            ·
              have h := ite_e c32 h
              refine lv_aload_n hx hb dX12_operand_82 rfl (lv_at hl 0 rfl) ?_
              refine lv_bipush (v := 40) hx hb dX12_operand_83 (by decide) ?_
              obtain ⟨z_, g34, L35, hf36, h⟩ := cb_some h
              refine x_callVi (rest := []) li_X12_268 C (rX12_isSign l G H.size a fu g16 L17 40 z_ (g34, L35) hf36) (kR rfl) hP hD hS 0 12 rfl (zat (by decide) ms_0) rfl hl.1 rfl (Nat.le_of_ble_eq_true rfl) dX12_operand_85 (fun x33 u_ H locs e_ hP hD hS => ?_)
              have e_ : x33 = z_ := e_
              subst e_
              have hP : va_P G.1 vwCl (zw G MS 51 a g34 L35) H := hP
              have hD : va_D A (zw G MS 51 a g34 L35) := hD
              refine lv_if_eq (x := x33) (tgt := 95) hx hb dX12_operand_88 (by decide) (fun c37 => ?_) (fun c37 => ?_)
              ·
                have h := ite_t c37 h
                exact J95 v2 g34 L35 H locs ls h hP hD hS (lv_sub hl [0, 1] rfl)
              ·
                have h := ite_e c37 h
                refine lv_iconst (v := 1) hx hb dX12_operand_91 (by decide) ?_
                refine lv_goto (tgt := 96) hx hb dX12_operand_92 (by decide) ?_
                exact J96 v2 1 g34 L35 H locs ls h hP hD hS (lv_sub hl [0, 1] rfl)
          refine lv_if_eq (x := x11) (tgt := 75) hx hb dX12_operand_22 (by decide) (fun c38 => ?_) (fun c38 => ?_)
          ·
            have h := ite_t c38 h
            exact J75 v2 g12 L13 H locs ls h hP hD hS (lv_sub hl [0, 1] rfl)
          ·
            have h := ite_e c38 h
            refine lv_iload_n hx hb dX12_operand_25 rfl (lv_at hl 1 rfl) ?_
            refine lv_if_eq (x := v2) (tgt := 75) hx hb dX12_operand_26 (by decide) (fun c39 => ?_) (fun c39 => ?_)
            ·
              have h := ite_t c39 h
              exact J75 v2 g12 L13 H locs ls h hP hD hS (lv_sub hl [0, 1] rfl)
            ·
              have h := ite_e c39 h
              refine lv_aload_n hx hb dX12_operand_29 rfl (lv_at hl 0 rfl) ?_
              obtain ⟨z_, g41, L42, hf43, h⟩ := cb_some h
              refine x_callVi (rest := []) li_X12_261 C (rX12_knownWord l G H.size a fu g12 L13 z_ (g41, L42) hf43) (kR rfl) hP hD hS 0 12 rfl (zat (by decide) ms_0) rfl hl.1 rfl (Nat.le_of_ble_eq_true rfl) dX12_operand_30 (fun x40 u_ H locs e_ hP hD hS => ?_)
              have e_ : x40 = z_ := e_
              subst e_
              have hP : va_P G.1 vwCl (zw G MS 51 a g41 L42) H := hP
              have hD : va_D A (zw G MS 51 a g41 L42) := hD
              refine lv_bipush (v := 16) hx hb dX12_operand_33 (by decide) ?_
              refine lv_icmp_ne (x := x40) (y := 16) (tgt := 75) hx hb dX12_operand_35 (by decide) (fun c44 => ?_) (fun c44 => ?_)
              ·
                have h := ite_e c44 h
                exact J75 v2 g41 L42 H locs ls h hP hD hS (lv_sub hl [0, 1] rfl)
              ·
                have h := ite_t c44 h
                refine lv_iload hx hb dX12_operand_38 (lv_at hl 2 rfl) ?_
                refine lv_bipush (v := 6) hx hb dX12_operand_40 (by decide) ?_
                have J50 : ∀ (v4 : Int32) (g : Nat → Nat → Int32) (L : Nat → Nat → Int64) (H : Heap) (locs : List Loc) (ls : Array Slot), fX12_operand_p50 fu k4 k18 v2 v4 g L = some (res, s9) → va_P G.1 vwCl (zw G MS 51 a g L) H → va_D A (zw G MS 51 a g L) → va_S A s.heap H locs → lv_has ls 5 [(0, .ref (a 0)), (2, .int v2), (4, .int v4)] → W p l e { frames := 10, cells := 0, slots := 0, locals := 199 } s m [.ref (a 0), .int p1].toArray below meth c H locs 0 0 (MQ below ((kQv G (S := Unit) (fun _ => True) (fun _ => zw G MS 51 a s9.1 s9.2)) A) [.ref (a 0), .int p1].toArray s 0 0 A) (F0 m 50 ls []) := by
                  intro v4 g L H locs ls h hP hD hS hl
                  unfold fX12_operand_p50 at h
                  refine lv_iinc (v := (v4 + 1)) (lv' := [(4, .int (v4 + 1)), (0, .ref (a 0)), (2, .int v2)]) hx hb dX12_operand_50 hl (k := 2) rfl rfl (by decide) rfl (fun ls hl => ?_)
                  refine lv_aload_n hx hb dX12_operand_53 rfl (lv_at hl 1 rfl) ?_
                  obtain ⟨z_, g46, L47, hf48, h⟩ := cb_some h
                  refine x_callVi (rest := []) li_X12_236 C (rX12_isGood l G H.size a fu g L z_ (g46, L47) hf48) (kR rfl) hP hD hS 0 12 rfl (zat (by decide) ms_0) rfl hl.1 rfl (Nat.le_of_ble_eq_true rfl) dX12_operand_54 (fun x45 u_ H locs e_ hP hD hS => ?_)
                  have e_ : x45 = z_ := e_
                  subst e_
                  have hP : va_P G.1 vwCl (zw G MS 51 a g46 L47) H := hP
                  have hD : va_D A (zw G MS 51 a g46 L47) := hD
                  refine lv_if_ne (x := x45) (tgt := 63) hx hb dX12_operand_57 (by decide) (fun c49 => ?_) (fun c49 => ?_)
                  ·
                    have h := ite_e c49 h
                    refine lv_aload_n hx hb dX12_operand_63 rfl (lv_at hl 1 rfl) ?_
                    refine lv_iconst (v := 3) hx hb dX12_operand_64 (by decide) ?_
                    obtain ⟨z_, g51, L52, hf53, h⟩ := cb_some h
                    refine x_callVv (rest := []) li_X12_271 C (rX12_waitsFor l G H.size a fu g46 L47 3 z_ (g51, L52) hf53) (kR rfl) hP hD hS 0 12 rfl (zat (by decide) ms_0) rfl hl.1 rfl (Nat.le_of_ble_eq_true rfl) dX12_operand_65 (fun u_ H locs e_ hP hD hS => ?_)
                    have hP : va_P G.1 vwCl (zw G MS 51 a g51 L52) H := hP
                    have hD : va_D A (zw G MS 51 a g51 L52) := hD
                    refine lv_aload_n hx hb dX12_operand_68 rfl (lv_at hl 1 rfl) ?_
                    obtain ⟨z_, g55, L56, hf57, h⟩ := cb_some h
                    refine x_callVv (rest := []) li_X12_240 C (rX12_goes l G H.size a fu g51 L52 z_ (g55, L56) hf57) (kR rfl) hP hD hS 0 12 rfl (zat (by decide) ms_0) rfl hl.1 rfl (Nat.le_of_ble_eq_true rfl) dX12_operand_69 (fun u_ H locs e_ hP hD hS => ?_)
                    have hP : va_P G.1 vwCl (zw G MS 51 a g55 L56) H := hP
                    have hD : va_D A (zw G MS 51 a g55 L56) := hD
                    refine lv_goto (tgt := 18) hx hb dX12_operand_72 (by decide) ?_
                    exact ih18 ((v4 + 1), g55, L56) h H locs ls hP hD hS (lv_sub hl [1, 2, 0] rfl)
                  ·
                    have h := ite_t c49 h
                    refine lv_goto (tgt := 18) hx hb dX12_operand_60 (by decide) ?_
                    exact ih18 ((v4 + 1), g46, L47) h H locs ls hP hD hS (lv_sub hl [1, 2, 0] rfl)
                refine lv_icmp_ne (x := v4) (y := 6) (tgt := 50) hx hb dX12_operand_42 (by decide) (fun c58 => ?_) (fun c58 => ?_)
                ·
                  have h := ite_e c58 h
                  exact J50 v4 g41 L42 H locs ls h hP hD hS (lv_sub hl [0, 1, 2] rfl)
                ·
                  have h := ite_t c58 h
                  refine lv_aload_n hx hb dX12_operand_45 rfl (lv_at hl 0 rfl) ?_
                  refine lv_iconst (v := 2) hx hb dX12_operand_46 (by decide) ?_
                  obtain ⟨z_, g60, L61, hf62, h⟩ := cb_some h
                  refine x_callVv (rest := []) li_X12_243 C (rX12_wrong l G H.size a fu g41 L42 2 z_ (g60, L61) hf62) (kR rfl) hP hD hS 0 12 rfl (zat (by decide) ms_0) rfl hl.1 rfl (Nat.le_of_ble_eq_true rfl) dX12_operand_47 (fun u_ H locs e_ hP hD hS => ?_)
                  have hP : va_P G.1 vwCl (zw G MS 51 a g60 L61) H := hP
                  have hD : va_D A (zw G MS 51 a g60 L61) := hD
                  exact J50 v4 g60 L61 H locs ls h hP hD hS (lv_sub hl [0, 1, 2] rfl)
        exact lp18 v2 fu (0, g7, L8) h H locs ls hP hD hS (lv_sub hl [1, 2, 0] rfl)
  exact lp4 trivial fu (p1, 1, g, L) h H locs ls hP hD hS (lv_sub hl [2, 1, 0] rfl)
def fX12_isOpened_p38 (fu : Nat) (t0 : Int32) (g : Nat → Nat → Int32) (L : Nat → Nat → Int64) : Option ((Int32) × zS) :=
  ckb t0 (some (t0, (g, L)))
def fX12_isOpened_p29 (fu : Nat) (v1 : Int32) (g : Nat → Nat → Int32) (L : Nat → Nat → Int64) : Option ((Int32) × zS) :=
  if v1 < 0 then fX12_isOpened_p38 fu 0 g L
  else fX12_isOpened_p38 fu 1 g L
def fX12_isOpened_s7 (fu : Nat) (k7 : Int32 × (Nat → Nat → Int32) × (Nat → Nat → Int64) → Option ((Int32) × zS)) (v1 : Int32) (g : Nat → Nat → Int32) (L : Nat → Nat → Int64) : Option ((Int32) × zS) :=
  if v1 < 0 then fX12_isOpened_p29 fu v1 g L
  else ck v1 950 (
  cb (fX12_isOpen fu (g 27 (Int32.toNatClampNeg v1)) g L) (fun x4 g5 L6 =>
  if x4 = 0 then k7 ((v1 + (-1)), g5, L6)
  else fX12_isOpened_p29 fu v1 g5 L6))
def fX12_isOpened_l7 (fu : Nat) (v1 : Int32) (g : Nat → Nat → Int32) (L : Nat → Nat → Int64) : Option ((Int32) × zS) :=
  whileK (fun k v => fX12_isOpened_s7 fu k v.1 v.2.1 v.2.2) fu (v1, g, L)
def fX12_isOpened (fu : Nat) (g : Nat → Nat → Int32) (L : Nat → Nat → Int64) : Option ((Int32) × zS) :=
  lti ((g 0 36) - 1) (fun x1 =>
  fX12_isOpened_l7 fu x1 g L)
set_option maxHeartbeats 4000000 in
set_option maxRecDepth 100000 in
theorem rX12_isOpened (l : Launch) (G : kG) (sz : Nat) (a : Nat → Nat) (fu : Nat) (g : Nat → Nat → Int32) (L : Nat → Nat → Int64) (res : Int32) (s9 : zS) (h : fX12_isOpened fu g L = some (res, s9)) : kM l yX12_isOpened cX12_isOpened 2 (some .boolean) { frames := 7, cells := 0, slots := 0, locals := 130 } G [.ref (a 0)] (zw G MS 51 a g L) sz (kQi G (S := Unit) (fun r' _ => r' = res) (fun _ => zw G MS 51 a s9.1 s9.2)) := by
  refine kM.of (by decide) (Nat.le_of_ble_eq_true rfl) ?_
  intro p e s m below meth c A ls H C hr hlk hnm hP hD hS hl
  have C : kC G p s m c cX12_isOpened 2 RX12 A := C
  have hx := C.1
  have hb := C.2.1
  have hl : lv_has ls 2 [(0, .ref (a 0))] := hl
  obtain ⟨locs, hlocs⟩ : ∃ q : List Loc, q = [] := ⟨_, rfl⟩
  rw [← hlocs] at hS
  rw [← hlocs]
  unfold fX12_isOpened at h
  refine lv_aload_n hx hb dX12_isOpened_0 rfl (lv_at hl 0 rfl) ?_
  refine x_getv (v := .int (g 0 36)) (Or.inl fl_X12_249) C hP (by decide) ms_0 rfl dX12_isOpened_1 ?_
  refine lv_iconst (v := 1) hx hb dX12_isOpened_4 (by decide) ?_
  refine lv_isub hx hb dX12_isOpened_5 ?_
  refine y_let h (fun x1 h => ?_)
  refine lv_istore_n (lv' := [(1, .int x1), (0, .ref (a 0))]) hx hb dX12_isOpened_6 rfl hl (by decide) rfl (fun ls hl => ?_)
  have lp7 : ∀ (_ : True), ∀ (n : Nat) (v : Int32 × (Nat → Nat → Int32) × (Nat → Nat → Int64)), whileK (fun k v => fX12_isOpened_s7 fu k v.1 v.2.1 v.2.2) n v = some (res, s9) → ∀ (H : Heap) (locs : List Loc) (ls : Array Slot), va_P G.1 vwCl (zw G MS 51 a (v.2.1) (v.2.2)) H → va_D A (zw G MS 51 a (v.2.1) (v.2.2)) → va_S A s.heap H locs → lv_has ls 2 [(0, .ref (a 0)), (1, .int (v.1))] → W p l e { frames := 7, cells := 0, slots := 0, locals := 130 } s m [.ref (a 0)].toArray below meth c H locs 0 0 (MQ below ((kQi G (S := Unit) (fun r' _ => r' = res) (fun _ => zw G MS 51 a s9.1 s9.2)) A) [.ref (a 0)].toArray s 0 0 A) (F0 m 7 ls []) := by
    intro _
    refine while_ind (fun k7 ih7 v h => ?_)
    obtain ⟨v1, g, L⟩ := v
    intro H locs ls hP hD hS hl
    have h : fX12_isOpened_s7 fu k7 v1 g L = some (res, s9) := h
    have hP : va_P G.1 vwCl (zw G MS 51 a g L) H := hP
    have hD : va_D A (zw G MS 51 a g L) := hD
    have hl : lv_has ls 2 [(0, .ref (a 0)), (1, .int v1)] := hl
    show W p l e { frames := 7, cells := 0, slots := 0, locals := 130 } s m [.ref (a 0)].toArray below meth c H locs 0 0 (MQ below ((kQi G (S := Unit) (fun r' _ => r' = res) (fun _ => zw G MS 51 a s9.1 s9.2)) A) [.ref (a 0)].toArray s 0 0 A) (F0 m 7 ls [])
    unfold fX12_isOpened_s7 at h
    refine lv_iload_n hx hb dX12_isOpened_7 rfl (lv_at hl 1 rfl) ?_
    have J29 : ∀ (v1 : Int32) (g : Nat → Nat → Int32) (L : Nat → Nat → Int64) (H : Heap) (locs : List Loc) (ls : Array Slot), fX12_isOpened_p29 fu v1 g L = some (res, s9) → va_P G.1 vwCl (zw G MS 51 a g L) H → va_D A (zw G MS 51 a g L) → va_S A s.heap H locs → lv_has ls 2 [(1, .int v1)] → W p l e { frames := 7, cells := 0, slots := 0, locals := 130 } s m [.ref (a 0)].toArray below meth c H locs 0 0 (MQ below ((kQi G (S := Unit) (fun r' _ => r' = res) (fun _ => zw G MS 51 a s9.1 s9.2)) A) [.ref (a 0)].toArray s 0 0 A) (F0 m 29 ls []) := by
      intro v1 g L H locs ls h hP hD hS hl
      unfold fX12_isOpened_p29 at h
      refine lv_iload_n hx hb dX12_isOpened_29 rfl (lv_at hl 0 rfl) ?_
      have J38 : ∀ (t0 : Int32) (g : Nat → Nat → Int32) (L : Nat → Nat → Int64) (H : Heap) (locs : List Loc) (ls : Array Slot), fX12_isOpened_p38 fu t0 g L = some (res, s9) → va_P G.1 vwCl (zw G MS 51 a g L) H → va_D A (zw G MS 51 a g L) → va_S A s.heap H locs → lv_has ls 2 [] → W p l e { frames := 7, cells := 0, slots := 0, locals := 130 } s m [.ref (a 0)].toArray below meth c H locs 0 0 (MQ below ((kQi G (S := Unit) (fun r' _ => r' = res) (fun _ => zw G MS 51 a s9.1 s9.2)) A) [.ref (a 0)].toArray s 0 0 A) (F0 m 38 ls [.int t0]) := by
        intro t0 g L H locs ls h hP hD hS hl
        unfold fX12_isOpened_p38 at h
        exact y_zret C hr hlk hP hD hS h (Nat.le_of_ble_eq_true rfl) (Nat.le_of_ble_eq_true rfl) dX12_isOpened_38
      refine lv_if_lt (x := v1) (tgt := 37) hx hb dX12_isOpened_30 (by decide) (fun c2 => ?_) (fun c2 => ?_)
      ·
        have h := ite_t c2 h
        refine lv_iconst (v := 0) hx hb dX12_isOpened_37 (by decide) ?_
        exact J38 0 g L H locs ls h hP hD hS (lv_sub hl [] rfl)
      ·
        have h := ite_e c2 h
        refine lv_iconst (v := 1) hx hb dX12_isOpened_33 (by decide) ?_
        refine lv_goto (tgt := 38) hx hb dX12_isOpened_34 (by decide) ?_
        exact J38 1 g L H locs ls h hP hD hS (lv_sub hl [] rfl)
    refine lv_if_lt (x := v1) (tgt := 29) hx hb dX12_isOpened_8 (by decide) (fun c3 => ?_) (fun c3 => ?_)
    ·
      have h := ite_t c3 h
      exact J29 v1 g L H locs ls h hP hD hS (lv_sub hl [1] rfl)
    ·
      have h := ite_e c3 h
      refine lv_aload_n hx hb dX12_isOpened_11 rfl (lv_at hl 0 rfl) ?_
      refine x_getr (Or.inl fl_X12_98) C hP (by decide) ms_0 rfl dX12_isOpened_12 ?_
      refine lv_iload_n hx hb dX12_isOpened_15 rfl (lv_at hl 1 rfl) ?_
      refine y_ald C hP (by decide) ms_27 dX12_isOpened_16 h (fun h => ?_)
      obtain ⟨z_, g5, L6, hf7, h⟩ := cb_some h
      refine x_callSi (rest := []) li_X12_252 C (rX12_isOpen l G H.size a fu g L (g 27 (Int32.toNatClampNeg v1)) z_ (g5, L6) hf7) (kR rfl) hP hD hS rfl hl.1 rfl (Nat.le_of_ble_eq_true rfl) dX12_isOpened_17 (fun x4 u_ H locs e_ hP hD hS => ?_)
      have e_ : x4 = z_ := e_
      subst e_
      have hP : va_P G.1 vwCl (zw G MS 51 a g5 L6) H := hP
      have hD : va_D A (zw G MS 51 a g5 L6) := hD
      refine lv_if_ne (x := x4) (tgt := 29) hx hb dX12_isOpened_20 (by decide) (fun c8 => ?_) (fun c8 => ?_)
      ·
        have h := ite_e c8 h
        exact J29 v1 g5 L6 H locs ls h hP hD hS (lv_sub hl [1] rfl)
      ·
        have h := ite_t c8 h
        refine lv_iinc (v := (v1 + (-1))) (lv' := [(1, .int (v1 + (-1))), (0, .ref (a 0))]) hx hb dX12_isOpened_23 hl (k := 1) rfl rfl (by decide) rfl (fun ls hl => ?_)
        refine lv_goto (tgt := 7) hx hb dX12_isOpened_26 (by decide) ?_
        exact ih7 ((v1 + (-1)), g5, L6) h H locs ls hP hD hS (lv_sub hl [1, 0] rfl)
  exact lp7 trivial fu (x1, g, L) h H locs ls hP hD hS (lv_sub hl [1, 0] rfl)
def fX12_closes (fu : Nat) (g : Nat → Nat → Int32) (L : Nat → Nat → Int64) : Option ((Unit) × zS) :=
  cb (fX12_drops fu 0 g L) (fun x1 g2 L3 =>
  sti g2 0 36 ((g2 0 36) - 1) (fun g5 =>
  sti g5 0 37 ((g5 0 37) - 1) (fun g6 =>
  cb (fX12_goes fu g6 L3) (fun x7 g8 L9 =>
  some ((), (g8, L9))))))
set_option maxHeartbeats 4000000 in
set_option maxRecDepth 100000 in
theorem rX12_closes (l : Launch) (G : kG) (sz : Nat) (a : Nat → Nat) (fu : Nat) (g : Nat → Nat → Int32) (L : Nat → Nat → Int64) (res : Unit) (s9 : zS) (h : fX12_closes fu g L = some (res, s9)) : kM l yX12_closes cX12_closes 1 none { frames := 8, cells := 0, slots := 0, locals := 152 } G [.ref (a 0)] (zw G MS 51 a g L) sz (kQv G (S := Unit) (fun _ => True) (fun _ => zw G MS 51 a s9.1 s9.2)) := by
  refine kM.of (by decide) (Nat.le_of_ble_eq_true rfl) ?_
  intro p e s m below meth c A ls H C hr hlk hnm hP hD hS hl
  have C : kC G p s m c cX12_closes 1 RX12 A := C
  have hx := C.1
  have hb := C.2.1
  have hl : lv_has ls 1 [(0, .ref (a 0))] := hl
  obtain ⟨locs, hlocs⟩ : ∃ q : List Loc, q = [] := ⟨_, rfl⟩
  rw [← hlocs] at hS
  rw [← hlocs]
  unfold fX12_closes at h
  refine lv_aload_n hx hb dX12_closes_0 rfl (lv_at hl 0 rfl) ?_
  refine lv_iconst (v := 0) hx hb dX12_closes_1 (by decide) ?_
  obtain ⟨z_, g2, L3, hf4, h⟩ := cb_some h
  refine x_callVv (rest := []) li_X12_280 C (rX12_drops l G H.size a fu g L 0 z_ (g2, L3) hf4) (kR rfl) hP hD hS 0 12 rfl (zat (by decide) ms_0) rfl hl.1 rfl (Nat.le_of_ble_eq_true rfl) dX12_closes_2 (fun u_ H locs e_ hP hD hS => ?_)
  have hP : va_P G.1 vwCl (zw G MS 51 a g2 L3) H := hP
  have hD : va_D A (zw G MS 51 a g2 L3) := hD
  refine lv_aload_n hx hb dX12_closes_5 rfl (lv_at hl 0 rfl) ?_
  refine lv_dup hx hb dX12_closes_6 rfl ?_
  refine x_getv (v := .int (g2 0 36)) (Or.inl fl_X12_249) C hP (by decide) ms_0 rfl dX12_closes_7 ?_
  refine lv_iconst (v := 1) hx hb dX12_closes_10 (by decide) ?_
  refine lv_isub hx hb dX12_closes_11 ?_
  refine y_puti (Or.inl fl_X12_249) ft_X12_36 C hP hD hS (by decide) ms_0 rfl rfl rfl dX12_closes_12 h (fun g5 H locs h hP hD hS => ?_)
  refine lv_aload_n hx hb dX12_closes_15 rfl (lv_at hl 0 rfl) ?_
  refine lv_dup hx hb dX12_closes_16 rfl ?_
  refine x_getv (v := .int (g5 0 37)) (Or.inl fl_X12_265) C hP (by decide) ms_0 rfl dX12_closes_17 ?_
  refine lv_iconst (v := 1) hx hb dX12_closes_20 (by decide) ?_
  refine lv_isub hx hb dX12_closes_21 ?_
  refine y_puti (Or.inl fl_X12_265) ft_X12_37 C hP hD hS (by decide) ms_0 rfl rfl rfl dX12_closes_22 h (fun g6 H locs h hP hD hS => ?_)
  refine lv_aload_n hx hb dX12_closes_25 rfl (lv_at hl 0 rfl) ?_
  obtain ⟨z_, g8, L9, hf10, h⟩ := cb_some h
  refine x_callVv (rest := []) li_X12_240 C (rX12_goes l G H.size a fu g6 L3 z_ (g8, L9) hf10) (kR rfl) hP hD hS 0 12 rfl (zat (by decide) ms_0) rfl hl.1 rfl (Nat.le_of_ble_eq_true rfl) dX12_closes_26 (fun u_ H locs e_ hP hD hS => ?_)
  have hP : va_P G.1 vwCl (zw G MS 51 a g8 L9) H := hP
  have hD : va_D A (zw G MS 51 a g8 L9) := hD
  exact y_vret C hr hlk hP hD hS h (Nat.le_of_ble_eq_true rfl) (Nat.le_of_ble_eq_true rfl) dX12_closes_29
def fX12_expression_p345 (fu : Nat) (g : Nat → Nat → Int32) (L : Nat → Nat → Int64) : Option ((Unit) × zS) :=
  cb (fX12_drops fu 0 g L) (fun x20 g21 L22 =>
  cb (fX12_puts fu 0 g21 L22) (fun x24 g25 L26 =>
  some ((), (g25, L26))))
def fX12_expression_p325 (fu : Nat) (g : Nat → Nat → Int32) (L : Nat → Nat → Int64) : Option ((Unit) × zS) :=
  cb (fX12_isGood fu g L) (fun x16 g17 L18 =>
  if x16 = 0 then fX12_expression_p345 fu g17 L18
  else if (g17 0 37) ≤ 1 then fX12_expression_p345 fu g17 L18
  else cb (fX12_wrong fu 1 g17 L18) (fun x30 g31 L32 =>
  fX12_expression_p345 fu g31 L32))
def fX12_expression_p322 (fu : Nat) (k29 : Int32 × (Nat → Nat → Int32) × (Nat → Nat → Int64) → Option ((Unit) × zS)) (v1 : Int32) (g : Nat → Nat → Int32) (L : Nat → Nat → Int64) : Option ((Unit) × zS) :=
  k29 (v1, g, L)
def fX12_expression_p84 (fu : Nat) (k29 : Int32 × (Nat → Nat → Int32) × (Nat → Nat → Int64) → Option ((Unit) × zS)) (v1 : Int32) (t0 : Int32) (g : Nat → Nat → Int32) (L : Nat → Nat → Int64) : Option ((Unit) × zS) :=
  cb (fX12_waitsFor fu t0 g L) (fun x48 g49 L50 =>
  ck (g49 0 37) 9 (sti g49 28 (Int32.toNatClampNeg (g49 0 37)) (vp_nar .boolean 0) (fun g52 =>
  cb (fX12_goes fu g52 L50) (fun x53 g54 L55 =>
  cb (fX12_operand fu 1 g54 L55) (fun x57 g58 L59 =>
  fX12_expression_p322 fu k29 v1 g58 L59)))))
def fX12_expression_p69 (fu : Nat) (k29 : Int32 × (Nat → Nat → Int32) × (Nat → Nat → Int64) → Option ((Unit) × zS)) (v1 : Int32) (v2 : Int32) (t0 : Int32) (g : Nat → Nat → Int32) (L : Nat → Nat → Int64) : Option ((Unit) × zS) :=
  cb (fX12_drops fu t0 g L) (fun x44 g45 L46 =>
  if (v2 : Int32) = 14 then fX12_expression_p84 fu k29 v1 4 g45 L46
  else fX12_expression_p84 fu k29 v1 5 g45 L46)
def fX12_expression_p57 (fu : Nat) (k29 : Int32 × (Nat → Nat → Int32) × (Nat → Nat → Int64) → Option ((Unit) × zS)) (v1 : Int32) (v2 : Int32) (g : Nat → Nat → Int32) (L : Nat → Nat → Int64) : Option ((Unit) × zS) :=
  if (v2 : Int32) = 14 then fX12_expression_p69 fu k29 v1 v2 2 g L
  else fX12_expression_p69 fu k29 v1 v2 1 g L
def fX12_expression_p226 (fu : Nat) (k29 : Int32 × (Nat → Nat → Int32) × (Nat → Nat → Int64) → Option ((Unit) × zS)) (v1 : Int32) (t0 : Int32) (g : Nat → Nat → Int32) (L : Nat → Nat → Int64) : Option ((Unit) × zS) :=
  cb (fX12_waitsFor fu t0 g L) (fun x81 g82 L83 =>
  cb (fX12_goes fu g82 L83) (fun x85 g86 L87 =>
  cb (fX12_operand fu 0 g86 L87) (fun x89 g90 L91 =>
  fX12_expression_p322 fu k29 v1 g90 L91)))
def fX12_expression_p204 (fu : Nat) (k29 : Int32 × (Nat → Nat → Int32) × (Nat → Nat → Int64) → Option ((Unit) × zS)) (v1 : Int32) (g : Nat → Nat → Int32) (L : Nat → Nat → Int64) : Option ((Unit) × zS) :=
  cb (fX12_drops fu 5 g L) (fun x73 g74 L75 =>
  cb (fX12_isSign fu 43 g74 L75) (fun x77 g78 L79 =>
  if x77 = 0 then fX12_expression_p226 fu k29 v1 9 g78 L79
  else fX12_expression_p226 fu k29 v1 8 g78 L79))
def fX12_expression_p282 (fu : Nat) (k29 : Int32 × (Nat → Nat → Int32) × (Nat → Nat → Int64) → Option ((Unit) × zS)) (v1 : Int32) (t0 : Int32) (g : Nat → Nat → Int32) (L : Nat → Nat → Int64) : Option ((Unit) × zS) :=
  cb (fX12_waitsFor fu t0 g L) (fun x112 g113 L114 =>
  cb (fX12_goes fu g113 L114) (fun x116 g117 L118 =>
  cb (fX12_operand fu 0 g117 L118) (fun x120 g121 L122 =>
  fX12_expression_p322 fu k29 v1 g121 L122)))
def fX12_expression_p259 (fu : Nat) (k29 : Int32 × (Nat → Nat → Int32) × (Nat → Nat → Int64) → Option ((Unit) × zS)) (v1 : Int32) (g : Nat → Nat → Int32) (L : Nat → Nat → Int64) : Option ((Unit) × zS) :=
  cb (fX12_drops fu 6 g L) (fun x104 g105 L106 =>
  cb (fX12_isSign fu 42 g105 L106) (fun x108 g109 L110 =>
  if x108 = 0 then fX12_expression_p282 fu k29 v1 11 g109 L110
  else fX12_expression_p282 fu k29 v1 10 g109 L110))
def fX12_expression_p320 (fu : Nat) (k29 : Int32 × (Nat → Nat → Int32) × (Nat → Nat → Int64) → Option ((Unit) × zS)) (g : Nat → Nat → Int32) (L : Nat → Nat → Int64) : Option ((Unit) × zS) :=
  fX12_expression_p322 fu k29 0 g L
def fX12_expression_p186 (fu : Nat) (k29 : Int32 × (Nat → Nat → Int32) × (Nat → Nat → Int64) → Option ((Unit) × zS)) (v1 : Int32) (g : Nat → Nat → Int32) (L : Nat → Nat → Int64) : Option ((Unit) × zS) :=
  cb (fX12_isSign fu 43 g L) (fun x69 g70 L71 =>
  if x69 = 0 then cb (fX12_isSign fu 45 g70 L71) (fun x95 g96 L97 =>
  if x95 = 0 then cb (fX12_isSign fu 42 g96 L97) (fun x100 g101 L102 =>
  if x100 = 0 then cb (fX12_isSign fu 47 g101 L102) (fun x126 g127 L128 =>
  if x126 = 0 then cb (fX12_isSign fu 41 g127 L128) (fun x131 g132 L133 =>
  if x131 = 0 then fX12_expression_p320 fu k29 g132 L133
  else cb (fX12_isOpened fu g132 L133) (fun x136 g137 L138 =>
  if x136 = 0 then fX12_expression_p320 fu k29 g137 L138
  else cb (fX12_closes fu g137 L138) (fun x141 g142 L143 =>
  fX12_expression_p322 fu k29 v1 g142 L143)))
  else fX12_expression_p259 fu k29 v1 g127 L128)
  else fX12_expression_p259 fu k29 v1 g101 L102)
  else fX12_expression_p204 fu k29 v1 g96 L97)
  else fX12_expression_p204 fu k29 v1 g70 L71)
def fX12_expression_p161 (fu : Nat) (k29 : Int32 × (Nat → Nat → Int32) × (Nat → Nat → Int64) → Option ((Unit) × zS)) (v1 : Int32) (t0 : Int32) (g : Nat → Nat → Int32) (L : Nat → Nat → Int64) : Option ((Unit) × zS) :=
  cb (fX12_waitsFor fu t0 g L) (fun x154 g155 L156 =>
  ck (g155 0 37) 9 (sti g155 28 (Int32.toNatClampNeg (g155 0 37)) (vp_nar .boolean 1) (fun g158 =>
  cb (fX12_goes fu g158 L156) (fun x159 g160 L161 =>
  cb (fX12_operand fu 0 g160 L161) (fun x163 g164 L165 =>
  fX12_expression_p322 fu k29 v1 g164 L165)))))
def fX12_expression_p127 (fu : Nat) (k29 : Int32 × (Nat → Nat → Int32) × (Nat → Nat → Int64) → Option ((Unit) × zS)) (v1 : Int32) (g : Nat → Nat → Int32) (L : Nat → Nat → Int64) : Option ((Unit) × zS) :=
  ck (g 0 37) 9 (
  if (g 28 (Int32.toNatClampNeg (g 0 37))) = 0 then cb (fX12_drops fu 4 g L) (fun x146 g147 L148 =>
  cb (fX12_isSign fu 60 g147 L148) (fun x150 g151 L152 =>
  if x150 = 0 then fX12_expression_p161 fu k29 v1 7 g151 L152
  else fX12_expression_p161 fu k29 v1 6 g151 L152))
  else fX12_expression_p186 fu k29 v1 g L)
def fX12_expression_s29 (fu : Nat) (k29 : Int32 × (Nat → Nat → Int32) × (Nat → Nat → Int64) → Option ((Unit) × zS)) (v1 : Int32) (g : Nat → Nat → Int32) (L : Nat → Nat → Int64) : Option ((Unit) × zS) :=
  if v1 = 0 then fX12_expression_p325 fu g L
  else cb (fX12_isGood fu g L) (fun x35 g36 L37 =>
  if x35 = 0 then fX12_expression_p325 fu g36 L37
  else cb (fX12_knownWord fu g36 L37) (fun x40 g41 L42 =>
  if (x40 : Int32) = 14 then fX12_expression_p57 fu k29 v1 x40 g41 L42
  else if (x40 : Int32) = 15 then fX12_expression_p57 fu k29 v1 x40 g41 L42
  else cb (fX12_isSign fu 60 g41 L42) (fun x65 g66 L67 =>
  if x65 = 0 then cb (fX12_isSign fu 61 g66 L67) (fun x169 g170 L171 =>
  if x169 = 0 then fX12_expression_p186 fu k29 v1 g170 L171
  else fX12_expression_p127 fu k29 v1 g170 L171)
  else fX12_expression_p127 fu k29 v1 g66 L67)))
def fX12_expression_l29 (fu : Nat) (v1 : Int32) (g : Nat → Nat → Int32) (L : Nat → Nat → Int64) : Option ((Unit) × zS) :=
  whileK (fun k v => fX12_expression_s29 fu k v.1 v.2.1 v.2.2) fu (v1, g, L)
def fX12_expression (fu : Nat) (g : Nat → Nat → Int32) (L : Nat → Nat → Int64) : Option ((Unit) × zS) :=
  cb (fX12_isGood fu g L) (fun x1 g2 L3 =>
  if x1 = 0 then some ((), (g2, L3))
  else sti g2 0 36 0 (fun g6 =>
  sti g6 0 37 0 (fun g7 =>
  cb (fX12_deeper fu g7 L3) (fun x8 g9 L10 =>
  cb (fX12_operand fu 1 g9 L10) (fun x12 g13 L14 =>
  fX12_expression_l29 fu 1 g13 L14)))))
set_option maxHeartbeats 4000000 in
set_option maxRecDepth 100000 in
theorem rX12_expression (l : Launch) (G : kG) (sz : Nat) (a : Nat → Nat) (fu : Nat) (g : Nat → Nat → Int32) (L : Nat → Nat → Int64) (res : Unit) (s9 : zS) (h : fX12_expression fu g L = some (res, s9)) : kM l yX12_expression cX12_expression 3 none { frames := 11, cells := 0, slots := 0, locals := 223 } G [.ref (a 0)] (zw G MS 51 a g L) sz (kQv G (S := Unit) (fun _ => True) (fun _ => zw G MS 51 a s9.1 s9.2)) := by
  refine kM.of (by decide) (Nat.le_of_ble_eq_true rfl) ?_
  intro p e s m below meth c A ls H C hr hlk hnm hP hD hS hl
  have C : kC G p s m c cX12_expression 3 RX12 A := C
  have hx := C.1
  have hb := C.2.1
  have hl : lv_has ls 3 [(0, .ref (a 0))] := hl
  obtain ⟨locs, hlocs⟩ : ∃ q : List Loc, q = [] := ⟨_, rfl⟩
  rw [← hlocs] at hS
  rw [← hlocs]
  unfold fX12_expression at h
  refine lv_aload_n hx hb dX12_expression_0 rfl (lv_at hl 0 rfl) ?_
  obtain ⟨z_, g2, L3, hf4, h⟩ := cb_some h
  refine x_callVi (rest := []) li_X12_236 C (rX12_isGood l G H.size a fu g L z_ (g2, L3) hf4) (kR rfl) hP hD hS 0 12 rfl (zat (by decide) ms_0) rfl hl.1 rfl (Nat.le_of_ble_eq_true rfl) dX12_expression_1 (fun x1 u_ H locs e_ hP hD hS => ?_)
  have e_ : x1 = z_ := e_
  subst e_
  have hP : va_P G.1 vwCl (zw G MS 51 a g2 L3) H := hP
  have hD : va_D A (zw G MS 51 a g2 L3) := hD
  refine lv_if_ne (x := x1) (tgt := 8) hx hb dX12_expression_4 (by decide) (fun c5 => ?_) (fun c5 => ?_)
  ·
    have h := ite_e c5 h
    refine lv_aload_n hx hb dX12_expression_8 rfl (lv_at hl 0 rfl) ?_
    refine lv_iconst (v := 0) hx hb dX12_expression_9 (by decide) ?_
    refine y_puti (Or.inl fl_X12_249) ft_X12_36 C hP hD hS (by decide) ms_0 rfl rfl rfl dX12_expression_10 h (fun g6 H locs h hP hD hS => ?_)
    refine lv_aload_n hx hb dX12_expression_13 rfl (lv_at hl 0 rfl) ?_
    refine lv_iconst (v := 0) hx hb dX12_expression_14 (by decide) ?_
    refine y_puti (Or.inl fl_X12_265) ft_X12_37 C hP hD hS (by decide) ms_0 rfl rfl rfl dX12_expression_15 h (fun g7 H locs h hP hD hS => ?_)
    refine lv_aload_n hx hb dX12_expression_18 rfl (lv_at hl 0 rfl) ?_
    obtain ⟨z_, g9, L10, hf11, h⟩ := cb_some h
    refine x_callVv (rest := []) li_X12_274 C (rX12_deeper l G H.size a fu g7 L3 z_ (g9, L10) hf11) (kR rfl) hP hD hS 0 12 rfl (zat (by decide) ms_0) rfl hl.1 rfl (Nat.le_of_ble_eq_true rfl) dX12_expression_19 (fun u_ H locs e_ hP hD hS => ?_)
    have hP : va_P G.1 vwCl (zw G MS 51 a g9 L10) H := hP
    have hD : va_D A (zw G MS 51 a g9 L10) := hD
    refine lv_aload_n hx hb dX12_expression_22 rfl (lv_at hl 0 rfl) ?_
    refine lv_iconst (v := 1) hx hb dX12_expression_23 (by decide) ?_
    obtain ⟨z_, g13, L14, hf15, h⟩ := cb_some h
    refine x_callVv (rest := []) li_X12_283 C (rX12_operand l G H.size a fu g9 L10 1 z_ (g13, L14) hf15) (kR rfl) hP hD hS 0 12 rfl (zat (by decide) ms_0) rfl hl.1 rfl (Nat.le_of_ble_eq_true rfl) dX12_expression_24 (fun u_ H locs e_ hP hD hS => ?_)
    have hP : va_P G.1 vwCl (zw G MS 51 a g13 L14) H := hP
    have hD : va_D A (zw G MS 51 a g13 L14) := hD
    refine lv_iconst (v := 1) hx hb dX12_expression_27 (by decide) ?_
    refine lv_istore_n (lv' := [(1, .int 1), (0, .ref (a 0))]) hx hb dX12_expression_28 rfl hl (by decide) rfl (fun ls hl => ?_)
    have lp29 : ∀ (_ : True), ∀ (n : Nat) (v : Int32 × (Nat → Nat → Int32) × (Nat → Nat → Int64)), whileK (fun k v => fX12_expression_s29 fu k v.1 v.2.1 v.2.2) n v = some (res, s9) → ∀ (H : Heap) (locs : List Loc) (ls : Array Slot), va_P G.1 vwCl (zw G MS 51 a (v.2.1) (v.2.2)) H → va_D A (zw G MS 51 a (v.2.1) (v.2.2)) → va_S A s.heap H locs → lv_has ls 3 [(0, .ref (a 0)), (1, .int (v.1))] → W p l e { frames := 11, cells := 0, slots := 0, locals := 223 } s m [.ref (a 0)].toArray below meth c H locs 0 0 (MQ below ((kQv G (S := Unit) (fun _ => True) (fun _ => zw G MS 51 a s9.1 s9.2)) A) [.ref (a 0)].toArray s 0 0 A) (F0 m 29 ls []) := by
      intro _
      refine while_ind (fun k29 ih29 v h => ?_)
      obtain ⟨v1, g, L⟩ := v
      intro H locs ls hP hD hS hl
      have h : fX12_expression_s29 fu k29 v1 g L = some (res, s9) := h
      have hP : va_P G.1 vwCl (zw G MS 51 a g L) H := hP
      have hD : va_D A (zw G MS 51 a g L) := hD
      have hl : lv_has ls 3 [(0, .ref (a 0)), (1, .int v1)] := hl
      show W p l e { frames := 11, cells := 0, slots := 0, locals := 223 } s m [.ref (a 0)].toArray below meth c H locs 0 0 (MQ below ((kQv G (S := Unit) (fun _ => True) (fun _ => zw G MS 51 a s9.1 s9.2)) A) [.ref (a 0)].toArray s 0 0 A) (F0 m 29 ls [])
      unfold fX12_expression_s29 at h
      refine lv_iload_n hx hb dX12_expression_29 rfl (lv_at hl 1 rfl) ?_
      have J325 : ∀ (g : Nat → Nat → Int32) (L : Nat → Nat → Int64) (H : Heap) (locs : List Loc) (ls : Array Slot), fX12_expression_p325 fu g L = some (res, s9) → va_P G.1 vwCl (zw G MS 51 a g L) H → va_D A (zw G MS 51 a g L) → va_S A s.heap H locs → lv_has ls 3 [(0, .ref (a 0))] → W p l e { frames := 11, cells := 0, slots := 0, locals := 223 } s m [.ref (a 0)].toArray below meth c H locs 0 0 (MQ below ((kQv G (S := Unit) (fun _ => True) (fun _ => zw G MS 51 a s9.1 s9.2)) A) [.ref (a 0)].toArray s 0 0 A) (F0 m 325 ls []) := by
        intro g L H locs ls h hP hD hS hl
        unfold fX12_expression_p325 at h
        refine lv_aload_n hx hb dX12_expression_325 rfl (lv_at hl 0 rfl) ?_
        obtain ⟨z_, g17, L18, hf19, h⟩ := cb_some h
        refine x_callVi (rest := []) li_X12_236 C (rX12_isGood l G H.size a fu g L z_ (g17, L18) hf19) (kR rfl) hP hD hS 0 12 rfl (zat (by decide) ms_0) rfl hl.1 rfl (Nat.le_of_ble_eq_true rfl) dX12_expression_326 (fun x16 u_ H locs e_ hP hD hS => ?_)
        have e_ : x16 = z_ := e_
        subst e_
        have hP : va_P G.1 vwCl (zw G MS 51 a g17 L18) H := hP
        have hD : va_D A (zw G MS 51 a g17 L18) := hD
        have J345 : ∀ (g : Nat → Nat → Int32) (L : Nat → Nat → Int64) (H : Heap) (locs : List Loc) (ls : Array Slot), fX12_expression_p345 fu g L = some (res, s9) → va_P G.1 vwCl (zw G MS 51 a g L) H → va_D A (zw G MS 51 a g L) → va_S A s.heap H locs → lv_has ls 3 [(0, .ref (a 0))] → W p l e { frames := 11, cells := 0, slots := 0, locals := 223 } s m [.ref (a 0)].toArray below meth c H locs 0 0 (MQ below ((kQv G (S := Unit) (fun _ => True) (fun _ => zw G MS 51 a s9.1 s9.2)) A) [.ref (a 0)].toArray s 0 0 A) (F0 m 345 ls []) := by
          intro g L H locs ls h hP hD hS hl
          unfold fX12_expression_p345 at h
          refine lv_aload_n hx hb dX12_expression_345 rfl (lv_at hl 0 rfl) ?_
          refine lv_iconst (v := 0) hx hb dX12_expression_346 (by decide) ?_
          obtain ⟨z_, g21, L22, hf23, h⟩ := cb_some h
          refine x_callVv (rest := []) li_X12_280 C (rX12_drops l G H.size a fu g L 0 z_ (g21, L22) hf23) (kR rfl) hP hD hS 0 12 rfl (zat (by decide) ms_0) rfl hl.1 rfl (Nat.le_of_ble_eq_true rfl) dX12_expression_347 (fun u_ H locs e_ hP hD hS => ?_)
          have hP : va_P G.1 vwCl (zw G MS 51 a g21 L22) H := hP
          have hD : va_D A (zw G MS 51 a g21 L22) := hD
          refine lv_aload_n hx hb dX12_expression_350 rfl (lv_at hl 0 rfl) ?_
          refine lv_iconst (v := 0) hx hb dX12_expression_351 (by decide) ?_
          obtain ⟨z_, g25, L26, hf27, h⟩ := cb_some h
          refine x_callVv (rest := []) li_X12_258 C (rX12_puts l G H.size a fu g21 L22 0 z_ (g25, L26) hf27) (kR rfl) hP hD hS 0 12 rfl (zat (by decide) ms_0) rfl hl.1 rfl (Nat.le_of_ble_eq_true rfl) dX12_expression_352 (fun u_ H locs e_ hP hD hS => ?_)
          have hP : va_P G.1 vwCl (zw G MS 51 a g25 L26) H := hP
          have hD : va_D A (zw G MS 51 a g25 L26) := hD
          exact y_vret C hr hlk hP hD hS h (Nat.le_of_ble_eq_true rfl) (Nat.le_of_ble_eq_true rfl) dX12_expression_355
        refine lv_if_eq (x := x16) (tgt := 345) hx hb dX12_expression_329 (by decide) (fun c28 => ?_) (fun c28 => ?_)
        ·
          have h := ite_t c28 h
          exact J345 g17 L18 H locs ls h hP hD hS (lv_sub hl [0] rfl)
        ·
          have h := ite_e c28 h
          refine lv_aload_n hx hb dX12_expression_332 rfl (lv_at hl 0 rfl) ?_
          refine x_getv (v := .int (g17 0 37)) (Or.inl fl_X12_265) C hP (by decide) ms_0 rfl dX12_expression_333 ?_
          refine lv_iconst (v := 1) hx hb dX12_expression_336 (by decide) ?_
          refine lv_icmp_le (x := (g17 0 37)) (y := 1) (tgt := 345) hx hb dX12_expression_337 (by decide) (fun c29 => ?_) (fun c29 => ?_)
          ·
            have h := ite_t c29 h
            exact J345 g17 L18 H locs ls h hP hD hS (lv_sub hl [0] rfl)
          ·
            have h := ite_e c29 h
            refine lv_aload_n hx hb dX12_expression_340 rfl (lv_at hl 0 rfl) ?_
            refine lv_iconst (v := 1) hx hb dX12_expression_341 (by decide) ?_
            obtain ⟨z_, g31, L32, hf33, h⟩ := cb_some h
            refine x_callVv (rest := []) li_X12_243 C (rX12_wrong l G H.size a fu g17 L18 1 z_ (g31, L32) hf33) (kR rfl) hP hD hS 0 12 rfl (zat (by decide) ms_0) rfl hl.1 rfl (Nat.le_of_ble_eq_true rfl) dX12_expression_342 (fun u_ H locs e_ hP hD hS => ?_)
            have hP : va_P G.1 vwCl (zw G MS 51 a g31 L32) H := hP
            have hD : va_D A (zw G MS 51 a g31 L32) := hD
            exact J345 g31 L32 H locs ls h hP hD hS (lv_sub hl [0] rfl)
      refine lv_if_eq (x := v1) (tgt := 325) hx hb dX12_expression_30 (by decide) (fun c34 => ?_) (fun c34 => ?_)
      ·
        have h := ite_t c34 h
        exact J325 g L H locs ls h hP hD hS (lv_sub hl [0] rfl)
      ·
        have h := ite_e c34 h
        refine lv_aload_n hx hb dX12_expression_33 rfl (lv_at hl 0 rfl) ?_
        obtain ⟨z_, g36, L37, hf38, h⟩ := cb_some h
        refine x_callVi (rest := []) li_X12_236 C (rX12_isGood l G H.size a fu g L z_ (g36, L37) hf38) (kR rfl) hP hD hS 0 12 rfl (zat (by decide) ms_0) rfl hl.1 rfl (Nat.le_of_ble_eq_true rfl) dX12_expression_34 (fun x35 u_ H locs e_ hP hD hS => ?_)
        have e_ : x35 = z_ := e_
        subst e_
        have hP : va_P G.1 vwCl (zw G MS 51 a g36 L37) H := hP
        have hD : va_D A (zw G MS 51 a g36 L37) := hD
        refine lv_if_eq (x := x35) (tgt := 325) hx hb dX12_expression_37 (by decide) (fun c39 => ?_) (fun c39 => ?_)
        ·
          have h := ite_t c39 h
          exact J325 g36 L37 H locs ls h hP hD hS (lv_sub hl [0] rfl)
        ·
          have h := ite_e c39 h
          refine lv_aload_n hx hb dX12_expression_40 rfl (lv_at hl 0 rfl) ?_
          obtain ⟨z_, g41, L42, hf43, h⟩ := cb_some h
          refine x_callVi (rest := []) li_X12_261 C (rX12_knownWord l G H.size a fu g36 L37 z_ (g41, L42) hf43) (kR rfl) hP hD hS 0 12 rfl (zat (by decide) ms_0) rfl hl.1 rfl (Nat.le_of_ble_eq_true rfl) dX12_expression_41 (fun x40 u_ H locs e_ hP hD hS => ?_)
          have e_ : x40 = z_ := e_
          subst e_
          have hP : va_P G.1 vwCl (zw G MS 51 a g41 L42) H := hP
          have hD : va_D A (zw G MS 51 a g41 L42) := hD
          refine lv_istore_n (lv' := [(2, .int x40), (0, .ref (a 0)), (1, .int v1)]) hx hb dX12_expression_44 rfl hl (by decide) rfl (fun ls hl => ?_)
          refine lv_iload_n hx hb dX12_expression_45 rfl (lv_at hl 0 rfl) ?_
          refine lv_bipush (v := 14) hx hb dX12_expression_46 (by decide) ?_
          have J322 : ∀ (v1 : Int32) (g : Nat → Nat → Int32) (L : Nat → Nat → Int64) (H : Heap) (locs : List Loc) (ls : Array Slot), fX12_expression_p322 fu k29 v1 g L = some (res, s9) → va_P G.1 vwCl (zw G MS 51 a g L) H → va_D A (zw G MS 51 a g L) → va_S A s.heap H locs → lv_has ls 3 [(0, .ref (a 0)), (1, .int v1)] → W p l e { frames := 11, cells := 0, slots := 0, locals := 223 } s m [.ref (a 0)].toArray below meth c H locs 0 0 (MQ below ((kQv G (S := Unit) (fun _ => True) (fun _ => zw G MS 51 a s9.1 s9.2)) A) [.ref (a 0)].toArray s 0 0 A) (F0 m 322 ls []) := by
            intro v1 g L H locs ls h hP hD hS hl
            unfold fX12_expression_p322 at h
            refine lv_goto (tgt := 29) hx hb dX12_expression_322 (by decide) ?_
            exact ih29 (v1, g, L) h H locs ls hP hD hS (lv_sub hl [0, 1] rfl)
          have J57 : ∀ (v1 : Int32) (v2 : Int32) (g : Nat → Nat → Int32) (L : Nat → Nat → Int64) (H : Heap) (locs : List Loc) (ls : Array Slot), fX12_expression_p57 fu k29 v1 v2 g L = some (res, s9) → va_P G.1 vwCl (zw G MS 51 a g L) H → va_D A (zw G MS 51 a g L) → va_S A s.heap H locs → lv_has ls 3 [(0, .ref (a 0)), (1, .int v1), (2, .int v2)] → W p l e { frames := 11, cells := 0, slots := 0, locals := 223 } s m [.ref (a 0)].toArray below meth c H locs 0 0 (MQ below ((kQv G (S := Unit) (fun _ => True) (fun _ => zw G MS 51 a s9.1 s9.2)) A) [.ref (a 0)].toArray s 0 0 A) (F0 m 57 ls []) := by
            intro v1 v2 g L H locs ls h hP hD hS hl
            unfold fX12_expression_p57 at h
            refine lv_aload_n hx hb dX12_expression_57 rfl (lv_at hl 0 rfl) ?_
            refine lv_iload_n hx hb dX12_expression_58 rfl (lv_at hl 2 rfl) ?_
            refine lv_bipush (v := 14) hx hb dX12_expression_59 (by decide) ?_
            have J69 : ∀ (v1 : Int32) (v2 : Int32) (t0 : Int32) (g : Nat → Nat → Int32) (L : Nat → Nat → Int64) (H : Heap) (locs : List Loc) (ls : Array Slot), fX12_expression_p69 fu k29 v1 v2 t0 g L = some (res, s9) → va_P G.1 vwCl (zw G MS 51 a g L) H → va_D A (zw G MS 51 a g L) → va_S A s.heap H locs → lv_has ls 3 [(0, .ref (a 0)), (1, .int v1), (2, .int v2)] → W p l e { frames := 11, cells := 0, slots := 0, locals := 223 } s m [.ref (a 0)].toArray below meth c H locs 0 0 (MQ below ((kQv G (S := Unit) (fun _ => True) (fun _ => zw G MS 51 a s9.1 s9.2)) A) [.ref (a 0)].toArray s 0 0 A) (F0 m 69 ls [.int t0, .ref (a 0)]) := by
              intro v1 v2 t0 g L H locs ls h hP hD hS hl
              unfold fX12_expression_p69 at h
              obtain ⟨z_, g45, L46, hf47, h⟩ := cb_some h
              refine x_callVv (rest := []) li_X12_280 C (rX12_drops l G H.size a fu g L t0 z_ (g45, L46) hf47) (kR rfl) hP hD hS 0 12 rfl (zat (by decide) ms_0) rfl hl.1 rfl (Nat.le_of_ble_eq_true rfl) dX12_expression_69 (fun u_ H locs e_ hP hD hS => ?_)
              have hP : va_P G.1 vwCl (zw G MS 51 a g45 L46) H := hP
              have hD : va_D A (zw G MS 51 a g45 L46) := hD
              refine lv_aload_n hx hb dX12_expression_72 rfl (lv_at hl 0 rfl) ?_
              refine lv_iload_n hx hb dX12_expression_73 rfl (lv_at hl 2 rfl) ?_
              refine lv_bipush (v := 14) hx hb dX12_expression_74 (by decide) ?_
              have J84 : ∀ (v1 : Int32) (t0 : Int32) (g : Nat → Nat → Int32) (L : Nat → Nat → Int64) (H : Heap) (locs : List Loc) (ls : Array Slot), fX12_expression_p84 fu k29 v1 t0 g L = some (res, s9) → va_P G.1 vwCl (zw G MS 51 a g L) H → va_D A (zw G MS 51 a g L) → va_S A s.heap H locs → lv_has ls 3 [(0, .ref (a 0)), (1, .int v1)] → W p l e { frames := 11, cells := 0, slots := 0, locals := 223 } s m [.ref (a 0)].toArray below meth c H locs 0 0 (MQ below ((kQv G (S := Unit) (fun _ => True) (fun _ => zw G MS 51 a s9.1 s9.2)) A) [.ref (a 0)].toArray s 0 0 A) (F0 m 84 ls [.int t0, .ref (a 0)]) := by
                intro v1 t0 g L H locs ls h hP hD hS hl
                unfold fX12_expression_p84 at h
                obtain ⟨z_, g49, L50, hf51, h⟩ := cb_some h
                refine x_callVv (rest := []) li_X12_271 C (rX12_waitsFor l G H.size a fu g L t0 z_ (g49, L50) hf51) (kR rfl) hP hD hS 0 12 rfl (zat (by decide) ms_0) rfl hl.1 rfl (Nat.le_of_ble_eq_true rfl) dX12_expression_84 (fun u_ H locs e_ hP hD hS => ?_)
                have hP : va_P G.1 vwCl (zw G MS 51 a g49 L50) H := hP
                have hD : va_D A (zw G MS 51 a g49 L50) := hD
                refine lv_aload_n hx hb dX12_expression_87 rfl (lv_at hl 0 rfl) ?_
                refine x_getr (Or.inl fl_X12_101) C hP (by decide) ms_0 rfl dX12_expression_88 ?_
                refine lv_aload_n hx hb dX12_expression_91 rfl (lv_at hl 0 rfl) ?_
                refine x_getv (v := .int (g49 0 37)) (Or.inl fl_X12_265) C hP (by decide) ms_0 rfl dX12_expression_92 ?_
                refine lv_iconst (v := 0) hx hb dX12_expression_95 (by decide) ?_
                refine y_zast C hP hD hS (by decide) ms_28 dX12_expression_96 h (fun g52 H locs h hP hD hS => ?_)
                refine lv_aload_n hx hb dX12_expression_97 rfl (lv_at hl 0 rfl) ?_
                obtain ⟨z_, g54, L55, hf56, h⟩ := cb_some h
                refine x_callVv (rest := []) li_X12_240 C (rX12_goes l G H.size a fu g52 L50 z_ (g54, L55) hf56) (kR rfl) hP hD hS 0 12 rfl (zat (by decide) ms_0) rfl hl.1 rfl (Nat.le_of_ble_eq_true rfl) dX12_expression_98 (fun u_ H locs e_ hP hD hS => ?_)
                have hP : va_P G.1 vwCl (zw G MS 51 a g54 L55) H := hP
                have hD : va_D A (zw G MS 51 a g54 L55) := hD
                refine lv_aload_n hx hb dX12_expression_101 rfl (lv_at hl 0 rfl) ?_
                refine lv_iconst (v := 1) hx hb dX12_expression_102 (by decide) ?_
                obtain ⟨z_, g58, L59, hf60, h⟩ := cb_some h
                refine x_callVv (rest := []) li_X12_283 C (rX12_operand l G H.size a fu g54 L55 1 z_ (g58, L59) hf60) (kR rfl) hP hD hS 0 12 rfl (zat (by decide) ms_0) rfl hl.1 rfl (Nat.le_of_ble_eq_true rfl) dX12_expression_103 (fun u_ H locs e_ hP hD hS => ?_)
                have hP : va_P G.1 vwCl (zw G MS 51 a g58 L59) H := hP
                have hD : va_D A (zw G MS 51 a g58 L59) := hD
                refine lv_goto (tgt := 322) hx hb dX12_expression_106 (by decide) ?_
                exact J322 v1 g58 L59 H locs ls h hP hD hS (lv_sub hl [0, 1] rfl)
              refine lv_icmp_ne (x := v2) (y := 14) (tgt := 83) hx hb dX12_expression_76 (by decide) (fun c61 => ?_) (fun c61 => ?_)
              ·
                have h := ite_e c61 h
                refine lv_iconst (v := 5) hx hb dX12_expression_83 (by decide) ?_
                exact J84 v1 5 g45 L46 H locs ls h hP hD hS (lv_sub hl [0, 1] rfl)
              ·
                have h := ite_t c61 h
                refine lv_iconst (v := 4) hx hb dX12_expression_79 (by decide) ?_
                refine lv_goto (tgt := 84) hx hb dX12_expression_80 (by decide) ?_
                exact J84 v1 4 g45 L46 H locs ls h hP hD hS (lv_sub hl [0, 1] rfl)
            refine lv_icmp_ne (x := v2) (y := 14) (tgt := 68) hx hb dX12_expression_61 (by decide) (fun c62 => ?_) (fun c62 => ?_)
            ·
              have h := ite_e c62 h
              refine lv_iconst (v := 1) hx hb dX12_expression_68 (by decide) ?_
              exact J69 v1 v2 1 g L H locs ls h hP hD hS (lv_sub hl [0, 1, 2] rfl)
            ·
              have h := ite_t c62 h
              refine lv_iconst (v := 2) hx hb dX12_expression_64 (by decide) ?_
              refine lv_goto (tgt := 69) hx hb dX12_expression_65 (by decide) ?_
              exact J69 v1 v2 2 g L H locs ls h hP hD hS (lv_sub hl [0, 1, 2] rfl)
          refine lv_icmp_eq (x := x40) (y := 14) (tgt := 57) hx hb dX12_expression_48 (by decide) (fun c63 => ?_) (fun c63 => ?_)
          ·
            have h := ite_t c63 h
            exact J57 v1 x40 g41 L42 H locs ls h hP hD hS (lv_sub hl [1, 2, 0] rfl)
          ·
            have h := ite_e c63 h
            refine lv_iload_n hx hb dX12_expression_51 rfl (lv_at hl 0 rfl) ?_
            refine lv_bipush (v := 15) hx hb dX12_expression_52 (by decide) ?_
            refine lv_icmp_ne (x := x40) (y := 15) (tgt := 109) hx hb dX12_expression_54 (by decide) (fun c64 => ?_) (fun c64 => ?_)
            ·
              have h := ite_e c64 h
              refine lv_aload_n hx hb dX12_expression_109 rfl (lv_at hl 1 rfl) ?_
              refine lv_bipush (v := 60) hx hb dX12_expression_110 (by decide) ?_
              obtain ⟨z_, g66, L67, hf68, h⟩ := cb_some h
              refine x_callVi (rest := []) li_X12_268 C (rX12_isSign l G H.size a fu g41 L42 60 z_ (g66, L67) hf68) (kR rfl) hP hD hS 0 12 rfl (zat (by decide) ms_0) rfl hl.1 rfl (Nat.le_of_ble_eq_true rfl) dX12_expression_112 (fun x65 u_ H locs e_ hP hD hS => ?_)
              have e_ : x65 = z_ := e_
              subst e_
              have hP : va_P G.1 vwCl (zw G MS 51 a g66 L67) H := hP
              have hD : va_D A (zw G MS 51 a g66 L67) := hD
              have J186 : ∀ (v1 : Int32) (g : Nat → Nat → Int32) (L : Nat → Nat → Int64) (H : Heap) (locs : List Loc) (ls : Array Slot), fX12_expression_p186 fu k29 v1 g L = some (res, s9) → va_P G.1 vwCl (zw G MS 51 a g L) H → va_D A (zw G MS 51 a g L) → va_S A s.heap H locs → lv_has ls 3 [(0, .ref (a 0)), (1, .int v1)] → W p l e { frames := 11, cells := 0, slots := 0, locals := 223 } s m [.ref (a 0)].toArray below meth c H locs 0 0 (MQ below ((kQv G (S := Unit) (fun _ => True) (fun _ => zw G MS 51 a s9.1 s9.2)) A) [.ref (a 0)].toArray s 0 0 A) (F0 m 186 ls []) := by
                intro v1 g L H locs ls h hP hD hS hl
                unfold fX12_expression_p186 at h
                refine lv_aload_n hx hb dX12_expression_186 rfl (lv_at hl 0 rfl) ?_
                refine lv_bipush (v := 43) hx hb dX12_expression_187 (by decide) ?_
                obtain ⟨z_, g70, L71, hf72, h⟩ := cb_some h
                refine x_callVi (rest := []) li_X12_268 C (rX12_isSign l G H.size a fu g L 43 z_ (g70, L71) hf72) (kR rfl) hP hD hS 0 12 rfl (zat (by decide) ms_0) rfl hl.1 rfl (Nat.le_of_ble_eq_true rfl) dX12_expression_189 (fun x69 u_ H locs e_ hP hD hS => ?_)
                have e_ : x69 = z_ := e_
                subst e_
                have hP : va_P G.1 vwCl (zw G MS 51 a g70 L71) H := hP
                have hD : va_D A (zw G MS 51 a g70 L71) := hD
                have J204 : ∀ (v1 : Int32) (g : Nat → Nat → Int32) (L : Nat → Nat → Int64) (H : Heap) (locs : List Loc) (ls : Array Slot), fX12_expression_p204 fu k29 v1 g L = some (res, s9) → va_P G.1 vwCl (zw G MS 51 a g L) H → va_D A (zw G MS 51 a g L) → va_S A s.heap H locs → lv_has ls 3 [(0, .ref (a 0)), (1, .int v1)] → W p l e { frames := 11, cells := 0, slots := 0, locals := 223 } s m [.ref (a 0)].toArray below meth c H locs 0 0 (MQ below ((kQv G (S := Unit) (fun _ => True) (fun _ => zw G MS 51 a s9.1 s9.2)) A) [.ref (a 0)].toArray s 0 0 A) (F0 m 204 ls []) := by
                  intro v1 g L H locs ls h hP hD hS hl
                  unfold fX12_expression_p204 at h
                  refine lv_aload_n hx hb dX12_expression_204 rfl (lv_at hl 0 rfl) ?_
                  refine lv_iconst (v := 5) hx hb dX12_expression_205 (by decide) ?_
                  obtain ⟨z_, g74, L75, hf76, h⟩ := cb_some h
                  refine x_callVv (rest := []) li_X12_280 C (rX12_drops l G H.size a fu g L 5 z_ (g74, L75) hf76) (kR rfl) hP hD hS 0 12 rfl (zat (by decide) ms_0) rfl hl.1 rfl (Nat.le_of_ble_eq_true rfl) dX12_expression_206 (fun u_ H locs e_ hP hD hS => ?_)
                  have hP : va_P G.1 vwCl (zw G MS 51 a g74 L75) H := hP
                  have hD : va_D A (zw G MS 51 a g74 L75) := hD
                  refine lv_aload_n hx hb dX12_expression_209 rfl (lv_at hl 0 rfl) ?_
                  refine lv_aload_n hx hb dX12_expression_210 rfl (lv_at hl 0 rfl) ?_
                  refine lv_bipush (v := 43) hx hb dX12_expression_211 (by decide) ?_
                  obtain ⟨z_, g78, L79, hf80, h⟩ := cb_some h
                  refine x_callVi (rest := [.ref (a 0)]) li_X12_268 C (rX12_isSign l G H.size a fu g74 L75 43 z_ (g78, L79) hf80) (kR rfl) hP hD hS 0 12 rfl (zat (by decide) ms_0) rfl hl.1 rfl (Nat.le_of_ble_eq_true rfl) dX12_expression_213 (fun x77 u_ H locs e_ hP hD hS => ?_)
                  have e_ : x77 = z_ := e_
                  subst e_
                  have hP : va_P G.1 vwCl (zw G MS 51 a g78 L79) H := hP
                  have hD : va_D A (zw G MS 51 a g78 L79) := hD
                  have J226 : ∀ (v1 : Int32) (t0 : Int32) (g : Nat → Nat → Int32) (L : Nat → Nat → Int64) (H : Heap) (locs : List Loc) (ls : Array Slot), fX12_expression_p226 fu k29 v1 t0 g L = some (res, s9) → va_P G.1 vwCl (zw G MS 51 a g L) H → va_D A (zw G MS 51 a g L) → va_S A s.heap H locs → lv_has ls 3 [(0, .ref (a 0)), (1, .int v1)] → W p l e { frames := 11, cells := 0, slots := 0, locals := 223 } s m [.ref (a 0)].toArray below meth c H locs 0 0 (MQ below ((kQv G (S := Unit) (fun _ => True) (fun _ => zw G MS 51 a s9.1 s9.2)) A) [.ref (a 0)].toArray s 0 0 A) (F0 m 226 ls [.int t0, .ref (a 0)]) := by
                    intro v1 t0 g L H locs ls h hP hD hS hl
                    unfold fX12_expression_p226 at h
                    obtain ⟨z_, g82, L83, hf84, h⟩ := cb_some h
                    refine x_callVv (rest := []) li_X12_271 C (rX12_waitsFor l G H.size a fu g L t0 z_ (g82, L83) hf84) (kR rfl) hP hD hS 0 12 rfl (zat (by decide) ms_0) rfl hl.1 rfl (Nat.le_of_ble_eq_true rfl) dX12_expression_226 (fun u_ H locs e_ hP hD hS => ?_)
                    have hP : va_P G.1 vwCl (zw G MS 51 a g82 L83) H := hP
                    have hD : va_D A (zw G MS 51 a g82 L83) := hD
                    refine lv_aload_n hx hb dX12_expression_229 rfl (lv_at hl 0 rfl) ?_
                    obtain ⟨z_, g86, L87, hf88, h⟩ := cb_some h
                    refine x_callVv (rest := []) li_X12_240 C (rX12_goes l G H.size a fu g82 L83 z_ (g86, L87) hf88) (kR rfl) hP hD hS 0 12 rfl (zat (by decide) ms_0) rfl hl.1 rfl (Nat.le_of_ble_eq_true rfl) dX12_expression_230 (fun u_ H locs e_ hP hD hS => ?_)
                    have hP : va_P G.1 vwCl (zw G MS 51 a g86 L87) H := hP
                    have hD : va_D A (zw G MS 51 a g86 L87) := hD
                    refine lv_aload_n hx hb dX12_expression_233 rfl (lv_at hl 0 rfl) ?_
                    refine lv_iconst (v := 0) hx hb dX12_expression_234 (by decide) ?_
                    obtain ⟨z_, g90, L91, hf92, h⟩ := cb_some h
                    refine x_callVv (rest := []) li_X12_283 C (rX12_operand l G H.size a fu g86 L87 0 z_ (g90, L91) hf92) (kR rfl) hP hD hS 0 12 rfl (zat (by decide) ms_0) rfl hl.1 rfl (Nat.le_of_ble_eq_true rfl) dX12_expression_235 (fun u_ H locs e_ hP hD hS => ?_)
                    have hP : va_P G.1 vwCl (zw G MS 51 a g90 L91) H := hP
                    have hD : va_D A (zw G MS 51 a g90 L91) := hD
                    refine lv_goto (tgt := 322) hx hb dX12_expression_238 (by decide) ?_
                    exact J322 v1 g90 L91 H locs ls h hP hD hS (lv_sub hl [0, 1] rfl)
                  refine lv_if_eq (x := x77) (tgt := 224) hx hb dX12_expression_216 (by decide) (fun c93 => ?_) (fun c93 => ?_)
                  ·
                    have h := ite_t c93 h
                    refine lv_bipush (v := 9) hx hb dX12_expression_224 (by decide) ?_
                    exact J226 v1 9 g78 L79 H locs ls h hP hD hS (lv_sub hl [0, 1] rfl)
                  ·
                    have h := ite_e c93 h
                    refine lv_bipush (v := 8) hx hb dX12_expression_219 (by decide) ?_
                    refine lv_goto (tgt := 226) hx hb dX12_expression_221 (by decide) ?_
                    exact J226 v1 8 g78 L79 H locs ls h hP hD hS (lv_sub hl [0, 1] rfl)
                refine lv_if_ne (x := x69) (tgt := 204) hx hb dX12_expression_192 (by decide) (fun c94 => ?_) (fun c94 => ?_)
                ·
                  have h := ite_e c94 h
                  exact J204 v1 g70 L71 H locs ls h hP hD hS (lv_sub hl [0, 1] rfl)
                ·
                  have h := ite_t c94 h
                  refine lv_aload_n hx hb dX12_expression_195 rfl (lv_at hl 0 rfl) ?_
                  refine lv_bipush (v := 45) hx hb dX12_expression_196 (by decide) ?_
                  obtain ⟨z_, g96, L97, hf98, h⟩ := cb_some h
                  refine x_callVi (rest := []) li_X12_268 C (rX12_isSign l G H.size a fu g70 L71 45 z_ (g96, L97) hf98) (kR rfl) hP hD hS 0 12 rfl (zat (by decide) ms_0) rfl hl.1 rfl (Nat.le_of_ble_eq_true rfl) dX12_expression_198 (fun x95 u_ H locs e_ hP hD hS => ?_)
                  have e_ : x95 = z_ := e_
                  subst e_
                  have hP : va_P G.1 vwCl (zw G MS 51 a g96 L97) H := hP
                  have hD : va_D A (zw G MS 51 a g96 L97) := hD
                  refine lv_if_eq (x := x95) (tgt := 241) hx hb dX12_expression_201 (by decide) (fun c99 => ?_) (fun c99 => ?_)
                  ·
                    have h := ite_t c99 h
                    refine lv_aload_n hx hb dX12_expression_241 rfl (lv_at hl 0 rfl) ?_
                    refine lv_bipush (v := 42) hx hb dX12_expression_242 (by decide) ?_
                    obtain ⟨z_, g101, L102, hf103, h⟩ := cb_some h
                    refine x_callVi (rest := []) li_X12_268 C (rX12_isSign l G H.size a fu g96 L97 42 z_ (g101, L102) hf103) (kR rfl) hP hD hS 0 12 rfl (zat (by decide) ms_0) rfl hl.1 rfl (Nat.le_of_ble_eq_true rfl) dX12_expression_244 (fun x100 u_ H locs e_ hP hD hS => ?_)
                    have e_ : x100 = z_ := e_
                    subst e_
                    have hP : va_P G.1 vwCl (zw G MS 51 a g101 L102) H := hP
                    have hD : va_D A (zw G MS 51 a g101 L102) := hD
                    have J259 : ∀ (v1 : Int32) (g : Nat → Nat → Int32) (L : Nat → Nat → Int64) (H : Heap) (locs : List Loc) (ls : Array Slot), fX12_expression_p259 fu k29 v1 g L = some (res, s9) → va_P G.1 vwCl (zw G MS 51 a g L) H → va_D A (zw G MS 51 a g L) → va_S A s.heap H locs → lv_has ls 3 [(0, .ref (a 0)), (1, .int v1)] → W p l e { frames := 11, cells := 0, slots := 0, locals := 223 } s m [.ref (a 0)].toArray below meth c H locs 0 0 (MQ below ((kQv G (S := Unit) (fun _ => True) (fun _ => zw G MS 51 a s9.1 s9.2)) A) [.ref (a 0)].toArray s 0 0 A) (F0 m 259 ls []) := by
                      intro v1 g L H locs ls h hP hD hS hl
                      unfold fX12_expression_p259 at h
                      refine lv_aload_n hx hb dX12_expression_259 rfl (lv_at hl 0 rfl) ?_
                      refine lv_bipush (v := 6) hx hb dX12_expression_260 (by decide) ?_
                      obtain ⟨z_, g105, L106, hf107, h⟩ := cb_some h
                      refine x_callVv (rest := []) li_X12_280 C (rX12_drops l G H.size a fu g L 6 z_ (g105, L106) hf107) (kR rfl) hP hD hS 0 12 rfl (zat (by decide) ms_0) rfl hl.1 rfl (Nat.le_of_ble_eq_true rfl) dX12_expression_262 (fun u_ H locs e_ hP hD hS => ?_)
                      have hP : va_P G.1 vwCl (zw G MS 51 a g105 L106) H := hP
                      have hD : va_D A (zw G MS 51 a g105 L106) := hD
                      refine lv_aload_n hx hb dX12_expression_265 rfl (lv_at hl 0 rfl) ?_
                      refine lv_aload_n hx hb dX12_expression_266 rfl (lv_at hl 0 rfl) ?_
                      refine lv_bipush (v := 42) hx hb dX12_expression_267 (by decide) ?_
                      obtain ⟨z_, g109, L110, hf111, h⟩ := cb_some h
                      refine x_callVi (rest := [.ref (a 0)]) li_X12_268 C (rX12_isSign l G H.size a fu g105 L106 42 z_ (g109, L110) hf111) (kR rfl) hP hD hS 0 12 rfl (zat (by decide) ms_0) rfl hl.1 rfl (Nat.le_of_ble_eq_true rfl) dX12_expression_269 (fun x108 u_ H locs e_ hP hD hS => ?_)
                      have e_ : x108 = z_ := e_
                      subst e_
                      have hP : va_P G.1 vwCl (zw G MS 51 a g109 L110) H := hP
                      have hD : va_D A (zw G MS 51 a g109 L110) := hD
                      have J282 : ∀ (v1 : Int32) (t0 : Int32) (g : Nat → Nat → Int32) (L : Nat → Nat → Int64) (H : Heap) (locs : List Loc) (ls : Array Slot), fX12_expression_p282 fu k29 v1 t0 g L = some (res, s9) → va_P G.1 vwCl (zw G MS 51 a g L) H → va_D A (zw G MS 51 a g L) → va_S A s.heap H locs → lv_has ls 3 [(0, .ref (a 0)), (1, .int v1)] → W p l e { frames := 11, cells := 0, slots := 0, locals := 223 } s m [.ref (a 0)].toArray below meth c H locs 0 0 (MQ below ((kQv G (S := Unit) (fun _ => True) (fun _ => zw G MS 51 a s9.1 s9.2)) A) [.ref (a 0)].toArray s 0 0 A) (F0 m 282 ls [.int t0, .ref (a 0)]) := by
                        intro v1 t0 g L H locs ls h hP hD hS hl
                        unfold fX12_expression_p282 at h
                        obtain ⟨z_, g113, L114, hf115, h⟩ := cb_some h
                        refine x_callVv (rest := []) li_X12_271 C (rX12_waitsFor l G H.size a fu g L t0 z_ (g113, L114) hf115) (kR rfl) hP hD hS 0 12 rfl (zat (by decide) ms_0) rfl hl.1 rfl (Nat.le_of_ble_eq_true rfl) dX12_expression_282 (fun u_ H locs e_ hP hD hS => ?_)
                        have hP : va_P G.1 vwCl (zw G MS 51 a g113 L114) H := hP
                        have hD : va_D A (zw G MS 51 a g113 L114) := hD
                        refine lv_aload_n hx hb dX12_expression_285 rfl (lv_at hl 0 rfl) ?_
                        obtain ⟨z_, g117, L118, hf119, h⟩ := cb_some h
                        refine x_callVv (rest := []) li_X12_240 C (rX12_goes l G H.size a fu g113 L114 z_ (g117, L118) hf119) (kR rfl) hP hD hS 0 12 rfl (zat (by decide) ms_0) rfl hl.1 rfl (Nat.le_of_ble_eq_true rfl) dX12_expression_286 (fun u_ H locs e_ hP hD hS => ?_)
                        have hP : va_P G.1 vwCl (zw G MS 51 a g117 L118) H := hP
                        have hD : va_D A (zw G MS 51 a g117 L118) := hD
                        refine lv_aload_n hx hb dX12_expression_289 rfl (lv_at hl 0 rfl) ?_
                        refine lv_iconst (v := 0) hx hb dX12_expression_290 (by decide) ?_
                        obtain ⟨z_, g121, L122, hf123, h⟩ := cb_some h
                        refine x_callVv (rest := []) li_X12_283 C (rX12_operand l G H.size a fu g117 L118 0 z_ (g121, L122) hf123) (kR rfl) hP hD hS 0 12 rfl (zat (by decide) ms_0) rfl hl.1 rfl (Nat.le_of_ble_eq_true rfl) dX12_expression_291 (fun u_ H locs e_ hP hD hS => ?_)
                        have hP : va_P G.1 vwCl (zw G MS 51 a g121 L122) H := hP
                        have hD : va_D A (zw G MS 51 a g121 L122) := hD
                        refine lv_goto (tgt := 322) hx hb dX12_expression_294 (by decide) ?_
                        exact J322 v1 g121 L122 H locs ls h hP hD hS (lv_sub hl [0, 1] rfl)
                      refine lv_if_eq (x := x108) (tgt := 280) hx hb dX12_expression_272 (by decide) (fun c124 => ?_) (fun c124 => ?_)
                      ·
                        have h := ite_t c124 h
                        refine lv_bipush (v := 11) hx hb dX12_expression_280 (by decide) ?_
                        exact J282 v1 11 g109 L110 H locs ls h hP hD hS (lv_sub hl [0, 1] rfl)
                      ·
                        have h := ite_e c124 h
                        refine lv_bipush (v := 10) hx hb dX12_expression_275 (by decide) ?_
                        refine lv_goto (tgt := 282) hx hb dX12_expression_277 (by decide) ?_
                        exact J282 v1 10 g109 L110 H locs ls h hP hD hS (lv_sub hl [0, 1] rfl)
                    refine lv_if_ne (x := x100) (tgt := 259) hx hb dX12_expression_247 (by decide) (fun c125 => ?_) (fun c125 => ?_)
                    ·
                      have h := ite_e c125 h
                      exact J259 v1 g101 L102 H locs ls h hP hD hS (lv_sub hl [0, 1] rfl)
                    ·
                      have h := ite_t c125 h
                      refine lv_aload_n hx hb dX12_expression_250 rfl (lv_at hl 0 rfl) ?_
                      refine lv_bipush (v := 47) hx hb dX12_expression_251 (by decide) ?_
                      obtain ⟨z_, g127, L128, hf129, h⟩ := cb_some h
                      refine x_callVi (rest := []) li_X12_268 C (rX12_isSign l G H.size a fu g101 L102 47 z_ (g127, L128) hf129) (kR rfl) hP hD hS 0 12 rfl (zat (by decide) ms_0) rfl hl.1 rfl (Nat.le_of_ble_eq_true rfl) dX12_expression_253 (fun x126 u_ H locs e_ hP hD hS => ?_)
                      have e_ : x126 = z_ := e_
                      subst e_
                      have hP : va_P G.1 vwCl (zw G MS 51 a g127 L128) H := hP
                      have hD : va_D A (zw G MS 51 a g127 L128) := hD
                      refine lv_if_eq (x := x126) (tgt := 297) hx hb dX12_expression_256 (by decide) (fun c130 => ?_) (fun c130 => ?_)
                      ·
                        have h := ite_t c130 h
                        refine lv_aload_n hx hb dX12_expression_297 rfl (lv_at hl 0 rfl) ?_
                        refine lv_bipush (v := 41) hx hb dX12_expression_298 (by decide) ?_
                        obtain ⟨z_, g132, L133, hf134, h⟩ := cb_some h
                        refine x_callVi (rest := []) li_X12_268 C (rX12_isSign l G H.size a fu g127 L128 41 z_ (g132, L133) hf134) (kR rfl) hP hD hS 0 12 rfl (zat (by decide) ms_0) rfl hl.1 rfl (Nat.le_of_ble_eq_true rfl) dX12_expression_300 (fun x131 u_ H locs e_ hP hD hS => ?_)
                        have e_ : x131 = z_ := e_
                        subst e_
                        have hP : va_P G.1 vwCl (zw G MS 51 a g132 L133) H := hP
                        have hD : va_D A (zw G MS 51 a g132 L133) := hD
                        have J320 : ∀ (g : Nat → Nat → Int32) (L : Nat → Nat → Int64) (H : Heap) (locs : List Loc) (ls : Array Slot), fX12_expression_p320 fu k29 g L = some (res, s9) → va_P G.1 vwCl (zw G MS 51 a g L) H → va_D A (zw G MS 51 a g L) → va_S A s.heap H locs → lv_has ls 3 [(0, .ref (a 0))] → W p l e { frames := 11, cells := 0, slots := 0, locals := 223 } s m [.ref (a 0)].toArray below meth c H locs 0 0 (MQ below ((kQv G (S := Unit) (fun _ => True) (fun _ => zw G MS 51 a s9.1 s9.2)) A) [.ref (a 0)].toArray s 0 0 A) (F0 m 320 ls []) := by
                          intro g L H locs ls h hP hD hS hl
                          unfold fX12_expression_p320 at h
                          refine lv_iconst (v := 0) hx hb dX12_expression_320 (by decide) ?_
                          refine lv_istore_n (lv' := [(1, .int 0), (0, .ref (a 0))]) hx hb dX12_expression_321 rfl hl (by decide) rfl (fun ls hl => ?_)
                          exact J322 0 g L H locs ls h hP hD hS (lv_sub hl [1, 0] rfl)
                        refine lv_if_eq (x := x131) (tgt := 320) hx hb dX12_expression_303 (by decide) (fun c135 => ?_) (fun c135 => ?_)
                        ·
                          have h := ite_t c135 h
                          exact J320 g132 L133 H locs ls h hP hD hS (lv_sub hl [0] rfl)
                        ·
                          have h := ite_e c135 h
                          refine lv_aload_n hx hb dX12_expression_306 rfl (lv_at hl 0 rfl) ?_
                          obtain ⟨z_, g137, L138, hf139, h⟩ := cb_some h
                          refine x_callVi (rest := []) li_X12_287 C (rX12_isOpened l G H.size a fu g132 L133 z_ (g137, L138) hf139) (kR rfl) hP hD hS 0 12 rfl (zat (by decide) ms_0) rfl hl.1 rfl (Nat.le_of_ble_eq_true rfl) dX12_expression_307 (fun x136 u_ H locs e_ hP hD hS => ?_)
                          have e_ : x136 = z_ := e_
                          subst e_
                          have hP : va_P G.1 vwCl (zw G MS 51 a g137 L138) H := hP
                          have hD : va_D A (zw G MS 51 a g137 L138) := hD
                          refine lv_if_eq (x := x136) (tgt := 320) hx hb dX12_expression_310 (by decide) (fun c140 => ?_) (fun c140 => ?_)
                          ·
                            have h := ite_t c140 h
                            exact J320 g137 L138 H locs ls h hP hD hS (lv_sub hl [0] rfl)
                          ·
                            have h := ite_e c140 h
                            refine lv_aload_n hx hb dX12_expression_313 rfl (lv_at hl 0 rfl) ?_
                            obtain ⟨z_, g142, L143, hf144, h⟩ := cb_some h
                            refine x_callVv (rest := []) li_X12_290 C (rX12_closes l G H.size a fu g137 L138 z_ (g142, L143) hf144) (kR rfl) hP hD hS 0 12 rfl (zat (by decide) ms_0) rfl hl.1 rfl (Nat.le_of_ble_eq_true rfl) dX12_expression_314 (fun u_ H locs e_ hP hD hS => ?_)
                            have hP : va_P G.1 vwCl (zw G MS 51 a g142 L143) H := hP
                            have hD : va_D A (zw G MS 51 a g142 L143) := hD
                            refine lv_goto (tgt := 322) hx hb dX12_expression_317 (by decide) ?_
                            exact J322 v1 g142 L143 H locs ls h hP hD hS (lv_sub hl [0, 1] rfl)
                      ·
                        have h := ite_e c130 h
                        exact J259 v1 g127 L128 H locs ls h hP hD hS (lv_sub hl [0, 1] rfl)
                  ·
                    have h := ite_e c99 h
                    exact J204 v1 g96 L97 H locs ls h hP hD hS (lv_sub hl [0, 1] rfl)
              have J127 : ∀ (v1 : Int32) (g : Nat → Nat → Int32) (L : Nat → Nat → Int64) (H : Heap) (locs : List Loc) (ls : Array Slot), fX12_expression_p127 fu k29 v1 g L = some (res, s9) → va_P G.1 vwCl (zw G MS 51 a g L) H → va_D A (zw G MS 51 a g L) → va_S A s.heap H locs → lv_has ls 3 [(0, .ref (a 0)), (1, .int v1)] → W p l e { frames := 11, cells := 0, slots := 0, locals := 223 } s m [.ref (a 0)].toArray below meth c H locs 0 0 (MQ below ((kQv G (S := Unit) (fun _ => True) (fun _ => zw G MS 51 a s9.1 s9.2)) A) [.ref (a 0)].toArray s 0 0 A) (F0 m 127 ls []) := by
                intro v1 g L H locs ls h hP hD hS hl
                unfold fX12_expression_p127 at h
                refine lv_aload_n hx hb dX12_expression_127 rfl (lv_at hl 0 rfl) ?_
                refine x_getr (Or.inl fl_X12_101) C hP (by decide) ms_0 rfl dX12_expression_128 ?_
                refine lv_aload_n hx hb dX12_expression_131 rfl (lv_at hl 0 rfl) ?_
                refine x_getv (v := .int (g 0 37)) (Or.inl fl_X12_265) C hP (by decide) ms_0 rfl dX12_expression_132 ?_
                refine y_zald C hP (by decide) ms_28 dX12_expression_135 h (fun h => ?_)
                refine lv_if_ne (x := (g 28 (Int32.toNatClampNeg (g 0 37)))) (tgt := 186) hx hb dX12_expression_136 (by decide) (fun c145 => ?_) (fun c145 => ?_)
                ·
                  have h := ite_e c145 h
                  exact J186 v1 g L H locs ls h hP hD hS (lv_sub hl [0, 1] rfl)
                ·
                  have h := ite_t c145 h
                  refine lv_aload_n hx hb dX12_expression_139 rfl (lv_at hl 0 rfl) ?_
                  refine lv_iconst (v := 4) hx hb dX12_expression_140 (by decide) ?_
                  obtain ⟨z_, g147, L148, hf149, h⟩ := cb_some h
                  refine x_callVv (rest := []) li_X12_280 C (rX12_drops l G H.size a fu g L 4 z_ (g147, L148) hf149) (kR rfl) hP hD hS 0 12 rfl (zat (by decide) ms_0) rfl hl.1 rfl (Nat.le_of_ble_eq_true rfl) dX12_expression_141 (fun u_ H locs e_ hP hD hS => ?_)
                  have hP : va_P G.1 vwCl (zw G MS 51 a g147 L148) H := hP
                  have hD : va_D A (zw G MS 51 a g147 L148) := hD
                  refine lv_aload_n hx hb dX12_expression_144 rfl (lv_at hl 0 rfl) ?_
                  refine lv_aload_n hx hb dX12_expression_145 rfl (lv_at hl 0 rfl) ?_
                  refine lv_bipush (v := 60) hx hb dX12_expression_146 (by decide) ?_
                  obtain ⟨z_, g151, L152, hf153, h⟩ := cb_some h
                  refine x_callVi (rest := [.ref (a 0)]) li_X12_268 C (rX12_isSign l G H.size a fu g147 L148 60 z_ (g151, L152) hf153) (kR rfl) hP hD hS 0 12 rfl (zat (by decide) ms_0) rfl hl.1 rfl (Nat.le_of_ble_eq_true rfl) dX12_expression_148 (fun x150 u_ H locs e_ hP hD hS => ?_)
                  have e_ : x150 = z_ := e_
                  subst e_
                  have hP : va_P G.1 vwCl (zw G MS 51 a g151 L152) H := hP
                  have hD : va_D A (zw G MS 51 a g151 L152) := hD
                  have J161 : ∀ (v1 : Int32) (t0 : Int32) (g : Nat → Nat → Int32) (L : Nat → Nat → Int64) (H : Heap) (locs : List Loc) (ls : Array Slot), fX12_expression_p161 fu k29 v1 t0 g L = some (res, s9) → va_P G.1 vwCl (zw G MS 51 a g L) H → va_D A (zw G MS 51 a g L) → va_S A s.heap H locs → lv_has ls 3 [(0, .ref (a 0)), (1, .int v1)] → W p l e { frames := 11, cells := 0, slots := 0, locals := 223 } s m [.ref (a 0)].toArray below meth c H locs 0 0 (MQ below ((kQv G (S := Unit) (fun _ => True) (fun _ => zw G MS 51 a s9.1 s9.2)) A) [.ref (a 0)].toArray s 0 0 A) (F0 m 161 ls [.int t0, .ref (a 0)]) := by
                    intro v1 t0 g L H locs ls h hP hD hS hl
                    unfold fX12_expression_p161 at h
                    obtain ⟨z_, g155, L156, hf157, h⟩ := cb_some h
                    refine x_callVv (rest := []) li_X12_271 C (rX12_waitsFor l G H.size a fu g L t0 z_ (g155, L156) hf157) (kR rfl) hP hD hS 0 12 rfl (zat (by decide) ms_0) rfl hl.1 rfl (Nat.le_of_ble_eq_true rfl) dX12_expression_161 (fun u_ H locs e_ hP hD hS => ?_)
                    have hP : va_P G.1 vwCl (zw G MS 51 a g155 L156) H := hP
                    have hD : va_D A (zw G MS 51 a g155 L156) := hD
                    refine lv_aload_n hx hb dX12_expression_164 rfl (lv_at hl 0 rfl) ?_
                    refine x_getr (Or.inl fl_X12_101) C hP (by decide) ms_0 rfl dX12_expression_165 ?_
                    refine lv_aload_n hx hb dX12_expression_168 rfl (lv_at hl 0 rfl) ?_
                    refine x_getv (v := .int (g155 0 37)) (Or.inl fl_X12_265) C hP (by decide) ms_0 rfl dX12_expression_169 ?_
                    refine lv_iconst (v := 1) hx hb dX12_expression_172 (by decide) ?_
                    refine y_zast C hP hD hS (by decide) ms_28 dX12_expression_173 h (fun g158 H locs h hP hD hS => ?_)
                    refine lv_aload_n hx hb dX12_expression_174 rfl (lv_at hl 0 rfl) ?_
                    obtain ⟨z_, g160, L161, hf162, h⟩ := cb_some h
                    refine x_callVv (rest := []) li_X12_240 C (rX12_goes l G H.size a fu g158 L156 z_ (g160, L161) hf162) (kR rfl) hP hD hS 0 12 rfl (zat (by decide) ms_0) rfl hl.1 rfl (Nat.le_of_ble_eq_true rfl) dX12_expression_175 (fun u_ H locs e_ hP hD hS => ?_)
                    have hP : va_P G.1 vwCl (zw G MS 51 a g160 L161) H := hP
                    have hD : va_D A (zw G MS 51 a g160 L161) := hD
                    refine lv_aload_n hx hb dX12_expression_178 rfl (lv_at hl 0 rfl) ?_
                    refine lv_iconst (v := 0) hx hb dX12_expression_179 (by decide) ?_
                    obtain ⟨z_, g164, L165, hf166, h⟩ := cb_some h
                    refine x_callVv (rest := []) li_X12_283 C (rX12_operand l G H.size a fu g160 L161 0 z_ (g164, L165) hf166) (kR rfl) hP hD hS 0 12 rfl (zat (by decide) ms_0) rfl hl.1 rfl (Nat.le_of_ble_eq_true rfl) dX12_expression_180 (fun u_ H locs e_ hP hD hS => ?_)
                    have hP : va_P G.1 vwCl (zw G MS 51 a g164 L165) H := hP
                    have hD : va_D A (zw G MS 51 a g164 L165) := hD
                    refine lv_goto (tgt := 322) hx hb dX12_expression_183 (by decide) ?_
                    exact J322 v1 g164 L165 H locs ls h hP hD hS (lv_sub hl [0, 1] rfl)
                  refine lv_if_eq (x := x150) (tgt := 159) hx hb dX12_expression_151 (by decide) (fun c167 => ?_) (fun c167 => ?_)
                  ·
                    have h := ite_t c167 h
                    refine lv_bipush (v := 7) hx hb dX12_expression_159 (by decide) ?_
                    exact J161 v1 7 g151 L152 H locs ls h hP hD hS (lv_sub hl [0, 1] rfl)
                  ·
                    have h := ite_e c167 h
                    refine lv_bipush (v := 6) hx hb dX12_expression_154 (by decide) ?_
                    refine lv_goto (tgt := 161) hx hb dX12_expression_156 (by decide) ?_
                    exact J161 v1 6 g151 L152 H locs ls h hP hD hS (lv_sub hl [0, 1] rfl)
              refine lv_if_ne (x := x65) (tgt := 127) hx hb dX12_expression_115 (by decide) (fun c168 => ?_) (fun c168 => ?_)
              ·
                have h := ite_e c168 h
                exact J127 v1 g66 L67 H locs ls h hP hD hS (lv_sub hl [1, 2] rfl)
              ·
                have h := ite_t c168 h
                refine lv_aload_n hx hb dX12_expression_118 rfl (lv_at hl 1 rfl) ?_
                refine lv_bipush (v := 61) hx hb dX12_expression_119 (by decide) ?_
                obtain ⟨z_, g170, L171, hf172, h⟩ := cb_some h
                refine x_callVi (rest := []) li_X12_268 C (rX12_isSign l G H.size a fu g66 L67 61 z_ (g170, L171) hf172) (kR rfl) hP hD hS 0 12 rfl (zat (by decide) ms_0) rfl hl.1 rfl (Nat.le_of_ble_eq_true rfl) dX12_expression_121 (fun x169 u_ H locs e_ hP hD hS => ?_)
                have e_ : x169 = z_ := e_
                subst e_
                have hP : va_P G.1 vwCl (zw G MS 51 a g170 L171) H := hP
                have hD : va_D A (zw G MS 51 a g170 L171) := hD
                refine lv_if_eq (x := x169) (tgt := 186) hx hb dX12_expression_124 (by decide) (fun c173 => ?_) (fun c173 => ?_)
                ·
                  have h := ite_t c173 h
                  exact J186 v1 g170 L171 H locs ls h hP hD hS (lv_sub hl [1, 2] rfl)
                ·
                  have h := ite_e c173 h
                  exact J127 v1 g170 L171 H locs ls h hP hD hS (lv_sub hl [1, 2] rfl)
            ·
              have h := ite_t c64 h
              exact J57 v1 x40 g41 L42 H locs ls h hP hD hS (lv_sub hl [1, 2, 0] rfl)
    exact lp29 trivial fu (1, g13, L14) h H locs ls hP hD hS (lv_sub hl [1, 0] rfl)
  ·
    have h := ite_t c5 h
    exact y_vret C hr hlk hP hD hS h (Nat.le_of_ble_eq_true rfl) (Nat.le_of_ble_eq_true rfl) dX12_expression_7
