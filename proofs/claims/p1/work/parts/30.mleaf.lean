theorem dX12_copies_0 : decode cX12_copies 0 = .ok (.iconst 0, 1) := by decide +kernel
theorem dX12_copies_1 : decode cX12_copies 1 = .ok (.istore_n 3, 1) := by decide +kernel
theorem dX12_copies_2 : decode cX12_copies 2 = .ok (.iload_n 3, 1) := by decide +kernel
theorem dX12_copies_3 : decode cX12_copies 3 = .ok (.aload_n 1, 1) := by decide +kernel
theorem dX12_copies_4 : decode cX12_copies 4 = .ok (.arraylength, 1) := by decide +kernel
theorem dX12_copies_5 : decode cX12_copies 5 = .ok (.if_icmp .ge 15, 3) := by decide +kernel
theorem dX12_copies_8 : decode cX12_copies 8 = .ok (.aload_n 2, 1) := by decide +kernel
theorem dX12_copies_9 : decode cX12_copies 9 = .ok (.iload_n 3, 1) := by decide +kernel
theorem dX12_copies_10 : decode cX12_copies 10 = .ok (.aload_n 1, 1) := by decide +kernel
theorem dX12_copies_11 : decode cX12_copies 11 = .ok (.iload_n 3, 1) := by decide +kernel
theorem dX12_copies_12 : decode cX12_copies 12 = .ok (.iaload, 1) := by decide +kernel
theorem dX12_copies_13 : decode cX12_copies 13 = .ok (.iastore, 1) := by decide +kernel
theorem dX12_copies_14 : decode cX12_copies 14 = .ok (.iinc 3 1, 3) := by decide +kernel
theorem dX12_copies_17 : decode cX12_copies 17 = .ok (.goto (-15), 3) := by decide +kernel
theorem dX12_copies_20 : decode cX12_copies 20 = .ok (.return_, 1) := by decide +kernel
theorem dX12_within_0 : decode cX12_within 0 = .ok (.iload_n 0, 1) := by decide +kernel
theorem dX12_within_1 : decode cX12_within 1 = .ok (.iload_n 1, 1) := by decide +kernel
theorem dX12_within_2 : decode cX12_within 2 = .ok (.if_icmp .lt 12, 3) := by decide +kernel
theorem dX12_within_14 : decode cX12_within 14 = .ok (.iconst 0, 1) := by decide +kernel
theorem dX12_within_15 : decode cX12_within 15 = .ok (.ireturn, 1) := by decide +kernel
theorem dX12_within_5 : decode cX12_within 5 = .ok (.iload_n 0, 1) := by decide +kernel
theorem dX12_within_6 : decode cX12_within 6 = .ok (.iload_n 2, 1) := by decide +kernel
theorem dX12_within_7 : decode cX12_within 7 = .ok (.if_icmp .gt 7, 3) := by decide +kernel
theorem dX12_within_10 : decode cX12_within 10 = .ok (.iconst 1, 1) := by decide +kernel
theorem dX12_within_11 : decode cX12_within 11 = .ok (.goto 4, 3) := by decide +kernel
theorem dX12_right_0 : decode cX12_right 0 = .ok (.aload_n 0, 1) := by decide +kernel
theorem tw_1423 : (Jvm.Cond.fieldLink "MarshBellsModel" (177 : Nat) "MarshBellsModel" "thrown" "I") ∈ lw_tbl := tk_6 (List.mem_of_getElem? (i := 223) rfl)
theorem fl_X12_177 : kFL RX12 177 12 88 0 := ⟨RX12, TX12, rfl, by decide, inWX12, tw_1423⟩
theorem dX12_right_1 : decode cX12_right 1 = .ok (.getfield 177, 3) := by decide +kernel
theorem dX12_right_4 : decode cX12_right 4 = .ok (.ifCond .ne 12, 3) := by decide +kernel
theorem dX12_right_7 : decode cX12_right 7 = .ok (.iload_n 1, 1) := by decide +kernel
theorem dX12_right_8 : decode cX12_right 8 = .ok (.ifCond .ne 8, 3) := by decide +kernel
theorem dX12_right_16 : decode cX12_right 16 = .ok (.aload_n 0, 1) := by decide +kernel
theorem dX12_right_17 : decode cX12_right 17 = .ok (.getfield 177, 3) := by decide +kernel
theorem dX12_right_20 : decode cX12_right 20 = .ok (.ifCond .ne 7, 3) := by decide +kernel
theorem dX12_right_23 : decode cX12_right 23 = .ok (.iconst 1, 1) := by decide +kernel
theorem dX12_right_24 : decode cX12_right 24 = .ok (.goto 4, 3) := by decide +kernel
theorem dX12_right_28 : decode cX12_right 28 = .ok (.ireturn, 1) := by decide +kernel
theorem dX12_right_11 : decode cX12_right 11 = .ok (.aload_n 0, 1) := by decide +kernel
theorem dX12_right_12 : decode cX12_right 12 = .ok (.iload_n 2, 1) := by decide +kernel
theorem ft_X12_0 : kFT 12 0 .int false RX12 := ⟨RX12, TX12, 88, tyX12, rfl, tyX12_ok, nmX12, rfl, by decide +kernel, rfl⟩
theorem dX12_right_13 : decode cX12_right 13 = .ok (.putfield 177, 3) := by decide +kernel
theorem dX12_right_27 : decode cX12_right 27 = .ok (.iconst 0, 1) := by decide +kernel
theorem dX12_thrown_0 : decode cX12_thrown 0 = .ok (.aload_n 0, 1) := by decide +kernel
theorem dX12_thrown_1 : decode cX12_thrown 1 = .ok (.getfield 177, 3) := by decide +kernel
theorem dX12_thrown_4 : decode cX12_thrown 4 = .ok (.ireturn, 1) := by decide +kernel
theorem dX12_isLesson_0 : decode cX12_isLesson 0 = .ok (.aload_n 0, 1) := by decide +kernel
theorem dX12_isLesson_1 : decode cX12_isLesson 1 = .ok (.iload_n 1, 1) := by decide +kernel
theorem dX12_isLesson_2 : decode cX12_isLesson 2 = .ok (.ifCond .lt 15, 3) := by decide +kernel
theorem dX12_isLesson_17 : decode cX12_isLesson 17 = .ok (.iconst 0, 1) := by decide +kernel
theorem dX12_isLesson_18 : decode cX12_isLesson 18 = .ok (.iconst 1, 1) := by decide +kernel
theorem tw_1704 : (Jvm.Cond.methodLink "MarshBellsModel" (328 : Nat) ({ cls := "MarshBellsModel", name := "right", desc := "(ZI)Z" } : Jvm.MethodName)) ∈ lw_tbl := tk_8 (List.mem_of_getElem? (i := 24) rfl)
theorem tw_13 : (Jvm.Cond.initialized "MarshBellsModel") ∈ lw_tbl := tk_1 (List.mem_of_getElem? (i := 13) rfl)
theorem tw_1707 : (Jvm.Cond.code ({ cls := "MarshBellsModel", name := "right", desc := "(ZI)Z" } : Jvm.MethodName) prog_14_method_3_code (3 : Nat) (Option.some Jvm.ClassFile.FieldType.boolean)) ∈ lw_tbl := tk_8 (List.mem_of_getElem? (i := 27) rfl)
theorem tw_1706 : (Jvm.Cond.instanceMethod ({ cls := "MarshBellsModel", name := "right", desc := "(ZI)Z" } : Jvm.MethodName)) ∈ lw_tbl := tk_8 (List.mem_of_getElem? (i := 26) rfl)
theorem se_X12_right : Cond.selects RX12 yX12_right yX12_right ∈ lw_tbl := List.mem_append_left _ (List.mem_of_getElem? (i := 109) rfl)
theorem li_X12_328 : kLV RX12 328 RX12 yX12_right cX12_right 3 (some .boolean) 2 := ⟨tw_1704, tw_1706, se_X12_right, tw_1707, tw_13, by decide +kernel⟩
theorem dX12_isLesson_19 : decode cX12_isLesson 19 = .ok (.invokevirtual 328, 3) := by decide +kernel
theorem dX12_isLesson_22 : decode cX12_isLesson 22 = .ok (.ireturn, 1) := by decide +kernel
theorem dX12_isLesson_5 : decode cX12_isLesson 5 = .ok (.iload_n 1, 1) := by decide +kernel
theorem dX12_isLesson_6 : decode cX12_isLesson 6 = .ok (.aload_n 0, 1) := by decide +kernel
theorem tw_1424 : (Jvm.Cond.fieldLink "MarshBellsModel" (335 : Nat) "MarshBellsModel" "lessons" "I") ∈ lw_tbl := tk_6 (List.mem_of_getElem? (i := 224) rfl)
theorem fl_X12_335 : kFL RX12 335 12 88 1 := ⟨RX12, TX12, rfl, by decide, inWX12, tw_1424⟩
theorem dX12_isLesson_7 : decode cX12_isLesson 7 = .ok (.getfield 335, 3) := by decide +kernel
theorem dX12_isLesson_10 : decode cX12_isLesson 10 = .ok (.if_icmp .ge 7, 3) := by decide +kernel
theorem dX12_isWhat_0 : decode cX12_isWhat 0 = .ok (.aload_n 0, 1) := by decide +kernel
theorem dX12_isWhat_1 : decode cX12_isWhat 1 = .ok (.iload_n 1, 1) := by decide +kernel
theorem dX12_isWhat_2 : decode cX12_isWhat 2 = .ok (.iconst 0, 1) := by decide +kernel
theorem dX12_isWhat_3 : decode cX12_isWhat 3 = .ok (.iload_n 2, 1) := by decide +kernel
theorem tw_1823 : (Jvm.Cond.methodLink "MarshBellsModel" (392 : Nat) ({ cls := "MarshBellsModel", name := "within", desc := "(III)Z" } : Jvm.MethodName)) ∈ lw_tbl := tk_8 (List.mem_of_getElem? (i := 143) rfl)
theorem tw_1825 : (Jvm.Cond.code ({ cls := "MarshBellsModel", name := "within", desc := "(III)Z" } : Jvm.MethodName) prog_14_method_4_code (3 : Nat) (Option.some Jvm.ClassFile.FieldType.boolean)) ∈ lw_tbl := tk_8 (List.mem_of_getElem? (i := 145) rfl)
theorem tw_1824 : (Jvm.Cond.static ({ cls := "MarshBellsModel", name := "within", desc := "(III)Z" } : Jvm.MethodName)) ∈ lw_tbl := tk_8 (List.mem_of_getElem? (i := 144) rfl)
theorem li_X12_392 : kLS RX12 392 yX12_within cX12_within 3 (some .boolean) 3 := ⟨tw_1823, tw_1824, tw_1825, tw_13, by decide +kernel⟩
theorem dX12_isWhat_4 : decode cX12_isWhat 4 = .ok (.invokestatic 392, 3) := by decide +kernel
theorem dX12_isWhat_7 : decode cX12_isWhat 7 = .ok (.iconst 1, 1) := by decide +kernel
theorem dX12_isWhat_8 : decode cX12_isWhat 8 = .ok (.invokevirtual 328, 3) := by decide +kernel
theorem dX12_isWhat_11 : decode cX12_isWhat 11 = .ok (.ireturn, 1) := by decide +kernel
theorem dX12_works0_0 : decode cX12_works0 0 = .ok (.iconst 0, 1) := by decide +kernel
theorem dX12_works0_1 : decode cX12_works0 1 = .ok (.istore_n 1, 1) := by decide +kernel
theorem dX12_works0_2 : decode cX12_works0 2 = .ok (.iload_n 1, 1) := by decide +kernel
theorem dX12_works0_3 : decode cX12_works0 3 = .ok (.aload_n 0, 1) := by decide +kernel
theorem dX12_works0_4 : decode cX12_works0 4 = .ok (.getfield 335, 3) := by decide +kernel
theorem dX12_works0_7 : decode cX12_works0 7 = .ok (.if_icmp .ge 260, 3) := by decide +kernel
theorem dX12_works0_267 : decode cX12_works0 267 = .ok (.return_, 1) := by decide +kernel
theorem dX12_lost_0 : decode cX12_lost 0 = .ok (.aload_n 0, 1) := by decide +kernel
theorem tw_1830 : (Jvm.Cond.methodLink "MarshBellsModel" (386 : Nat) ({ cls := "MarshBellsModel", name := "works0", desc := "()V" } : Jvm.MethodName)) ∈ lw_tbl := tk_8 (List.mem_of_getElem? (i := 150) rfl)
theorem tw_1833 : (Jvm.Cond.code ({ cls := "MarshBellsModel", name := "works0", desc := "()V" } : Jvm.MethodName) prog_14_method_45_code (6 : Nat) (Option.none : Option Jvm.ClassFile.FieldType)) ∈ lw_tbl := tk_8 (List.mem_of_getElem? (i := 153) rfl)
theorem tw_1832 : (Jvm.Cond.instanceMethod ({ cls := "MarshBellsModel", name := "works0", desc := "()V" } : Jvm.MethodName)) ∈ lw_tbl := tk_8 (List.mem_of_getElem? (i := 152) rfl)
theorem se_X12_works0 : Cond.selects RX12 yX12_works0 yX12_works0 ∈ lw_tbl := List.mem_append_left _ (List.mem_of_getElem? (i := 133) rfl)
theorem li_X12_386 : kLV RX12 386 RX12 yX12_works0 cX12_works0 6 none 0 := ⟨tw_1830, tw_1832, se_X12_works0, tw_1833, tw_13, by decide +kernel⟩
theorem dX12_lost_1 : decode cX12_lost 1 = .ok (.invokevirtual 386, 3) := by decide +kernel
theorem dX12_lost_4 : decode cX12_lost 4 = .ok (.iconst 0, 1) := by decide +kernel
theorem dX12_lost_5 : decode cX12_lost 5 = .ok (.istore_n 1, 1) := by decide +kernel
theorem dX12_lost_6 : decode cX12_lost 6 = .ok (.iconst 0, 1) := by decide +kernel
theorem dX12_lost_7 : decode cX12_lost 7 = .ok (.istore_n 2, 1) := by decide +kernel
theorem dX12_lost_8 : decode cX12_lost 8 = .ok (.iload_n 2, 1) := by decide +kernel
theorem dX12_lost_9 : decode cX12_lost 9 = .ok (.aload_n 0, 1) := by decide +kernel
theorem dX12_lost_10 : decode cX12_lost 10 = .ok (.getfield 335, 3) := by decide +kernel
theorem dX12_lost_13 : decode cX12_lost 13 = .ok (.if_icmp .ge 24, 3) := by decide +kernel
theorem dX12_lost_37 : decode cX12_lost 37 = .ok (.iload_n 1, 1) := by decide +kernel
theorem dX12_lost_38 : decode cX12_lost 38 = .ok (.ireturn, 1) := by decide +kernel
theorem dX12_lateness_0 : decode cX12_lateness 0 = .ok (.aload_n 0, 1) := by decide +kernel
theorem dX12_lateness_1 : decode cX12_lateness 1 = .ok (.invokevirtual 386, 3) := by decide +kernel
theorem dX12_lateness_4 : decode cX12_lateness 4 = .ok (.iconst 0, 1) := by decide +kernel
theorem dX12_lateness_5 : decode cX12_lateness 5 = .ok (.istore_n 2, 1) := by decide +kernel
theorem dX12_lateness_6 : decode cX12_lateness 6 = .ok (.iconst 0, 1) := by decide +kernel
theorem dX12_lateness_7 : decode cX12_lateness 7 = .ok (.istore_n 3, 1) := by decide +kernel
theorem dX12_lateness_8 : decode cX12_lateness 8 = .ok (.iload_n 3, 1) := by decide +kernel
theorem dX12_lateness_9 : decode cX12_lateness 9 = .ok (.aload_n 0, 1) := by decide +kernel
theorem dX12_lateness_10 : decode cX12_lateness 10 = .ok (.getfield 335, 3) := by decide +kernel
theorem dX12_lateness_13 : decode cX12_lateness 13 = .ok (.if_icmp .ge 77, 3) := by decide +kernel
theorem dX12_lateness_90 : decode cX12_lateness 90 = .ok (.iload_n 2, 1) := by decide +kernel
theorem dX12_lateness_91 : decode cX12_lateness 91 = .ok (.ireturn, 1) := by decide +kernel
theorem dX12_refuses_0 : decode cX12_refuses 0 = .ok (.aload_n 0, 1) := by decide +kernel
theorem dX12_refuses_1 : decode cX12_refuses 1 = .ok (.getfield 59, 3) := by decide +kernel
theorem dX12_refuses_4 : decode cX12_refuses 4 = .ok (.iload_n 1, 1) := by decide +kernel
theorem dX12_refuses_5 : decode cX12_refuses 5 = .ok (.dup2, 1) := by decide +kernel
theorem dX12_refuses_6 : decode cX12_refuses 6 = .ok (.iaload, 1) := by decide +kernel
theorem dX12_refuses_7 : decode cX12_refuses 7 = .ok (.iconst 1, 1) := by decide +kernel
theorem dX12_refuses_8 : decode cX12_refuses 8 = .ok (.iadd, 1) := by decide +kernel
theorem dX12_refuses_9 : decode cX12_refuses 9 = .ok (.iastore, 1) := by decide +kernel
theorem dX12_refuses_10 : decode cX12_refuses 10 = .ok (.iconst (-1), 1) := by decide +kernel
theorem dX12_refuses_11 : decode cX12_refuses 11 = .ok (.ireturn, 1) := by decide +kernel
theorem dX12_keeps_0 : decode cX12_keeps 0 = .ok (.aload_n 0, 1) := by decide +kernel
theorem tw_1485 : (Jvm.Cond.fieldLink "MarshBellsModel" (345 : Nat) "MarshBellsModel" "acts" "I") ∈ lw_tbl := tk_7 (List.mem_of_getElem? (i := 45) rfl)
theorem fl_X12_345 : kFL RX12 345 12 88 62 := ⟨RX12, TX12, rfl, by decide, inWX12, tw_1485⟩
theorem dX12_keeps_1 : decode cX12_keeps 1 = .ok (.getfield 345, 3) := by decide +kernel
theorem dX12_keeps_4 : decode cX12_keeps 4 = .ok (.bipush 40, 2) := by decide +kernel
theorem dX12_keeps_6 : decode cX12_keeps 6 = .ok (.if_icmp .ne 41, 3) := by decide +kernel
theorem dX12_keeps_47 : decode cX12_keeps 47 = .ok (.aload_n 0, 1) := by decide +kernel
theorem dX12_keeps_48 : decode cX12_keeps 48 = .ok (.getfield 132, 3) := by decide +kernel
theorem dX12_keeps_51 : decode cX12_keeps 51 = .ok (.iconst 2, 1) := by decide +kernel
theorem dX12_keeps_52 : decode cX12_keeps 52 = .ok (.aload_n 0, 1) := by decide +kernel
theorem dX12_keeps_53 : decode cX12_keeps 53 = .ok (.getfield 345, 3) := by decide +kernel
theorem dX12_keeps_56 : decode cX12_keeps 56 = .ok (.imul, 1) := by decide +kernel
theorem dX12_keeps_57 : decode cX12_keeps 57 = .ok (.iload_n 1, 1) := by decide +kernel
theorem dX12_keeps_58 : decode cX12_keeps 58 = .ok (.iastore, 1) := by decide +kernel
theorem dX12_keeps_59 : decode cX12_keeps 59 = .ok (.aload_n 0, 1) := by decide +kernel
theorem dX12_keeps_60 : decode cX12_keeps 60 = .ok (.getfield 132, 3) := by decide +kernel
theorem dX12_keeps_63 : decode cX12_keeps 63 = .ok (.iconst 2, 1) := by decide +kernel
theorem dX12_keeps_64 : decode cX12_keeps 64 = .ok (.aload_n 0, 1) := by decide +kernel
theorem dX12_keeps_65 : decode cX12_keeps 65 = .ok (.getfield 345, 3) := by decide +kernel
theorem dX12_keeps_68 : decode cX12_keeps 68 = .ok (.imul, 1) := by decide +kernel
theorem dX12_keeps_69 : decode cX12_keeps 69 = .ok (.iconst 1, 1) := by decide +kernel
theorem dX12_keeps_70 : decode cX12_keeps 70 = .ok (.iadd, 1) := by decide +kernel
theorem dX12_keeps_71 : decode cX12_keeps 71 = .ok (.iload_n 2, 1) := by decide +kernel
theorem dX12_keeps_72 : decode cX12_keeps 72 = .ok (.iastore, 1) := by decide +kernel
theorem dX12_keeps_73 : decode cX12_keeps 73 = .ok (.aload_n 0, 1) := by decide +kernel
theorem dX12_keeps_74 : decode cX12_keeps 74 = .ok (.dup, 1) := by decide +kernel
theorem dX12_keeps_75 : decode cX12_keeps 75 = .ok (.getfield 345, 3) := by decide +kernel
theorem dX12_keeps_78 : decode cX12_keeps 78 = .ok (.iconst 1, 1) := by decide +kernel
theorem dX12_keeps_79 : decode cX12_keeps 79 = .ok (.iadd, 1) := by decide +kernel
theorem ft_X12_62 : kFT 12 62 .int false RX12 := ⟨RX12, TX12, 88, tyX12, rfl, tyX12_ok, nmX12, rfl, by decide +kernel, rfl⟩
theorem dX12_keeps_80 : decode cX12_keeps 80 = .ok (.putfield 345, 3) := by decide +kernel
theorem dX12_keeps_83 : decode cX12_keeps 83 = .ok (.return_, 1) := by decide +kernel
theorem dX12_lostBy_0 : decode cX12_lostBy 0 = .ok (.aload_n 0, 1) := by decide +kernel
theorem dX12_lostBy_1 : decode cX12_lostBy 1 = .ok (.getfield 105, 3) := by decide +kernel
theorem dX12_lostBy_4 : decode cX12_lostBy 4 = .ok (.istore_n 2, 1) := by decide +kernel
theorem dX12_lostBy_5 : decode cX12_lostBy 5 = .ok (.aload_n 0, 1) := by decide +kernel
theorem dX12_lostBy_6 : decode cX12_lostBy 6 = .ok (.iload_n 1, 1) := by decide +kernel
theorem dX12_lostBy_7 : decode cX12_lostBy 7 = .ok (.putfield 105, 3) := by decide +kernel
theorem dX12_lostBy_10 : decode cX12_lostBy 10 = .ok (.aload_n 0, 1) := by decide +kernel
theorem tw_1867 : (Jvm.Cond.methodLink "MarshBellsModel" (399 : Nat) ({ cls := "MarshBellsModel", name := "lost", desc := "()I" } : Jvm.MethodName)) ∈ lw_tbl := tk_8 (List.mem_of_getElem? (i := 187) rfl)
theorem tw_1870 : (Jvm.Cond.code ({ cls := "MarshBellsModel", name := "lost", desc := "()I" } : Jvm.MethodName) prog_14_method_47_code (3 : Nat) (Option.some Jvm.ClassFile.FieldType.int)) ∈ lw_tbl := tk_8 (List.mem_of_getElem? (i := 190) rfl)
theorem tw_1869 : (Jvm.Cond.instanceMethod ({ cls := "MarshBellsModel", name := "lost", desc := "()I" } : Jvm.MethodName)) ∈ lw_tbl := tk_8 (List.mem_of_getElem? (i := 189) rfl)
theorem se_X12_lost : Cond.selects RX12 yX12_lost yX12_lost ∈ lw_tbl := List.mem_append_left _ (List.mem_of_getElem? (i := 140) rfl)
theorem li_X12_399 : kLV RX12 399 RX12 yX12_lost cX12_lost 3 (some .int) 0 := ⟨tw_1867, tw_1869, se_X12_lost, tw_1870, tw_13, by decide +kernel⟩
theorem dX12_lostBy_11 : decode cX12_lostBy 11 = .ok (.invokevirtual 399, 3) := by decide +kernel
theorem dX12_lostBy_14 : decode cX12_lostBy 14 = .ok (.istore_n 3, 1) := by decide +kernel
theorem dX12_lostBy_15 : decode cX12_lostBy 15 = .ok (.aload_n 0, 1) := by decide +kernel
theorem dX12_lostBy_16 : decode cX12_lostBy 16 = .ok (.iload_n 2, 1) := by decide +kernel
theorem dX12_lostBy_17 : decode cX12_lostBy 17 = .ok (.putfield 105, 3) := by decide +kernel
theorem dX12_lostBy_20 : decode cX12_lostBy 20 = .ok (.iload_n 3, 1) := by decide +kernel
theorem dX12_lostBy_21 : decode cX12_lostBy 21 = .ok (.ireturn, 1) := by decide +kernel
theorem dX12_ways_0 : decode cX12_ways 0 = .ok (.aload_n 0, 1) := by decide +kernel
theorem dX12_ways_1 : decode cX12_ways 1 = .ok (.invokevirtual 386, 3) := by decide +kernel
theorem dX12_ways_4 : decode cX12_ways 4 = .ok (.aload_n 0, 1) := by decide +kernel
theorem dX12_ways_5 : decode cX12_ways 5 = .ok (.iconst 0, 1) := by decide +kernel
theorem tw_1502 : (Jvm.Cond.fieldLink "MarshBellsModel" (465 : Nat) "MarshBellsModel" "wayMany" "I") ∈ lw_tbl := tk_7 (List.mem_of_getElem? (i := 62) rfl)
theorem fl_X12_465 : kFL RX12 465 12 88 79 := ⟨RX12, TX12, rfl, by decide, inWX12, tw_1502⟩
theorem ft_X12_79 : kFT 12 79 .int false RX12 := ⟨RX12, TX12, 88, tyX12, rfl, tyX12_ok, nmX12, rfl, by decide +kernel, rfl⟩
theorem dX12_ways_6 : decode cX12_ways 6 = .ok (.putfield 465, 3) := by decide +kernel
theorem dX12_ways_9 : decode cX12_ways 9 = .ok (.iconst 0, 1) := by decide +kernel
theorem dX12_ways_10 : decode cX12_ways 10 = .ok (.istore_n 1, 1) := by decide +kernel
theorem dX12_ways_11 : decode cX12_ways 11 = .ok (.iload_n 1, 1) := by decide +kernel
theorem dX12_ways_12 : decode cX12_ways 12 = .ok (.aload_n 0, 1) := by decide +kernel
theorem dX12_ways_13 : decode cX12_ways 13 = .ok (.getfield 335, 3) := by decide +kernel
theorem dX12_ways_16 : decode cX12_ways 16 = .ok (.if_icmp .ge 151, 3) := by decide +kernel
theorem dX12_ways_167 : decode cX12_ways 167 = .ok (.return_, 1) := by decide +kernel
theorem dX12_onStair_0 : decode cX12_onStair 0 = .ok (.iconst 0, 1) := by decide +kernel
theorem dX12_onStair_1 : decode cX12_onStair 1 = .ok (.istore_n 2, 1) := by decide +kernel
theorem dX12_onStair_2 : decode cX12_onStair 2 = .ok (.iconst 0, 1) := by decide +kernel
theorem dX12_onStair_3 : decode cX12_onStair 3 = .ok (.istore_n 3, 1) := by decide +kernel
theorem dX12_onStair_4 : decode cX12_onStair 4 = .ok (.iload_n 3, 1) := by decide +kernel
theorem dX12_onStair_5 : decode cX12_onStair 5 = .ok (.aload_n 0, 1) := by decide +kernel
theorem dX12_onStair_6 : decode cX12_onStair 6 = .ok (.getfield 465, 3) := by decide +kernel
theorem dX12_onStair_9 : decode cX12_onStair 9 = .ok (.if_icmp .ge 54, 3) := by decide +kernel
theorem dX12_onStair_63 : decode cX12_onStair 63 = .ok (.iload_n 2, 1) := by decide +kernel
theorem dX12_onStair_64 : decode cX12_onStair 64 = .ok (.ireturn, 1) := by decide +kernel
theorem dX12_lays_0 : decode cX12_lays 0 = .ok (.bipush 24, 2) := by decide +kernel
theorem dX12_lays_2 : decode cX12_lays 2 = .ok (.istore_n 2, 1) := by decide +kernel
theorem dX12_lays_3 : decode cX12_lays 3 = .ok (.iload_n 2, 1) := by decide +kernel
theorem dX12_lays_4 : decode cX12_lays 4 = .ok (.ifCond .lt 35, 3) := by decide +kernel
theorem dX12_lays_7 : decode cX12_lays 7 = .ok (.aload_n 0, 1) := by decide +kernel
theorem dX12_lays_8 : decode cX12_lays 8 = .ok (.getfield 53, 3) := by decide +kernel
theorem dX12_lays_11 : decode cX12_lays 11 = .ok (.aload_n 0, 1) := by decide +kernel
theorem tw_1441 : (Jvm.Cond.fieldLink "MarshBellsModel" (180 : Nat) "MarshBellsModel" "taped" "I") ∈ lw_tbl := tk_7 (List.mem_of_getElem? (i := 1) rfl)
theorem fl_X12_180 : kFL RX12 180 12 88 18 := ⟨RX12, TX12, rfl, by decide, inWX12, tw_1441⟩
theorem dX12_lays_12 : decode cX12_lays 12 = .ok (.getfield 180, 3) := by decide +kernel
theorem dX12_lays_15 : decode cX12_lays 15 = .ok (.iload_n 1, 1) := by decide +kernel
theorem dX12_lays_16 : decode cX12_lays 16 = .ok (.iload_n 2, 1) := by decide +kernel
theorem dX12_lays_17 : decode cX12_lays 17 = .ok (.ishr, 1) := by decide +kernel
theorem dX12_lays_18 : decode cX12_lays 18 = .ok (.sipush 255, 3) := by decide +kernel
theorem dX12_lays_21 : decode cX12_lays 21 = .ok (.iand, 1) := by decide +kernel
theorem dX12_lays_22 : decode cX12_lays 22 = .ok (.iastore, 1) := by decide +kernel
theorem dX12_lays_23 : decode cX12_lays 23 = .ok (.aload_n 0, 1) := by decide +kernel
theorem dX12_lays_24 : decode cX12_lays 24 = .ok (.dup, 1) := by decide +kernel
theorem dX12_lays_25 : decode cX12_lays 25 = .ok (.getfield 180, 3) := by decide +kernel
theorem dX12_lays_28 : decode cX12_lays 28 = .ok (.iconst 1, 1) := by decide +kernel
theorem dX12_lays_29 : decode cX12_lays 29 = .ok (.iadd, 1) := by decide +kernel
theorem ft_X12_18 : kFT 12 18 .int false RX12 := ⟨RX12, TX12, 88, tyX12, rfl, tyX12_ok, nmX12, rfl, by decide +kernel, rfl⟩
theorem dX12_lays_30 : decode cX12_lays 30 = .ok (.putfield 180, 3) := by decide +kernel
theorem dX12_lays_33 : decode cX12_lays 33 = .ok (.iinc 2 (-8), 3) := by decide +kernel
theorem dX12_lays_36 : decode cX12_lays 36 = .ok (.goto (-33), 3) := by decide +kernel
theorem dX12_lays_39 : decode cX12_lays 39 = .ok (.return_, 1) := by decide +kernel
theorem dX12_byteAt_0 : decode cX12_byteAt 0 = .ok (.iload_n 1, 1) := by decide +kernel
theorem dX12_byteAt_1 : decode cX12_byteAt 1 = .ok (.aload_n 0, 1) := by decide +kernel
theorem tw_1445 : (Jvm.Cond.fieldLink "MarshBellsModel" (187 : Nat) "MarshBellsModel" "long1" "I") ∈ lw_tbl := tk_7 (List.mem_of_getElem? (i := 5) rfl)
theorem fl_X12_187 : kFL RX12 187 12 88 22 := ⟨RX12, TX12, rfl, by decide, inWX12, tw_1445⟩
theorem dX12_byteAt_2 : decode cX12_byteAt 2 = .ok (.getfield 187, 3) := by decide +kernel
theorem dX12_byteAt_5 : decode cX12_byteAt 5 = .ok (.if_icmp .ge 12, 3) := by decide +kernel
theorem dX12_byteAt_17 : decode cX12_byteAt 17 = .ok (.iconst 0, 1) := by decide +kernel
theorem dX12_byteAt_18 : decode cX12_byteAt 18 = .ok (.ireturn, 1) := by decide +kernel
theorem dX12_isGood_0 : decode cX12_isGood 0 = .ok (.aload_n 0, 1) := by decide +kernel
theorem tw_1442 : (Jvm.Cond.fieldLink "MarshBellsModel" (233 : Nat) "MarshBellsModel" "faultKind" "I") ∈ lw_tbl := tk_7 (List.mem_of_getElem? (i := 2) rfl)
theorem fl_X12_233 : kFL RX12 233 12 88 19 := ⟨RX12, TX12, rfl, by decide, inWX12, tw_1442⟩
theorem dX12_isGood_1 : decode cX12_isGood 1 = .ok (.getfield 233, 3) := by decide +kernel
theorem dX12_isGood_4 : decode cX12_isGood 4 = .ok (.ifCond .ne 7, 3) := by decide +kernel
theorem dX12_isGood_7 : decode cX12_isGood 7 = .ok (.iconst 1, 1) := by decide +kernel
theorem dX12_isGood_8 : decode cX12_isGood 8 = .ok (.goto 4, 3) := by decide +kernel
theorem dX12_isGood_12 : decode cX12_isGood 12 = .ok (.ireturn, 1) := by decide +kernel
theorem dX12_goes_0 : decode cX12_goes 0 = .ok (.aload_n 0, 1) := by decide +kernel
theorem tw_1446 : (Jvm.Cond.fieldLink "MarshBellsModel" (190 : Nat) "MarshBellsModel" "next" "I") ∈ lw_tbl := tk_7 (List.mem_of_getElem? (i := 6) rfl)
theorem fl_X12_190 : kFL RX12 190 12 88 23 := ⟨RX12, TX12, rfl, by decide, inWX12, tw_1446⟩
theorem dX12_goes_1 : decode cX12_goes 1 = .ok (.getfield 190, 3) := by decide +kernel
theorem dX12_goes_4 : decode cX12_goes 4 = .ok (.aload_n 0, 1) := by decide +kernel
theorem dX12_goes_5 : decode cX12_goes 5 = .ok (.getfield 187, 3) := by decide +kernel
theorem dX12_goes_8 : decode cX12_goes 8 = .ok (.if_icmp .ge 42, 3) := by decide +kernel
theorem dX12_goes_50 : decode cX12_goes 50 = .ok (.aload_n 0, 1) := by decide +kernel
theorem dX12_goes_51 : decode cX12_goes 51 = .ok (.aload_n 0, 1) := by decide +kernel
theorem dX12_goes_52 : decode cX12_goes 52 = .ok (.getfield 190, 3) := by decide +kernel
theorem tw_1448 : (Jvm.Cond.fieldLink "MarshBellsModel" (197 : Nat) "MarshBellsModel" "place" "I") ∈ lw_tbl := tk_7 (List.mem_of_getElem? (i := 8) rfl)
theorem fl_X12_197 : kFL RX12 197 12 88 25 := ⟨RX12, TX12, rfl, by decide, inWX12, tw_1448⟩
theorem ft_X12_25 : kFT 12 25 .int false RX12 := ⟨RX12, TX12, 88, tyX12, rfl, tyX12_ok, nmX12, rfl, by decide +kernel, rfl⟩
theorem dX12_goes_55 : decode cX12_goes 55 = .ok (.putfield 197, 3) := by decide +kernel
theorem dX12_goes_58 : decode cX12_goes 58 = .ok (.aload_n 0, 1) := by decide +kernel
theorem dX12_goes_59 : decode cX12_goes 59 = .ok (.lconst 0, 1) := by decide +kernel
theorem tw_1452 : (Jvm.Cond.fieldLink "MarshBellsModel" (200 : Nat) "MarshBellsModel" "word" "J") ∈ lw_tbl := tk_7 (List.mem_of_getElem? (i := 12) rfl)
theorem fl_X12_200 : kFL RX12 200 12 88 29 := ⟨RX12, TX12, rfl, by decide, inWX12, tw_1452⟩
theorem ft_X12_29 : kFT 12 29 .long false RX12 := ⟨RX12, TX12, 88, tyX12, rfl, tyX12_ok, nmX12, rfl, by decide +kernel, rfl⟩
theorem dX12_goes_60 : decode cX12_goes 60 = .ok (.putfield 200, 3) := by decide +kernel
theorem dX12_goes_63 : decode cX12_goes 63 = .ok (.aload_n 0, 1) := by decide +kernel
theorem dX12_goes_64 : decode cX12_goes 64 = .ok (.iconst 0, 1) := by decide +kernel
theorem tw_1450 : (Jvm.Cond.fieldLink "MarshBellsModel" (204 : Nat) "MarshBellsModel" "value" "I") ∈ lw_tbl := tk_7 (List.mem_of_getElem? (i := 10) rfl)
theorem fl_X12_204 : kFL RX12 204 12 88 27 := ⟨RX12, TX12, rfl, by decide, inWX12, tw_1450⟩
theorem ft_X12_27 : kFT 12 27 .int false RX12 := ⟨RX12, TX12, 88, tyX12, rfl, tyX12_ok, nmX12, rfl, by decide +kernel, rfl⟩
theorem dX12_goes_65 : decode cX12_goes 65 = .ok (.putfield 204, 3) := by decide +kernel
theorem dX12_goes_68 : decode cX12_goes 68 = .ok (.aload_n 0, 1) := by decide +kernel
theorem dX12_goes_69 : decode cX12_goes 69 = .ok (.aload_n 0, 1) := by decide +kernel
theorem dX12_goes_70 : decode cX12_goes 70 = .ok (.getfield 190, 3) := by decide +kernel
theorem tw_1712 : (Jvm.Cond.methodLink "MarshBellsModel" (193 : Nat) ({ cls := "MarshBellsModel", name := "byteAt", desc := "(I)I" } : Jvm.MethodName)) ∈ lw_tbl := tk_8 (List.mem_of_getElem? (i := 32) rfl)
theorem tw_1715 : (Jvm.Cond.code ({ cls := "MarshBellsModel", name := "byteAt", desc := "(I)I" } : Jvm.MethodName) prog_14_method_9_code (2 : Nat) (Option.some Jvm.ClassFile.FieldType.int)) ∈ lw_tbl := tk_8 (List.mem_of_getElem? (i := 35) rfl)
theorem tw_1714 : (Jvm.Cond.instanceMethod ({ cls := "MarshBellsModel", name := "byteAt", desc := "(I)I" } : Jvm.MethodName)) ∈ lw_tbl := tk_8 (List.mem_of_getElem? (i := 34) rfl)
theorem se_X12_byteAt : Cond.selects RX12 yX12_byteAt yX12_byteAt ∈ lw_tbl := List.mem_append_left _ (List.mem_of_getElem? (i := 111) rfl)
theorem li_X12_193 : kLV RX12 193 RX12 yX12_byteAt cX12_byteAt 2 (some .int) 1 := ⟨tw_1712, tw_1714, se_X12_byteAt, tw_1715, tw_13, by decide +kernel⟩
theorem dX12_goes_73 : decode cX12_goes 73 = .ok (.invokevirtual 193, 3) := by decide +kernel
theorem dX12_goes_76 : decode cX12_goes 76 = .ok (.istore_n 1, 1) := by decide +kernel
theorem dX12_goes_77 : decode cX12_goes 77 = .ok (.aload_n 0, 1) := by decide +kernel
theorem dX12_goes_78 : decode cX12_goes 78 = .ok (.iload_n 1, 1) := by decide +kernel
theorem tw_1451 : (Jvm.Cond.fieldLink "MarshBellsModel" (207 : Nat) "MarshBellsModel" "sign" "I") ∈ lw_tbl := tk_7 (List.mem_of_getElem? (i := 11) rfl)
theorem fl_X12_207 : kFL RX12 207 12 88 28 := ⟨RX12, TX12, rfl, by decide, inWX12, tw_1451⟩
theorem ft_X12_28 : kFT 12 28 .int false RX12 := ⟨RX12, TX12, 88, tyX12, rfl, tyX12_ok, nmX12, rfl, by decide +kernel, rfl⟩
theorem dX12_goes_79 : decode cX12_goes 79 = .ok (.putfield 207, 3) := by decide +kernel
theorem dX12_goes_82 : decode cX12_goes 82 = .ok (.aload_n 0, 1) := by decide +kernel
theorem dX12_goes_83 : decode cX12_goes 83 = .ok (.getfield 190, 3) := by decide +kernel
theorem dX12_goes_86 : decode cX12_goes 86 = .ok (.aload_n 0, 1) := by decide +kernel
theorem dX12_goes_87 : decode cX12_goes 87 = .ok (.getfield 187, 3) := by decide +kernel
theorem dX12_goes_90 : decode cX12_goes 90 = .ok (.if_icmp .lt 11, 3) := by decide +kernel
theorem dX12_goes_93 : decode cX12_goes 93 = .ok (.aload_n 0, 1) := by decide +kernel
theorem dX12_goes_94 : decode cX12_goes 94 = .ok (.iconst 0, 1) := by decide +kernel
theorem tw_1447 : (Jvm.Cond.fieldLink "MarshBellsModel" (210 : Nat) "MarshBellsModel" "sort" "I") ∈ lw_tbl := tk_7 (List.mem_of_getElem? (i := 7) rfl)
theorem fl_X12_210 : kFL RX12 210 12 88 24 := ⟨RX12, TX12, rfl, by decide, inWX12, tw_1447⟩
theorem ft_X12_24 : kFT 12 24 .int false RX12 := ⟨RX12, TX12, 88, tyX12, rfl, tyX12_ok, nmX12, rfl, by decide +kernel, rfl⟩
theorem dX12_goes_95 : decode cX12_goes 95 = .ok (.putfield 210, 3) := by decide +kernel
theorem dX12_goes_98 : decode cX12_goes 98 = .ok (.goto 233, 3) := by decide +kernel
theorem dX12_goes_331 : decode cX12_goes 331 = .ok (.aload_n 0, 1) := by decide +kernel
theorem dX12_goes_332 : decode cX12_goes 332 = .ok (.aload_n 0, 1) := by decide +kernel
theorem dX12_goes_333 : decode cX12_goes 333 = .ok (.getfield 190, 3) := by decide +kernel
theorem dX12_goes_336 : decode cX12_goes 336 = .ok (.aload_n 0, 1) := by decide +kernel
theorem dX12_goes_337 : decode cX12_goes 337 = .ok (.getfield 197, 3) := by decide +kernel
theorem dX12_goes_340 : decode cX12_goes 340 = .ok (.isub, 1) := by decide +kernel
theorem tw_1449 : (Jvm.Cond.fieldLink "MarshBellsModel" (220 : Nat) "MarshBellsModel" "long0" "I") ∈ lw_tbl := tk_7 (List.mem_of_getElem? (i := 9) rfl)
theorem fl_X12_220 : kFL RX12 220 12 88 26 := ⟨RX12, TX12, rfl, by decide, inWX12, tw_1449⟩
theorem ft_X12_26 : kFT 12 26 .int false RX12 := ⟨RX12, TX12, 88, tyX12, rfl, tyX12_ok, nmX12, rfl, by decide +kernel, rfl⟩
theorem dX12_goes_341 : decode cX12_goes 341 = .ok (.putfield 220, 3) := by decide +kernel
theorem dX12_goes_344 : decode cX12_goes 344 = .ok (.return_, 1) := by decide +kernel
set_option maxHeartbeats 4000000 in
set_option maxRecDepth 100000 in
theorem c_X12_copies (l : Launch) (G : kG) (sz : Nat) (h0 pa pb : Nat) (Fh0 : Nat → Value) (n : Nat) (f g : Nat → Int32) (hn : n < 2 ^ 31) : kM l yX12_copies cX12_copies 4 none { frames := 6, cells := 0, slots := 0, locals := 110 } G [.ref h0, .ref pa, .ref pb] [(h0, .inr (12, ofL 88 Fh0)), (pa, .inl (G.2.1, n, .inl f)), (pb, .inl (G.2.1, n, .inl g))] sz (kQv G (S := Nat → Int32) (fun _ => True) (fun u => [(h0, .inr (12, ofL 88 Fh0)), (pa, .inl (G.2.1, n, .inl f)), (pb, .inl (G.2.1, n, .inl u))])) := by
  refine kM.of (by decide) (Nat.le_of_ble_eq_true rfl) ?_
  intro p e s m below meth c A ls H C hr hlk hnm hP hD hS hl
  have C : kC G p s m c cX12_copies 4 RX12 A := C
  have hx := C.1
  have hb := C.2.1
  have hl : lv_has ls 4 [(0, .ref h0), (1, .ref pa), (2, .ref pb)] := hl
  have loop : ∀ (d k : Nat) (u : Nat → Int32) (H : Heap) (locs : List Loc) (ls : Array Slot), k + d = n → va_P G.1 vwCl [(h0, .inr (12, ofL 88 Fh0)), (pa, .inl (G.2.1, n, .inl f)), (pb, .inl (G.2.1, n, .inl u))] H → va_D A [(h0, .inr (12, ofL 88 Fh0)), (pa, .inl (G.2.1, n, .inl f)), (pb, .inl (G.2.1, n, .inl u))] → va_S A s.heap H locs → lv_has ls 4 [(3, .int (nI k)), (0, .ref h0), (1, .ref pa), (2, .ref pb)] →
      W p l e { frames := 6, cells := 0, slots := 0, locals := 110 } s m [Value.ref h0, Value.ref pa, Value.ref pb].toArray below meth c H locs 0 0 (MQ below (kQv G (S := Nat → Int32) (fun _ => True) (fun u => [(h0, .inr (12, ofL 88 Fh0)), (pa, .inl (G.2.1, n, .inl f)), (pb, .inl (G.2.1, n, .inl u))]) A) [Value.ref h0, Value.ref pa, Value.ref pb].toArray s 0 0 A) (F0 m 2 ls []) := by
    intro d
    induction d with
    | zero =>
      intro k u H locs ls hk hP hD hS hl
      refine lv_iload_n hx hb dX12_copies_2 rfl (lv_at hl 0 rfl) ?_
      refine lv_aload_n hx hb dX12_copies_3 rfl (lv_at hl 2 rfl) ?_
      refine k_alen (v := nI n) C hP 1 rfl rfl dX12_copies_4 ?_
      refine lv_icmp_ge (x := nI k) (y := nI n) (tgt := 20) hx hb dX12_copies_5 (by decide) (fun c_1 => ?_) (fun c_1 => ?_)
      · exact k_vret C hr hlk hP hD hS u trivial [0, 1, 2] rfl rfl (Nat.le_refl _) (Nat.le_refl _) dX12_copies_20
      · exact absurd (nI_le (by omega) (by omega)) c_1
    | succ d ih =>
      intro k u H locs ls hk hP hD hS hl
      refine lv_iload_n hx hb dX12_copies_2 rfl (lv_at hl 0 rfl) ?_
      refine lv_aload_n hx hb dX12_copies_3 rfl (lv_at hl 2 rfl) ?_
      refine k_alen (v := nI n) C hP 1 rfl rfl dX12_copies_4 ?_
      refine lv_icmp_ge (x := nI k) (y := nI n) (tgt := 20) hx hb dX12_copies_5 (by decide) (fun c_1 => ?_) (fun c_1 => ?_)
      · exact absurd c_1 (nI_ge (by omega) (by omega))
      refine lv_aload_n hx hb dX12_copies_8 rfl (lv_at hl 3 rfl) ?_
      refine lv_iload_n hx hb dX12_copies_9 rfl (lv_at hl 0 rfl) ?_
      refine lv_aload_n hx hb dX12_copies_10 rfl (lv_at hl 2 rfl) ?_
      refine lv_iload_n hx hb dX12_copies_11 rfl (lv_at hl 0 rfl) ?_
      refine k_iald C hP 1 rfl (vp_in_nI (by omega) (by omega)) dX12_copies_12 ?_
      refine k_iast C hP hD hS 2 rfl (vp_in_nI (by omega) (by omega)) dX12_copies_13 (fun H locs hP hD hS => ?_)
      generalize upd u (nI k).toNatClampNeg (f (nI k).toNatClampNeg) = u2 at hP hD
      refine lv_iinc (v := nI (k + 1)) (lv' := [(3, .int (nI (k + 1))), (0, .ref h0), (1, .ref pa), (2, .ref pb)]) hx hb dX12_copies_14 hl (k := 0) rfl (nI_1 k) (by decide) rfl (fun ls hl => ?_)
      refine lv_goto (tgt := 2) hx hb dX12_copies_17 (by decide) ?_
      exact ih (k + 1) u2 H locs ls (by omega) hP hD hS hl
  refine lv_iconst (v := 0) hx hb dX12_copies_0 (by decide) ?_
  refine lv_istore_n (lv' := [(3, .int 0), (0, .ref h0), (1, .ref pa), (2, .ref pb)]) hx hb dX12_copies_1 rfl hl (by decide) rfl (fun ls hl => ?_)
  exact loop n 0 g H _ ls (by omega) hP hD hS hl
set_option maxHeartbeats 4000000 in
set_option maxRecDepth 100000 in
theorem c_X12_within (l : Launch) (G : kG) (sz : Nat) (n0 : Int32) (n1 : Int32) (n2 : Int32) : kM l yX12_within cX12_within 3 (some .boolean) { frames := 6, cells := 0, slots := 0, locals := 110 } G [.int n0, .int n1, .int n2] [] sz (kQi G (S := Nat) (fun r u => (u = 0 ∧ r = 0 ∧ n0 < n1) ∨ (u = 1 ∧ r = 0 ∧ ¬ n0 < n1 ∧ n2 < n0) ∨ (u = 2 ∧ r = 1 ∧ ¬ n0 < n1 ∧ ¬ n2 < n0)) (fun u => match u with | 0 => [] | 1 => [] | _ => [])) := by
  refine kM.of (by decide) (Nat.le_of_ble_eq_true rfl) ?_
  intro p e s m below meth c A ls H C hr hlk hnm hP hD hS hl
  have C : kC G p s m c cX12_within 3 RX12 A := C
  have hx := C.1
  have hb := C.2.1
  have hl : lv_has ls 3 [(0, .int n0), (1, .int n1), (2, .int n2)] := hl
  refine lv_iload_n hx hb dX12_within_0 rfl (lv_at hl 0 rfl) ?_
  refine lv_iload_n hx hb dX12_within_1 rfl (lv_at hl 1 rfl) ?_
  refine lv_icmp_lt (x := n0) (y := n1) (tgt := 14) hx hb dX12_within_2 (by decide) (fun c_1 => ?_) (fun c_1 => ?_)
  ·
    refine lv_iconst (v := 0) hx hb dX12_within_14 (by decide) ?_
    exact k_zret C hr hlk rfl hP hD hS 0 (Or.inl ⟨rfl, rfl, c_1⟩) [] rfl rfl (Nat.le_of_ble_eq_true rfl) (Nat.le_of_ble_eq_true rfl) dX12_within_15
  ·
    refine lv_iload_n hx hb dX12_within_5 rfl (lv_at hl 0 rfl) ?_
    refine lv_iload_n hx hb dX12_within_6 rfl (lv_at hl 2 rfl) ?_
    refine lv_icmp_gt (x := n0) (y := n2) (tgt := 14) hx hb dX12_within_7 (by decide) (fun c_2 => ?_) (fun c_2 => ?_)
    ·
      refine lv_iconst (v := 0) hx hb dX12_within_14 (by decide) ?_
      exact k_zret C hr hlk rfl hP hD hS 1 (Or.inr (Or.inl ⟨rfl, rfl, c_1, c_2⟩)) [] rfl rfl (Nat.le_of_ble_eq_true rfl) (Nat.le_of_ble_eq_true rfl) dX12_within_15
    ·
      refine lv_iconst (v := 1) hx hb dX12_within_10 (by decide) ?_
      refine lv_goto (tgt := 15) hx hb dX12_within_11 (by decide) ?_
      exact k_zret C hr hlk rfl hP hD hS 2 (Or.inr (Or.inr (⟨rfl, rfl, c_1, c_2⟩))) [] rfl rfl (Nat.le_of_ble_eq_true rfl) (Nat.le_of_ble_eq_true rfl) dX12_within_15
set_option maxHeartbeats 4000000 in
set_option maxRecDepth 100000 in
theorem c_X12_right1 (l : Launch) (G : kG) (sz : Nat) (h0 : Nat) (n0 : Int32) (Fh0 : Nat → Value) (e_h0_0 : Fh0 0 = .int 0) : kM l yX12_right cX12_right 3 (some .boolean) { frames := 6, cells := 0, slots := 0, locals := 110 } G [.ref h0, .int 1, .int n0] [(h0, .inr (12, ofL 88 Fh0))] sz (kQi G (S := Unit) (fun r (_ : Unit) => r = 1) (fun _ => [(h0, .inr (12, ofL 88 Fh0))])) := by
  refine kM.of (by decide) (Nat.le_of_ble_eq_true rfl) ?_
  intro p e s m below meth c A ls H C hr hlk hnm hP hD hS hl
  have C : kC G p s m c cX12_right 3 RX12 A := C
  have hx := C.1
  have hb := C.2.1
  have hl : lv_has ls 3 [(0, .ref h0), (1, .int 1), (2, .int n0)] := hl
  refine lv_aload_n hx hb dX12_right_0 rfl (lv_at hl 0 rfl) ?_
  refine k_get (v := .int 0) fl_X12_177 C hP 0 rfl e_h0_0 dX12_right_1 ?_
  refine lv_if_ne (x := 0) (tgt := 16) hx hb dX12_right_4 (by decide) (fun c_1 => ?_) (fun c_1 => ?_)
  · exact absurd (by decide) c_1
  refine lv_iload_n hx hb dX12_right_7 rfl (lv_at hl 1 rfl) ?_
  refine lv_if_ne (x := 1) (tgt := 16) hx hb dX12_right_8 (by decide) (fun c_2 => ?_) (fun c_2 => ?_)
  rotate_left
  · exact absurd c_2 (by decide)
  refine lv_aload_n hx hb dX12_right_16 rfl (lv_at hl 0 rfl) ?_
  refine k_get (v := .int 0) fl_X12_177 C hP 0 rfl e_h0_0 dX12_right_17 ?_
  refine lv_if_ne (x := 0) (tgt := 27) hx hb dX12_right_20 (by decide) (fun c_3 => ?_) (fun c_3 => ?_)
  · exact absurd (by decide) c_3
  refine lv_iconst (v := 1) hx hb dX12_right_23 (by decide) ?_
  refine lv_goto (tgt := 28) hx hb dX12_right_24 (by decide) ?_
  exact k_zret C hr hlk rfl hP hD hS () (rfl) [0] rfl rfl (Nat.le_of_ble_eq_true rfl) (Nat.le_of_ble_eq_true rfl) dX12_right_28
set_option maxHeartbeats 4000000 in
set_option maxRecDepth 100000 in
theorem c_X12_right0 (l : Launch) (G : kG) (sz : Nat) (h0 : Nat) (n0 : Int32) (Fh0 : Nat → Value) (e_h0_0 : Fh0 0 = .int 0) : kM l yX12_right cX12_right 3 (some .boolean) { frames := 6, cells := 0, slots := 0, locals := 110 } G [.ref h0, .int 0, .int n0] [(h0, .inr (12, ofL 88 Fh0))] sz (kQi G (S := Nat) (fun r u => (u = 0 ∧ r = 0 ∧ ¬ n0 = 0) ∨ (u = 1 ∧ r = 1 ∧ n0 = 0)) (fun u => match u with | 0 => [(h0, .inr (12, ofL 88 (updV Fh0 0 (.int n0))))] | _ => [(h0, .inr (12, ofL 88 (updV Fh0 0 (.int n0))))])) := by
  refine kM.of (by decide) (Nat.le_of_ble_eq_true rfl) ?_
  intro p e s m below meth c A ls H C hr hlk hnm hP hD hS hl
  have C : kC G p s m c cX12_right 3 RX12 A := C
  have hx := C.1
  have hb := C.2.1
  have hl : lv_has ls 3 [(0, .ref h0), (1, .int 0), (2, .int n0)] := hl
  refine lv_aload_n hx hb dX12_right_0 rfl (lv_at hl 0 rfl) ?_
  refine k_get (v := .int 0) fl_X12_177 C hP 0 rfl e_h0_0 dX12_right_1 ?_
  refine lv_if_ne (x := 0) (tgt := 16) hx hb dX12_right_4 (by decide) (fun c_1 => ?_) (fun c_1 => ?_)
  · exact absurd (by decide) c_1
  refine lv_iload_n hx hb dX12_right_7 rfl (lv_at hl 1 rfl) ?_
  refine lv_if_ne (x := 0) (tgt := 16) hx hb dX12_right_8 (by decide) (fun c_2 => ?_) (fun c_2 => ?_)
  · exact absurd (by decide) c_2
  refine lv_aload_n hx hb dX12_right_11 rfl (lv_at hl 0 rfl) ?_
  refine lv_iload_n hx hb dX12_right_12 rfl (lv_at hl 2 rfl) ?_
  refine k_put fl_X12_177 ft_X12_0 C hP hD hS 0 rfl rfl rfl dX12_right_13 (fun H locs hP hD hS => ?_)
  have hP : va_P G.1 vwCl [(h0, .inr (12, ofL 88 (updV Fh0 0 (.int n0))))] H := hP
  have hD : va_D A [(h0, .inr (12, ofL 88 (updV Fh0 0 (.int n0))))] := hD
  refine lv_aload_n hx hb dX12_right_16 rfl (lv_at hl 0 rfl) ?_
  refine k_get (v := .int n0) fl_X12_177 C hP 0 rfl rfl dX12_right_17 ?_
  refine lv_if_ne (x := n0) (tgt := 27) hx hb dX12_right_20 (by decide) (fun c_3 => ?_) (fun c_3 => ?_)
  ·
    refine lv_iconst (v := 0) hx hb dX12_right_27 (by decide) ?_
    exact k_zret C hr hlk rfl hP hD hS 0 (Or.inl ⟨rfl, rfl, c_3⟩) [0] rfl rfl (Nat.le_of_ble_eq_true rfl) (Nat.le_of_ble_eq_true rfl) dX12_right_28
  ·
    refine lv_iconst (v := 1) hx hb dX12_right_23 (by decide) ?_
    refine lv_goto (tgt := 28) hx hb dX12_right_24 (by decide) ?_
    exact k_zret C hr hlk rfl hP hD hS 1 (Or.inr (⟨rfl, rfl, c_3⟩)) [0] rfl rfl (Nat.le_of_ble_eq_true rfl) (Nat.le_of_ble_eq_true rfl) dX12_right_28
set_option maxHeartbeats 4000000 in
set_option maxRecDepth 100000 in
theorem c_X12_thrown (l : Launch) (G : kG) (sz : Nat) (h0 : Nat) (Fh0 : Nat → Value) (n0 : Int32) (e_h0_0 : Fh0 0 = .int n0) : kM l yX12_thrown cX12_thrown 1 (some .int) { frames := 6, cells := 0, slots := 0, locals := 110 } G [.ref h0] [(h0, .inr (12, ofL 88 Fh0))] sz (kQi G (S := Unit) (fun r (_ : Unit) => r = n0) (fun _ => [(h0, .inr (12, ofL 88 Fh0))])) := by
  refine kM.of (by decide) (Nat.le_of_ble_eq_true rfl) ?_
  intro p e s m below meth c A ls H C hr hlk hnm hP hD hS hl
  have C : kC G p s m c cX12_thrown 1 RX12 A := C
  have hx := C.1
  have hb := C.2.1
  have hl : lv_has ls 1 [(0, .ref h0)] := hl
  refine lv_aload_n hx hb dX12_thrown_0 rfl (lv_at hl 0 rfl) ?_
  refine k_get (v := .int n0) fl_X12_177 C hP 0 rfl e_h0_0 dX12_thrown_1 ?_
  exact k_iret C hr hlk hP hD hS () (rfl) [0] rfl rfl (Nat.le_of_ble_eq_true rfl) (Nat.le_of_ble_eq_true rfl) dX12_thrown_4
set_option maxHeartbeats 4000000 in
set_option maxRecDepth 100000 in
theorem c_X12_isLesson (l : Launch) (G : kG) (sz : Nat) (h0 : Nat) (n0 : Int32) (Fh0 : Nat → Value) (e_h0_0 : Fh0 0 = .int 0) (e_h0_1 : Fh0 1 = .int 0) : kM l yX12_isLesson cX12_isLesson 2 (some .boolean) { frames := 7, cells := 0, slots := 0, locals := 132 } G [.ref h0, .int n0] [(h0, .inr (12, ofL 88 Fh0))] sz (kQi G (S := Nat) (fun r u => (u = 0 ∧ r = 0 ∧ n0 < 0) ∨ (u = 1 ∧ r = 0 ∧ ¬ n0 < 0)) (fun u => match u with | 0 => [(h0, .inr (12, ofL 88 (updV Fh0 0 (.int 1))))] | _ => [(h0, .inr (12, ofL 88 (updV Fh0 0 (.int 1))))])) := by
  refine kM.of (by decide) (Nat.le_of_ble_eq_true rfl) ?_
  intro p e s m below meth c A ls H C hr hlk hnm hP hD hS hl
  have C : kC G p s m c cX12_isLesson 2 RX12 A := C
  have hx := C.1
  have hb := C.2.1
  have hl : lv_has ls 2 [(0, .ref h0), (1, .int n0)] := hl
  refine lv_aload_n hx hb dX12_isLesson_0 rfl (lv_at hl 0 rfl) ?_
  refine lv_iload_n hx hb dX12_isLesson_1 rfl (lv_at hl 1 rfl) ?_
  refine lv_if_lt (x := n0) (tgt := 17) hx hb dX12_isLesson_2 (by decide) (fun c_1 => ?_) (fun c_1 => ?_)
  ·
    refine lv_iconst (v := 0) hx hb dX12_isLesson_17 (by decide) ?_
    refine lv_iconst (v := 1) hx hb dX12_isLesson_18 (by decide) ?_
    refine k_callVi (wr := []) (rest := []) li_X12_328 C (c_X12_right0 l G H.size h0 1 Fh0 e_h0_0) (kR rfl) hP hD hS [0] [] rfl rfl rfl rfl (by decide) 0 12 rfl rfl rfl hl.1 rfl (Nat.le_of_ble_eq_true rfl) dX12_isLesson_19 (fun rr3 uu4 H locs hw2 hP hD hS => ?_)
    rcases hw2 with ⟨rfl, rfl, c_5⟩ | ⟨rfl, rfl, c_6⟩
    ·
      have hP : va_P G.1 vwCl [(h0, .inr (12, ofL 88 (updV Fh0 0 (.int 1))))] H := hP
      have hD : va_D A [(h0, .inr (12, ofL 88 (updV Fh0 0 (.int 1))))] := hD
      exact k_zret C hr hlk rfl hP hD hS 0 (Or.inl ⟨rfl, rfl, c_1⟩) [0] rfl rfl (Nat.le_of_ble_eq_true rfl) (Nat.le_of_ble_eq_true rfl) dX12_isLesson_22
    ·
      exact absurd c_6 (by decide)
  ·
    refine lv_iload_n hx hb dX12_isLesson_5 rfl (lv_at hl 1 rfl) ?_
    refine lv_aload_n hx hb dX12_isLesson_6 rfl (lv_at hl 0 rfl) ?_
    refine k_get (v := .int 0) fl_X12_335 C hP 0 rfl e_h0_1 dX12_isLesson_7 ?_
    refine lv_icmp_ge (x := n0) (y := 0) (tgt := 17) hx hb dX12_isLesson_10 (by decide) (fun c_7 => ?_) (fun c_7 => ?_)
    rotate_left
    · exact absurd (Int32.not_lt.mp c_1) c_7
    refine lv_iconst (v := 0) hx hb dX12_isLesson_17 (by decide) ?_
    refine lv_iconst (v := 1) hx hb dX12_isLesson_18 (by decide) ?_
    refine k_callVi (wr := []) (rest := []) li_X12_328 C (c_X12_right0 l G H.size h0 1 Fh0 e_h0_0) (kR rfl) hP hD hS [0] [] rfl rfl rfl rfl (by decide) 0 12 rfl rfl rfl hl.1 rfl (Nat.le_of_ble_eq_true rfl) dX12_isLesson_19 (fun rr9 uu10 H locs hw8 hP hD hS => ?_)
    rcases hw8 with ⟨rfl, rfl, c_11⟩ | ⟨rfl, rfl, c_12⟩
    ·
      have hP : va_P G.1 vwCl [(h0, .inr (12, ofL 88 (updV Fh0 0 (.int 1))))] H := hP
      have hD : va_D A [(h0, .inr (12, ofL 88 (updV Fh0 0 (.int 1))))] := hD
      exact k_zret C hr hlk rfl hP hD hS 1 (Or.inr (⟨rfl, rfl, c_1⟩)) [0] rfl rfl (Nat.le_of_ble_eq_true rfl) (Nat.le_of_ble_eq_true rfl) dX12_isLesson_22
    ·
      exact absurd c_12 (by decide)
set_option maxHeartbeats 4000000 in
set_option maxRecDepth 100000 in
theorem c_X12_isWhat (l : Launch) (G : kG) (sz : Nat) (h0 : Nat) (n0 : Int32) (n1 : Int32) (Fh0 : Nat → Value) (e_h0_0 : Fh0 0 = .int 0) : kM l yX12_isWhat cX12_isWhat 3 (some .boolean) { frames := 7, cells := 0, slots := 0, locals := 132 } G [.ref h0, .int n0, .int n1] [(h0, .inr (12, ofL 88 Fh0))] sz (kQi G (S := Nat) (fun r u => (u = 0 ∧ r = 0 ∧ n0 < 0) ∨ (u = 1 ∧ r = 0 ∧ ¬ n0 < 0 ∧ n1 < n0) ∨ (u = 2 ∧ r = 1 ∧ ¬ n0 < 0 ∧ ¬ n1 < n0)) (fun u => match u with | 0 => [(h0, .inr (12, ofL 88 (updV Fh0 0 (.int 1))))] | 1 => [(h0, .inr (12, ofL 88 (updV Fh0 0 (.int 1))))] | _ => [(h0, .inr (12, ofL 88 Fh0))])) := by
  refine kM.of (by decide) (Nat.le_of_ble_eq_true rfl) ?_
  intro p e s m below meth c A ls H C hr hlk hnm hP hD hS hl
  have C : kC G p s m c cX12_isWhat 3 RX12 A := C
  have hx := C.1
  have hb := C.2.1
  have hl : lv_has ls 3 [(0, .ref h0), (1, .int n0), (2, .int n1)] := hl
  refine lv_aload_n hx hb dX12_isWhat_0 rfl (lv_at hl 0 rfl) ?_
  refine lv_iload_n hx hb dX12_isWhat_1 rfl (lv_at hl 1 rfl) ?_
  refine lv_iconst (v := 0) hx hb dX12_isWhat_2 (by decide) ?_
  refine lv_iload_n hx hb dX12_isWhat_3 rfl (lv_at hl 2 rfl) ?_
  refine k_callSi (wr := [(h0, .inr (12, ofL 88 Fh0))]) (rest := [.ref h0]) li_X12_392 C (c_X12_within l G H.size n0 0 n1) (kR rfl) hP hD hS [] [0] rfl rfl rfl rfl (by decide) rfl hl.1 rfl (Nat.le_of_ble_eq_true rfl) dX12_isWhat_4 (fun rr2 uu3 H locs hw1 hP hD hS => ?_)
  rcases hw1 with ⟨rfl, rfl, c_4⟩ | ⟨rfl, rfl, c_5, c_6⟩ | ⟨rfl, rfl, c_7, c_8⟩
  ·
    have hP : va_P G.1 vwCl [(h0, .inr (12, ofL 88 Fh0))] H := hP
    have hD : va_D A [(h0, .inr (12, ofL 88 Fh0))] := hD
    refine lv_iconst (v := 1) hx hb dX12_isWhat_7 (by decide) ?_
    refine k_callVi (wr := []) (rest := []) li_X12_328 C (c_X12_right0 l G H.size h0 1 Fh0 e_h0_0) (kR rfl) hP hD hS [0] [] rfl rfl rfl rfl (by decide) 0 12 rfl rfl rfl hl.1 rfl (Nat.le_of_ble_eq_true rfl) dX12_isWhat_8 (fun rr10 uu11 H locs hw9 hP hD hS => ?_)
    rcases hw9 with ⟨rfl, rfl, c_12⟩ | ⟨rfl, rfl, c_13⟩
    ·
      have hP : va_P G.1 vwCl [(h0, .inr (12, ofL 88 (updV Fh0 0 (.int 1))))] H := hP
      have hD : va_D A [(h0, .inr (12, ofL 88 (updV Fh0 0 (.int 1))))] := hD
      exact k_zret C hr hlk rfl hP hD hS 0 (Or.inl ⟨rfl, rfl, c_4⟩) [0] rfl rfl (Nat.le_of_ble_eq_true rfl) (Nat.le_of_ble_eq_true rfl) dX12_isWhat_11
    ·
      exact absurd c_13 (by decide)
  ·
    have hP : va_P G.1 vwCl [(h0, .inr (12, ofL 88 Fh0))] H := hP
    have hD : va_D A [(h0, .inr (12, ofL 88 Fh0))] := hD
    refine lv_iconst (v := 1) hx hb dX12_isWhat_7 (by decide) ?_
    refine k_callVi (wr := []) (rest := []) li_X12_328 C (c_X12_right0 l G H.size h0 1 Fh0 e_h0_0) (kR rfl) hP hD hS [0] [] rfl rfl rfl rfl (by decide) 0 12 rfl rfl rfl hl.1 rfl (Nat.le_of_ble_eq_true rfl) dX12_isWhat_8 (fun rr15 uu16 H locs hw14 hP hD hS => ?_)
    rcases hw14 with ⟨rfl, rfl, c_17⟩ | ⟨rfl, rfl, c_18⟩
    ·
      have hP : va_P G.1 vwCl [(h0, .inr (12, ofL 88 (updV Fh0 0 (.int 1))))] H := hP
      have hD : va_D A [(h0, .inr (12, ofL 88 (updV Fh0 0 (.int 1))))] := hD
      exact k_zret C hr hlk rfl hP hD hS 1 (Or.inr (Or.inl ⟨rfl, rfl, c_5, c_6⟩)) [0] rfl rfl (Nat.le_of_ble_eq_true rfl) (Nat.le_of_ble_eq_true rfl) dX12_isWhat_11
    ·
      exact absurd c_18 (by decide)
  ·
    have hP : va_P G.1 vwCl [(h0, .inr (12, ofL 88 Fh0))] H := hP
    have hD : va_D A [(h0, .inr (12, ofL 88 Fh0))] := hD
    refine lv_iconst (v := 1) hx hb dX12_isWhat_7 (by decide) ?_
    refine k_callVi (wr := []) (rest := []) li_X12_328 C (c_X12_right1 l G H.size h0 1 Fh0 e_h0_0) (kR rfl) hP hD hS [0] [] rfl rfl rfl rfl (by decide) 0 12 rfl rfl rfl hl.1 rfl (Nat.le_of_ble_eq_true rfl) dX12_isWhat_8 (fun rr20 uu21 H locs hw19 hP hD hS => ?_)
    obtain rfl : rr20 = 1 := hw19
    have hP : va_P G.1 vwCl [(h0, .inr (12, ofL 88 Fh0))] H := hP
    have hD : va_D A [(h0, .inr (12, ofL 88 Fh0))] := hD
    exact k_zret C hr hlk rfl hP hD hS 2 (Or.inr (Or.inr (⟨rfl, rfl, c_7, c_8⟩))) [0] rfl rfl (Nat.le_of_ble_eq_true rfl) (Nat.le_of_ble_eq_true rfl) dX12_isWhat_11
set_option maxHeartbeats 4000000 in
set_option maxRecDepth 100000 in
theorem c_X12_works0 (l : Launch) (G : kG) (sz : Nat) (h0 : Nat) (Fh0 : Nat → Value) (e_h0_1 : Fh0 1 = .int 0) : kM l yX12_works0 cX12_works0 6 none { frames := 6, cells := 0, slots := 0, locals := 110 } G [.ref h0] [(h0, .inr (12, ofL 88 Fh0))] sz (kQv G (S := Unit) (fun (_ : Unit) => True) (fun _ => [(h0, .inr (12, ofL 88 Fh0))])) := by
  refine kM.of (by decide) (Nat.le_of_ble_eq_true rfl) ?_
  intro p e s m below meth c A ls H C hr hlk hnm hP hD hS hl
  have C : kC G p s m c cX12_works0 6 RX12 A := C
  have hx := C.1
  have hb := C.2.1
  have hl : lv_has ls 6 [(0, .ref h0)] := hl
  refine lv_iconst (v := 0) hx hb dX12_works0_0 (by decide) ?_
  refine lv_istore_n (lv' := [(1, .int 0), (0, .ref h0)]) hx hb dX12_works0_1 rfl hl (by decide) rfl (fun ls hl => ?_)
  refine lv_iload_n hx hb dX12_works0_2 rfl (lv_at hl 0 rfl) ?_
  refine lv_aload_n hx hb dX12_works0_3 rfl (lv_at hl 1 rfl) ?_
  refine k_get (v := .int 0) fl_X12_335 C hP 0 rfl e_h0_1 dX12_works0_4 ?_
  refine lv_icmp_ge (x := 0) (y := 0) (tgt := 267) hx hb dX12_works0_7 (by decide) (fun c_1 => ?_) (fun c_1 => ?_)
  rotate_left
  · exact absurd (by decide) c_1
  exact k_vret C hr hlk hP hD hS () (trivial) [0] rfl rfl (Nat.le_of_ble_eq_true rfl) (Nat.le_of_ble_eq_true rfl) dX12_works0_267
set_option maxHeartbeats 4000000 in
set_option maxRecDepth 100000 in
theorem c_X12_lost (l : Launch) (G : kG) (sz : Nat) (h0 : Nat) (Fh0 : Nat → Value) (e_h0_1 : Fh0 1 = .int 0) : kM l yX12_lost cX12_lost 3 (some .int) { frames := 7, cells := 0, slots := 0, locals := 135 } G [.ref h0] [(h0, .inr (12, ofL 88 Fh0))] sz (kQi G (S := Unit) (fun r (_ : Unit) => r = 0) (fun _ => [(h0, .inr (12, ofL 88 Fh0))])) := by
  refine kM.of (by decide) (Nat.le_of_ble_eq_true rfl) ?_
  intro p e s m below meth c A ls H C hr hlk hnm hP hD hS hl
  have C : kC G p s m c cX12_lost 3 RX12 A := C
  have hx := C.1
  have hb := C.2.1
  have hl : lv_has ls 3 [(0, .ref h0)] := hl
  refine lv_aload_n hx hb dX12_lost_0 rfl (lv_at hl 0 rfl) ?_
  refine k_callVv (wr := []) (rest := []) li_X12_386 C (c_X12_works0 l G H.size h0 Fh0 e_h0_1) (kR rfl) hP hD hS [0] [] rfl rfl rfl rfl (by decide) 0 12 rfl rfl rfl hl.1 rfl (Nat.le_of_ble_eq_true rfl) dX12_lost_1 (fun uu3 H locs hw1 hP hD hS => ?_)
  have hP : va_P G.1 vwCl [(h0, .inr (12, ofL 88 Fh0))] H := hP
  have hD : va_D A [(h0, .inr (12, ofL 88 Fh0))] := hD
  refine lv_iconst (v := 0) hx hb dX12_lost_4 (by decide) ?_
  refine lv_istore_n (lv' := [(1, .int 0), (0, .ref h0)]) hx hb dX12_lost_5 rfl hl (by decide) rfl (fun ls hl => ?_)
  refine lv_iconst (v := 0) hx hb dX12_lost_6 (by decide) ?_
  refine lv_istore_n (lv' := [(2, .int 0), (1, .int 0), (0, .ref h0)]) hx hb dX12_lost_7 rfl hl (by decide) rfl (fun ls hl => ?_)
  refine lv_iload_n hx hb dX12_lost_8 rfl (lv_at hl 0 rfl) ?_
  refine lv_aload_n hx hb dX12_lost_9 rfl (lv_at hl 2 rfl) ?_
  refine k_get (v := .int 0) fl_X12_335 C hP 0 rfl e_h0_1 dX12_lost_10 ?_
  refine lv_icmp_ge (x := 0) (y := 0) (tgt := 37) hx hb dX12_lost_13 (by decide) (fun c_4 => ?_) (fun c_4 => ?_)
  rotate_left
  · exact absurd (by decide) c_4
  refine lv_iload_n hx hb dX12_lost_37 rfl (lv_at hl 1 rfl) ?_
  exact k_iret C hr hlk hP hD hS () (rfl) [0] rfl rfl (Nat.le_of_ble_eq_true rfl) (Nat.le_of_ble_eq_true rfl) dX12_lost_38
set_option maxHeartbeats 4000000 in
set_option maxRecDepth 100000 in
theorem c_X12_lateness12 (l : Launch) (G : kG) (sz : Nat) (h0 : Nat) (Fh0 : Nat → Value) (e_h0_1 : Fh0 1 = .int 0) : kM l yX12_lateness cX12_lateness 4 (some .int) { frames := 7, cells := 0, slots := 0, locals := 135 } G [.ref h0, .int 12] [(h0, .inr (12, ofL 88 Fh0))] sz (kQi G (S := Unit) (fun r (_ : Unit) => r = 0) (fun _ => [(h0, .inr (12, ofL 88 Fh0))])) := by
  refine kM.of (by decide) (Nat.le_of_ble_eq_true rfl) ?_
  intro p e s m below meth c A ls H C hr hlk hnm hP hD hS hl
  have C : kC G p s m c cX12_lateness 4 RX12 A := C
  have hx := C.1
  have hb := C.2.1
  have hl : lv_has ls 4 [(0, .ref h0), (1, .int 12)] := hl
  refine lv_aload_n hx hb dX12_lateness_0 rfl (lv_at hl 0 rfl) ?_
  refine k_callVv (wr := []) (rest := []) li_X12_386 C (c_X12_works0 l G H.size h0 Fh0 e_h0_1) (kR rfl) hP hD hS [0] [] rfl rfl rfl rfl (by decide) 0 12 rfl rfl rfl hl.1 rfl (Nat.le_of_ble_eq_true rfl) dX12_lateness_1 (fun uu3 H locs hw1 hP hD hS => ?_)
  have hP : va_P G.1 vwCl [(h0, .inr (12, ofL 88 Fh0))] H := hP
  have hD : va_D A [(h0, .inr (12, ofL 88 Fh0))] := hD
  refine lv_iconst (v := 0) hx hb dX12_lateness_4 (by decide) ?_
  refine lv_istore_n (lv' := [(2, .int 0), (0, .ref h0), (1, .int 12)]) hx hb dX12_lateness_5 rfl hl (by decide) rfl (fun ls hl => ?_)
  refine lv_iconst (v := 0) hx hb dX12_lateness_6 (by decide) ?_
  refine lv_istore_n (lv' := [(3, .int 0), (2, .int 0), (0, .ref h0), (1, .int 12)]) hx hb dX12_lateness_7 rfl hl (by decide) rfl (fun ls hl => ?_)
  refine lv_iload_n hx hb dX12_lateness_8 rfl (lv_at hl 0 rfl) ?_
  refine lv_aload_n hx hb dX12_lateness_9 rfl (lv_at hl 2 rfl) ?_
  refine k_get (v := .int 0) fl_X12_335 C hP 0 rfl e_h0_1 dX12_lateness_10 ?_
  refine lv_icmp_ge (x := 0) (y := 0) (tgt := 90) hx hb dX12_lateness_13 (by decide) (fun c_4 => ?_) (fun c_4 => ?_)
  rotate_left
  · exact absurd (by decide) c_4
  refine lv_iload_n hx hb dX12_lateness_90 rfl (lv_at hl 1 rfl) ?_
  exact k_iret C hr hlk hP hD hS () (rfl) [0] rfl rfl (Nat.le_of_ble_eq_true rfl) (Nat.le_of_ble_eq_true rfl) dX12_lateness_91
set_option maxHeartbeats 4000000 in
set_option maxRecDepth 100000 in
theorem c_X12_lateness13 (l : Launch) (G : kG) (sz : Nat) (h0 : Nat) (Fh0 : Nat → Value) (e_h0_1 : Fh0 1 = .int 0) : kM l yX12_lateness cX12_lateness 4 (some .int) { frames := 7, cells := 0, slots := 0, locals := 135 } G [.ref h0, .int 13] [(h0, .inr (12, ofL 88 Fh0))] sz (kQi G (S := Unit) (fun r (_ : Unit) => r = 0) (fun _ => [(h0, .inr (12, ofL 88 Fh0))])) := by
  refine kM.of (by decide) (Nat.le_of_ble_eq_true rfl) ?_
  intro p e s m below meth c A ls H C hr hlk hnm hP hD hS hl
  have C : kC G p s m c cX12_lateness 4 RX12 A := C
  have hx := C.1
  have hb := C.2.1
  have hl : lv_has ls 4 [(0, .ref h0), (1, .int 13)] := hl
  refine lv_aload_n hx hb dX12_lateness_0 rfl (lv_at hl 0 rfl) ?_
  refine k_callVv (wr := []) (rest := []) li_X12_386 C (c_X12_works0 l G H.size h0 Fh0 e_h0_1) (kR rfl) hP hD hS [0] [] rfl rfl rfl rfl (by decide) 0 12 rfl rfl rfl hl.1 rfl (Nat.le_of_ble_eq_true rfl) dX12_lateness_1 (fun uu3 H locs hw1 hP hD hS => ?_)
  have hP : va_P G.1 vwCl [(h0, .inr (12, ofL 88 Fh0))] H := hP
  have hD : va_D A [(h0, .inr (12, ofL 88 Fh0))] := hD
  refine lv_iconst (v := 0) hx hb dX12_lateness_4 (by decide) ?_
  refine lv_istore_n (lv' := [(2, .int 0), (0, .ref h0), (1, .int 13)]) hx hb dX12_lateness_5 rfl hl (by decide) rfl (fun ls hl => ?_)
  refine lv_iconst (v := 0) hx hb dX12_lateness_6 (by decide) ?_
  refine lv_istore_n (lv' := [(3, .int 0), (2, .int 0), (0, .ref h0), (1, .int 13)]) hx hb dX12_lateness_7 rfl hl (by decide) rfl (fun ls hl => ?_)
  refine lv_iload_n hx hb dX12_lateness_8 rfl (lv_at hl 0 rfl) ?_
  refine lv_aload_n hx hb dX12_lateness_9 rfl (lv_at hl 2 rfl) ?_
  refine k_get (v := .int 0) fl_X12_335 C hP 0 rfl e_h0_1 dX12_lateness_10 ?_
  refine lv_icmp_ge (x := 0) (y := 0) (tgt := 90) hx hb dX12_lateness_13 (by decide) (fun c_4 => ?_) (fun c_4 => ?_)
  rotate_left
  · exact absurd (by decide) c_4
  refine lv_iload_n hx hb dX12_lateness_90 rfl (lv_at hl 1 rfl) ?_
  exact k_iret C hr hlk hP hD hS () (rfl) [0] rfl rfl (Nat.le_of_ble_eq_true rfl) (Nat.le_of_ble_eq_true rfl) dX12_lateness_91
set_option maxHeartbeats 4000000 in
set_option maxRecDepth 100000 in
theorem c_X12_lateness14 (l : Launch) (G : kG) (sz : Nat) (h0 : Nat) (Fh0 : Nat → Value) (e_h0_1 : Fh0 1 = .int 0) : kM l yX12_lateness cX12_lateness 4 (some .int) { frames := 7, cells := 0, slots := 0, locals := 135 } G [.ref h0, .int 14] [(h0, .inr (12, ofL 88 Fh0))] sz (kQi G (S := Unit) (fun r (_ : Unit) => r = 0) (fun _ => [(h0, .inr (12, ofL 88 Fh0))])) := by
  refine kM.of (by decide) (Nat.le_of_ble_eq_true rfl) ?_
  intro p e s m below meth c A ls H C hr hlk hnm hP hD hS hl
  have C : kC G p s m c cX12_lateness 4 RX12 A := C
  have hx := C.1
  have hb := C.2.1
  have hl : lv_has ls 4 [(0, .ref h0), (1, .int 14)] := hl
  refine lv_aload_n hx hb dX12_lateness_0 rfl (lv_at hl 0 rfl) ?_
  refine k_callVv (wr := []) (rest := []) li_X12_386 C (c_X12_works0 l G H.size h0 Fh0 e_h0_1) (kR rfl) hP hD hS [0] [] rfl rfl rfl rfl (by decide) 0 12 rfl rfl rfl hl.1 rfl (Nat.le_of_ble_eq_true rfl) dX12_lateness_1 (fun uu3 H locs hw1 hP hD hS => ?_)
  have hP : va_P G.1 vwCl [(h0, .inr (12, ofL 88 Fh0))] H := hP
  have hD : va_D A [(h0, .inr (12, ofL 88 Fh0))] := hD
  refine lv_iconst (v := 0) hx hb dX12_lateness_4 (by decide) ?_
  refine lv_istore_n (lv' := [(2, .int 0), (0, .ref h0), (1, .int 14)]) hx hb dX12_lateness_5 rfl hl (by decide) rfl (fun ls hl => ?_)
  refine lv_iconst (v := 0) hx hb dX12_lateness_6 (by decide) ?_
  refine lv_istore_n (lv' := [(3, .int 0), (2, .int 0), (0, .ref h0), (1, .int 14)]) hx hb dX12_lateness_7 rfl hl (by decide) rfl (fun ls hl => ?_)
  refine lv_iload_n hx hb dX12_lateness_8 rfl (lv_at hl 0 rfl) ?_
  refine lv_aload_n hx hb dX12_lateness_9 rfl (lv_at hl 2 rfl) ?_
  refine k_get (v := .int 0) fl_X12_335 C hP 0 rfl e_h0_1 dX12_lateness_10 ?_
  refine lv_icmp_ge (x := 0) (y := 0) (tgt := 90) hx hb dX12_lateness_13 (by decide) (fun c_4 => ?_) (fun c_4 => ?_)
  rotate_left
  · exact absurd (by decide) c_4
  refine lv_iload_n hx hb dX12_lateness_90 rfl (lv_at hl 1 rfl) ?_
  exact k_iret C hr hlk hP hD hS () (rfl) [0] rfl rfl (Nat.le_of_ble_eq_true rfl) (Nat.le_of_ble_eq_true rfl) dX12_lateness_91
set_option maxHeartbeats 4000000 in
set_option maxRecDepth 100000 in
theorem c_X12_refuses (l : Launch) (G : kG) (sz : Nat) (h0 : Nat) (Fh0 : Nat → Value) (arf : Nat) (f0 : Nat → Int32) (e_h0_21 : Fh0 21 = .ref arf) : kM l yX12_refuses cX12_refuses 2 (some .int) { frames := 6, cells := 0, slots := 0, locals := 110 } G [.ref h0, .int 1] [(h0, .inr (12, ofL 88 Fh0)), (arf, .inl (G.2.1, 3, .inl f0))] sz (kQi G (S := Unit) (fun r (_ : Unit) => r = -1) (fun _ => [(h0, .inr (12, ofL 88 Fh0)), (arf, .inl (G.2.1, 3, .inl (upd f0 1 ((f0 1) + 1))))])) := by
  refine kM.of (by decide) (Nat.le_of_ble_eq_true rfl) ?_
  intro p e s m below meth c A ls H C hr hlk hnm hP hD hS hl
  have C : kC G p s m c cX12_refuses 2 RX12 A := C
  have hx := C.1
  have hb := C.2.1
  have hl : lv_has ls 2 [(0, .ref h0), (1, .int 1)] := hl
  refine lv_aload_n hx hb dX12_refuses_0 rfl (lv_at hl 0 rfl) ?_
  refine k_get (v := .ref arf) fl_X12_59 C hP 0 rfl e_h0_21 dX12_refuses_1 ?_
  refine lv_iload_n hx hb dX12_refuses_4 rfl (lv_at hl 1 rfl) ?_
  refine lv_dup2_11 hx hb dX12_refuses_5 rfl rfl ?_
  refine k_iald C hP 1 rfl (k_in (by decide)) dX12_refuses_6 ?_
  refine k_eqi (y := f0 1) rfl ?_
  refine lv_iconst (v := 1) hx hb dX12_refuses_7 (by decide) ?_
  refine lv_iadd hx hb dX12_refuses_8 ?_
  refine k_iast C hP hD hS 1 rfl (k_in (by decide)) dX12_refuses_9 (fun H locs hP hD hS => ?_)
  have hP : va_P G.1 vwCl [(h0, .inr (12, ofL 88 Fh0)), (arf, .inl (G.2.1, 3, .inl (upd f0 1 ((f0 1) + 1))))] H := hP
  have hD : va_D A [(h0, .inr (12, ofL 88 Fh0)), (arf, .inl (G.2.1, 3, .inl (upd f0 1 ((f0 1) + 1))))] := hD
  refine lv_iconst (v := -1) hx hb dX12_refuses_10 (by decide) ?_
  exact k_iret C hr hlk hP hD hS () (rfl) [0, 1] rfl rfl (Nat.le_of_ble_eq_true rfl) (Nat.le_of_ble_eq_true rfl) dX12_refuses_11
set_option maxHeartbeats 4000000 in
set_option maxRecDepth 100000 in
theorem c_X12_keeps (l : Launch) (G : kG) (sz : Nat) (h0 : Nat) (n0 : Int32) (n1 : Int32) (Fh0 : Nat → Value) (aa : Nat) (f0 : Nat → Int32) (e_h0_62 : Fh0 62 = .int 0) (e_h0_63 : Fh0 63 = .ref aa) : kM l yX12_keeps cX12_keeps 4 none { frames := 6, cells := 0, slots := 0, locals := 110 } G [.ref h0, .int n0, .int n1] [(h0, .inr (12, ofL 88 Fh0)), (aa, .inl (G.2.1, 80, .inl f0))] sz (kQv G (S := Unit) (fun (_ : Unit) => True) (fun _ => [(h0, .inr (12, ofL 88 (updV Fh0 62 (.int 1)))), (aa, .inl (G.2.1, 80, .inl (upd (upd f0 0 n0) 1 n1)))])) := by
  refine kM.of (by decide) (Nat.le_of_ble_eq_true rfl) ?_
  intro p e s m below meth c A ls H C hr hlk hnm hP hD hS hl
  have C : kC G p s m c cX12_keeps 4 RX12 A := C
  have hx := C.1
  have hb := C.2.1
  have hl : lv_has ls 4 [(0, .ref h0), (1, .int n0), (2, .int n1)] := hl
  refine lv_aload_n hx hb dX12_keeps_0 rfl (lv_at hl 0 rfl) ?_
  refine k_get (v := .int 0) fl_X12_345 C hP 0 rfl e_h0_62 dX12_keeps_1 ?_
  refine lv_bipush (v := 40) hx hb dX12_keeps_4 (by decide) ?_
  refine lv_icmp_ne (x := 0) (y := 40) (tgt := 47) hx hb dX12_keeps_6 (by decide) (fun c_1 => ?_) (fun c_1 => ?_)
  rotate_left
  · exact absurd c_1 (by decide)
  refine lv_aload_n hx hb dX12_keeps_47 rfl (lv_at hl 0 rfl) ?_
  refine k_get (v := .ref aa) fl_X12_132 C hP 0 rfl e_h0_63 dX12_keeps_48 ?_
  refine lv_iconst (v := 2) hx hb dX12_keeps_51 (by decide) ?_
  refine lv_aload_n hx hb dX12_keeps_52 rfl (lv_at hl 0 rfl) ?_
  refine k_get (v := .int 0) fl_X12_345 C hP 0 rfl e_h0_62 dX12_keeps_53 ?_
  refine lv_imul hx hb dX12_keeps_56 ?_
  refine k_eqi (y := 0) (by decide) ?_
  refine lv_iload_n hx hb dX12_keeps_57 rfl (lv_at hl 1 rfl) ?_
  refine k_iast C hP hD hS 1 rfl (k_in (by decide)) dX12_keeps_58 (fun H locs hP hD hS => ?_)
  have hP : va_P G.1 vwCl [(h0, .inr (12, ofL 88 Fh0)), (aa, .inl (G.2.1, 80, .inl (upd f0 0 n0)))] H := hP
  have hD : va_D A [(h0, .inr (12, ofL 88 Fh0)), (aa, .inl (G.2.1, 80, .inl (upd f0 0 n0)))] := hD
  refine lv_aload_n hx hb dX12_keeps_59 rfl (lv_at hl 0 rfl) ?_
  refine k_get (v := .ref aa) fl_X12_132 C hP 0 rfl e_h0_63 dX12_keeps_60 ?_
  refine lv_iconst (v := 2) hx hb dX12_keeps_63 (by decide) ?_
  refine lv_aload_n hx hb dX12_keeps_64 rfl (lv_at hl 0 rfl) ?_
  refine k_get (v := .int 0) fl_X12_345 C hP 0 rfl e_h0_62 dX12_keeps_65 ?_
  refine lv_imul hx hb dX12_keeps_68 ?_
  refine k_eqi (y := 0) (by decide) ?_
  refine lv_iconst (v := 1) hx hb dX12_keeps_69 (by decide) ?_
  refine lv_iadd hx hb dX12_keeps_70 ?_
  refine k_eqi (y := 1) (by decide) ?_
  refine lv_iload_n hx hb dX12_keeps_71 rfl (lv_at hl 2 rfl) ?_
  refine k_iast C hP hD hS 1 rfl (k_in (by decide)) dX12_keeps_72 (fun H locs hP hD hS => ?_)
  have hP : va_P G.1 vwCl [(h0, .inr (12, ofL 88 Fh0)), (aa, .inl (G.2.1, 80, .inl (upd (upd f0 0 n0) 1 n1)))] H := hP
  have hD : va_D A [(h0, .inr (12, ofL 88 Fh0)), (aa, .inl (G.2.1, 80, .inl (upd (upd f0 0 n0) 1 n1)))] := hD
  refine lv_aload_n hx hb dX12_keeps_73 rfl (lv_at hl 0 rfl) ?_
  refine lv_dup hx hb dX12_keeps_74 rfl ?_
  refine k_get (v := .int 0) fl_X12_345 C hP 0 rfl e_h0_62 dX12_keeps_75 ?_
  refine lv_iconst (v := 1) hx hb dX12_keeps_78 (by decide) ?_
  refine lv_iadd hx hb dX12_keeps_79 ?_
  refine k_eqi (y := 1) (by decide) ?_
  refine k_put fl_X12_345 ft_X12_62 C hP hD hS 0 rfl rfl rfl dX12_keeps_80 (fun H locs hP hD hS => ?_)
  have hP : va_P G.1 vwCl [(h0, .inr (12, ofL 88 (updV Fh0 62 (.int 1)))), (aa, .inl (G.2.1, 80, .inl (upd (upd f0 0 n0) 1 n1)))] H := hP
  have hD : va_D A [(h0, .inr (12, ofL 88 (updV Fh0 62 (.int 1)))), (aa, .inl (G.2.1, 80, .inl (upd (upd f0 0 n0) 1 n1)))] := hD
  exact k_vret C hr hlk hP hD hS () (trivial) [0, 1] rfl rfl (Nat.le_of_ble_eq_true rfl) (Nat.le_of_ble_eq_true rfl) dX12_keeps_83
set_option maxHeartbeats 4000000 in
set_option maxRecDepth 100000 in
theorem c_X12_lostBy (l : Launch) (G : kG) (sz : Nat) (h0 : Nat) (n0 : Int32) (Fh0 : Nat → Value) (n1 : Int32) (e_h0_1 : Fh0 1 = .int 0) (e_h0_52 : Fh0 52 = .int n1) : kM l yX12_lostBy cX12_lostBy 4 (some .int) { frames := 8, cells := 0, slots := 0, locals := 157 } G [.ref h0, .int n0] [(h0, .inr (12, ofL 88 Fh0))] sz (kQi G (S := Unit) (fun r (_ : Unit) => r = 0) (fun _ => [(h0, .inr (12, ofL 88 (updV (updV Fh0 52 (.int n0)) 52 (.int n1))))])) := by
  refine kM.of (by decide) (Nat.le_of_ble_eq_true rfl) ?_
  intro p e s m below meth c A ls H C hr hlk hnm hP hD hS hl
  have C : kC G p s m c cX12_lostBy 4 RX12 A := C
  have hx := C.1
  have hb := C.2.1
  have hl : lv_has ls 4 [(0, .ref h0), (1, .int n0)] := hl
  refine lv_aload_n hx hb dX12_lostBy_0 rfl (lv_at hl 0 rfl) ?_
  refine k_get (v := .int n1) fl_X12_105 C hP 0 rfl e_h0_52 dX12_lostBy_1 ?_
  refine lv_istore_n (lv' := [(2, .int n1), (0, .ref h0), (1, .int n0)]) hx hb dX12_lostBy_4 rfl hl (by decide) rfl (fun ls hl => ?_)
  refine lv_aload_n hx hb dX12_lostBy_5 rfl (lv_at hl 1 rfl) ?_
  refine lv_iload_n hx hb dX12_lostBy_6 rfl (lv_at hl 2 rfl) ?_
  refine k_put fl_X12_105 ft_X12_52 C hP hD hS 0 rfl rfl rfl dX12_lostBy_7 (fun H locs hP hD hS => ?_)
  have hP : va_P G.1 vwCl [(h0, .inr (12, ofL 88 (updV Fh0 52 (.int n0))))] H := hP
  have hD : va_D A [(h0, .inr (12, ofL 88 (updV Fh0 52 (.int n0))))] := hD
  refine lv_aload_n hx hb dX12_lostBy_10 rfl (lv_at hl 1 rfl) ?_
  refine k_callVi (wr := []) (rest := []) li_X12_399 C (c_X12_lost l G H.size h0 (updV Fh0 52 (.int n0)) e_h0_1) (kR rfl) hP hD hS [0] [] rfl rfl rfl rfl (by decide) 0 12 rfl rfl rfl hl.1 rfl (Nat.le_of_ble_eq_true rfl) dX12_lostBy_11 (fun rr2 uu3 H locs hw1 hP hD hS => ?_)
  obtain rfl : rr2 = 0 := hw1
  have hP : va_P G.1 vwCl [(h0, .inr (12, ofL 88 (updV Fh0 52 (.int n0))))] H := hP
  have hD : va_D A [(h0, .inr (12, ofL 88 (updV Fh0 52 (.int n0))))] := hD
  refine lv_istore_n (lv' := [(3, .int 0), (2, .int n1), (0, .ref h0), (1, .int n0)]) hx hb dX12_lostBy_14 rfl hl (by decide) rfl (fun ls hl => ?_)
  refine lv_aload_n hx hb dX12_lostBy_15 rfl (lv_at hl 2 rfl) ?_
  refine lv_iload_n hx hb dX12_lostBy_16 rfl (lv_at hl 1 rfl) ?_
  refine k_put fl_X12_105 ft_X12_52 C hP hD hS 0 rfl rfl rfl dX12_lostBy_17 (fun H locs hP hD hS => ?_)
  have hP : va_P G.1 vwCl [(h0, .inr (12, ofL 88 (updV (updV Fh0 52 (.int n0)) 52 (.int n1))))] H := hP
  have hD : va_D A [(h0, .inr (12, ofL 88 (updV (updV Fh0 52 (.int n0)) 52 (.int n1))))] := hD
  refine lv_iload_n hx hb dX12_lostBy_20 rfl (lv_at hl 0 rfl) ?_
  exact k_iret C hr hlk hP hD hS () (rfl) [0] rfl rfl (Nat.le_of_ble_eq_true rfl) (Nat.le_of_ble_eq_true rfl) dX12_lostBy_21
set_option maxHeartbeats 4000000 in
set_option maxRecDepth 100000 in
theorem c_X12_ways (l : Launch) (G : kG) (sz : Nat) (h0 : Nat) (Fh0 : Nat → Value) (e_h0_1 : Fh0 1 = .int 0) : kM l yX12_ways cX12_ways 4 none { frames := 7, cells := 0, slots := 0, locals := 135 } G [.ref h0] [(h0, .inr (12, ofL 88 Fh0))] sz (kQv G (S := Unit) (fun (_ : Unit) => True) (fun _ => [(h0, .inr (12, ofL 88 (updV Fh0 79 (.int 0))))])) := by
  refine kM.of (by decide) (Nat.le_of_ble_eq_true rfl) ?_
  intro p e s m below meth c A ls H C hr hlk hnm hP hD hS hl
  have C : kC G p s m c cX12_ways 4 RX12 A := C
  have hx := C.1
  have hb := C.2.1
  have hl : lv_has ls 4 [(0, .ref h0)] := hl
  refine lv_aload_n hx hb dX12_ways_0 rfl (lv_at hl 0 rfl) ?_
  refine k_callVv (wr := []) (rest := []) li_X12_386 C (c_X12_works0 l G H.size h0 Fh0 e_h0_1) (kR rfl) hP hD hS [0] [] rfl rfl rfl rfl (by decide) 0 12 rfl rfl rfl hl.1 rfl (Nat.le_of_ble_eq_true rfl) dX12_ways_1 (fun uu3 H locs hw1 hP hD hS => ?_)
  have hP : va_P G.1 vwCl [(h0, .inr (12, ofL 88 Fh0))] H := hP
  have hD : va_D A [(h0, .inr (12, ofL 88 Fh0))] := hD
  refine lv_aload_n hx hb dX12_ways_4 rfl (lv_at hl 0 rfl) ?_
  refine lv_iconst (v := 0) hx hb dX12_ways_5 (by decide) ?_
  refine k_put fl_X12_465 ft_X12_79 C hP hD hS 0 rfl rfl rfl dX12_ways_6 (fun H locs hP hD hS => ?_)
  have hP : va_P G.1 vwCl [(h0, .inr (12, ofL 88 (updV Fh0 79 (.int 0))))] H := hP
  have hD : va_D A [(h0, .inr (12, ofL 88 (updV Fh0 79 (.int 0))))] := hD
  refine lv_iconst (v := 0) hx hb dX12_ways_9 (by decide) ?_
  refine lv_istore_n (lv' := [(1, .int 0), (0, .ref h0)]) hx hb dX12_ways_10 rfl hl (by decide) rfl (fun ls hl => ?_)
  refine lv_iload_n hx hb dX12_ways_11 rfl (lv_at hl 0 rfl) ?_
  refine lv_aload_n hx hb dX12_ways_12 rfl (lv_at hl 1 rfl) ?_
  refine k_get (v := .int 0) fl_X12_335 C hP 0 rfl e_h0_1 dX12_ways_13 ?_
  refine lv_icmp_ge (x := 0) (y := 0) (tgt := 167) hx hb dX12_ways_16 (by decide) (fun c_4 => ?_) (fun c_4 => ?_)
  rotate_left
  · exact absurd (by decide) c_4
  exact k_vret C hr hlk hP hD hS () (trivial) [0] rfl rfl (Nat.le_of_ble_eq_true rfl) (Nat.le_of_ble_eq_true rfl) dX12_ways_167
set_option maxHeartbeats 4000000 in
set_option maxRecDepth 100000 in
theorem c_X12_onStair (l : Launch) (G : kG) (sz : Nat) (h0 : Nat) (n0 : Int32) (Fh0 : Nat → Value) (e_h0_79 : Fh0 79 = .int 0) : kM l yX12_onStair cX12_onStair 4 (some .int) { frames := 6, cells := 0, slots := 0, locals := 110 } G [.ref h0, .int n0] [(h0, .inr (12, ofL 88 Fh0))] sz (kQi G (S := Unit) (fun r (_ : Unit) => r = 0) (fun _ => [(h0, .inr (12, ofL 88 Fh0))])) := by
  refine kM.of (by decide) (Nat.le_of_ble_eq_true rfl) ?_
  intro p e s m below meth c A ls H C hr hlk hnm hP hD hS hl
  have C : kC G p s m c cX12_onStair 4 RX12 A := C
  have hx := C.1
  have hb := C.2.1
  have hl : lv_has ls 4 [(0, .ref h0), (1, .int n0)] := hl
  refine lv_iconst (v := 0) hx hb dX12_onStair_0 (by decide) ?_
  refine lv_istore_n (lv' := [(2, .int 0), (0, .ref h0), (1, .int n0)]) hx hb dX12_onStair_1 rfl hl (by decide) rfl (fun ls hl => ?_)
  refine lv_iconst (v := 0) hx hb dX12_onStair_2 (by decide) ?_
  refine lv_istore_n (lv' := [(3, .int 0), (2, .int 0), (0, .ref h0), (1, .int n0)]) hx hb dX12_onStair_3 rfl hl (by decide) rfl (fun ls hl => ?_)
  refine lv_iload_n hx hb dX12_onStair_4 rfl (lv_at hl 0 rfl) ?_
  refine lv_aload_n hx hb dX12_onStair_5 rfl (lv_at hl 2 rfl) ?_
  refine k_get (v := .int 0) fl_X12_465 C hP 0 rfl e_h0_79 dX12_onStair_6 ?_
  refine lv_icmp_ge (x := 0) (y := 0) (tgt := 63) hx hb dX12_onStair_9 (by decide) (fun c_1 => ?_) (fun c_1 => ?_)
  rotate_left
  · exact absurd (by decide) c_1
  refine lv_iload_n hx hb dX12_onStair_63 rfl (lv_at hl 1 rfl) ?_
  exact k_iret C hr hlk hP hD hS () (rfl) [0] rfl rfl (Nat.le_of_ble_eq_true rfl) (Nat.le_of_ble_eq_true rfl) dX12_onStair_64
set_option maxHeartbeats 4000000 in
set_option maxRecDepth 100000 in
theorem c_X12_lays_0 (l : Launch) (G : kG) (sz : Nat) (h0 : Nat) (n0 : Int32) (Fh0 : Nat → Value) (atp : Nat) (f0 : Nat → Int32) (e_h0_17 : Fh0 17 = .ref atp) (e_h0_18 : Fh0 18 = .int 0) : kM l yX12_lays cX12_lays 3 none { frames := 6, cells := 0, slots := 0, locals := 110 } G [.ref h0, .int n0] [(h0, .inr (12, ofL 88 Fh0)), (atp, .inl (G.2.1, 700, .inl f0))] sz (kQv G (S := Unit) (fun (_ : Unit) => True) (fun _ => [(h0, .inr (12, ofL 88 (updV (updV (updV (updV Fh0 18 (.int 1)) 18 (.int 2)) 18 (.int 3)) 18 (.int 4)))), (atp, .inl (G.2.1, 700, .inl (upd (upd (upd (upd f0 0 ((n0 >>> (24 &&& 31)) &&& 255)) 1 ((n0 >>> (16 &&& 31)) &&& 255)) 2 ((n0 >>> (8 &&& 31)) &&& 255)) 3 ((n0 >>> (0 &&& 31)) &&& 255))))])) := by
  refine kM.of (by decide) (Nat.le_of_ble_eq_true rfl) ?_
  intro p e s m below meth c A ls H C hr hlk hnm hP hD hS hl
  have C : kC G p s m c cX12_lays 3 RX12 A := C
  have hx := C.1
  have hb := C.2.1
  have hl : lv_has ls 3 [(0, .ref h0), (1, .int n0)] := hl
  refine lv_bipush (v := 24) hx hb dX12_lays_0 (by decide) ?_
  refine lv_istore_n (lv' := [(2, .int 24), (0, .ref h0), (1, .int n0)]) hx hb dX12_lays_2 rfl hl (by decide) rfl (fun ls hl => ?_)
  refine lv_iload_n hx hb dX12_lays_3 rfl (lv_at hl 0 rfl) ?_
  refine lv_if_lt (x := 24) (tgt := 39) hx hb dX12_lays_4 (by decide) (fun c_1 => ?_) (fun c_1 => ?_)
  · exact absurd c_1 (by decide)
  refine lv_aload_n hx hb dX12_lays_7 rfl (lv_at hl 1 rfl) ?_
  refine k_get (v := .ref atp) fl_X12_53 C hP 0 rfl e_h0_17 dX12_lays_8 ?_
  refine lv_aload_n hx hb dX12_lays_11 rfl (lv_at hl 1 rfl) ?_
  refine k_get (v := .int 0) fl_X12_180 C hP 0 rfl e_h0_18 dX12_lays_12 ?_
  refine lv_iload_n hx hb dX12_lays_15 rfl (lv_at hl 2 rfl) ?_
  refine lv_iload_n hx hb dX12_lays_16 rfl (lv_at hl 0 rfl) ?_
  refine lv_ishr hx hb dX12_lays_17 ?_
  refine lv_sipush (v := 255) hx hb dX12_lays_18 (by decide) ?_
  refine lv_iand hx hb dX12_lays_21 ?_
  refine k_iast C hP hD hS 1 rfl (k_in (by decide)) dX12_lays_22 (fun H locs hP hD hS => ?_)
  have hP : va_P G.1 vwCl [(h0, .inr (12, ofL 88 Fh0)), (atp, .inl (G.2.1, 700, .inl (upd f0 0 ((n0 >>> (24 &&& 31)) &&& 255))))] H := hP
  have hD : va_D A [(h0, .inr (12, ofL 88 Fh0)), (atp, .inl (G.2.1, 700, .inl (upd f0 0 ((n0 >>> (24 &&& 31)) &&& 255))))] := hD
  refine lv_aload_n hx hb dX12_lays_23 rfl (lv_at hl 1 rfl) ?_
  refine lv_dup hx hb dX12_lays_24 rfl ?_
  refine k_get (v := .int 0) fl_X12_180 C hP 0 rfl e_h0_18 dX12_lays_25 ?_
  refine lv_iconst (v := 1) hx hb dX12_lays_28 (by decide) ?_
  refine lv_iadd hx hb dX12_lays_29 ?_
  refine k_eqi (y := 1) (by decide) ?_
  refine k_put fl_X12_180 ft_X12_18 C hP hD hS 0 rfl rfl rfl dX12_lays_30 (fun H locs hP hD hS => ?_)
  have hP : va_P G.1 vwCl [(h0, .inr (12, ofL 88 (updV Fh0 18 (.int 1)))), (atp, .inl (G.2.1, 700, .inl (upd f0 0 ((n0 >>> (24 &&& 31)) &&& 255))))] H := hP
  have hD : va_D A [(h0, .inr (12, ofL 88 (updV Fh0 18 (.int 1)))), (atp, .inl (G.2.1, 700, .inl (upd f0 0 ((n0 >>> (24 &&& 31)) &&& 255))))] := hD
  refine lv_iinc (v := 16) (lv' := [(2, .int 16), (0, .ref h0), (1, .int n0)]) hx hb dX12_lays_33 hl (k := 0) rfl (by decide) (by decide) rfl (fun ls hl => ?_)
  refine lv_goto (tgt := 3) hx hb dX12_lays_36 (by decide) ?_
  refine lv_iload_n hx hb dX12_lays_3 rfl (lv_at hl 0 rfl) ?_
  refine lv_if_lt (x := 16) (tgt := 39) hx hb dX12_lays_4 (by decide) (fun c_2 => ?_) (fun c_2 => ?_)
  · exact absurd c_2 (by decide)
  refine lv_aload_n hx hb dX12_lays_7 rfl (lv_at hl 1 rfl) ?_
  refine k_get (v := .ref atp) fl_X12_53 C hP 0 rfl e_h0_17 dX12_lays_8 ?_
  refine lv_aload_n hx hb dX12_lays_11 rfl (lv_at hl 1 rfl) ?_
  refine k_get (v := .int 1) fl_X12_180 C hP 0 rfl rfl dX12_lays_12 ?_
  refine lv_iload_n hx hb dX12_lays_15 rfl (lv_at hl 2 rfl) ?_
  refine lv_iload_n hx hb dX12_lays_16 rfl (lv_at hl 0 rfl) ?_
  refine lv_ishr hx hb dX12_lays_17 ?_
  refine lv_sipush (v := 255) hx hb dX12_lays_18 (by decide) ?_
  refine lv_iand hx hb dX12_lays_21 ?_
  refine k_iast C hP hD hS 1 rfl (k_in (by decide)) dX12_lays_22 (fun H locs hP hD hS => ?_)
  have hP : va_P G.1 vwCl [(h0, .inr (12, ofL 88 (updV Fh0 18 (.int 1)))), (atp, .inl (G.2.1, 700, .inl (upd (upd f0 0 ((n0 >>> (24 &&& 31)) &&& 255)) 1 ((n0 >>> (16 &&& 31)) &&& 255))))] H := hP
  have hD : va_D A [(h0, .inr (12, ofL 88 (updV Fh0 18 (.int 1)))), (atp, .inl (G.2.1, 700, .inl (upd (upd f0 0 ((n0 >>> (24 &&& 31)) &&& 255)) 1 ((n0 >>> (16 &&& 31)) &&& 255))))] := hD
  refine lv_aload_n hx hb dX12_lays_23 rfl (lv_at hl 1 rfl) ?_
  refine lv_dup hx hb dX12_lays_24 rfl ?_
  refine k_get (v := .int 1) fl_X12_180 C hP 0 rfl rfl dX12_lays_25 ?_
  refine lv_iconst (v := 1) hx hb dX12_lays_28 (by decide) ?_
  refine lv_iadd hx hb dX12_lays_29 ?_
  refine k_eqi (y := 2) (by decide) ?_
  refine k_put fl_X12_180 ft_X12_18 C hP hD hS 0 rfl rfl rfl dX12_lays_30 (fun H locs hP hD hS => ?_)
  have hP : va_P G.1 vwCl [(h0, .inr (12, ofL 88 (updV (updV Fh0 18 (.int 1)) 18 (.int 2)))), (atp, .inl (G.2.1, 700, .inl (upd (upd f0 0 ((n0 >>> (24 &&& 31)) &&& 255)) 1 ((n0 >>> (16 &&& 31)) &&& 255))))] H := hP
  have hD : va_D A [(h0, .inr (12, ofL 88 (updV (updV Fh0 18 (.int 1)) 18 (.int 2)))), (atp, .inl (G.2.1, 700, .inl (upd (upd f0 0 ((n0 >>> (24 &&& 31)) &&& 255)) 1 ((n0 >>> (16 &&& 31)) &&& 255))))] := hD
  refine lv_iinc (v := 8) (lv' := [(2, .int 8), (0, .ref h0), (1, .int n0)]) hx hb dX12_lays_33 hl (k := 0) rfl (by decide) (by decide) rfl (fun ls hl => ?_)
  refine lv_goto (tgt := 3) hx hb dX12_lays_36 (by decide) ?_
  refine lv_iload_n hx hb dX12_lays_3 rfl (lv_at hl 0 rfl) ?_
  refine lv_if_lt (x := 8) (tgt := 39) hx hb dX12_lays_4 (by decide) (fun c_3 => ?_) (fun c_3 => ?_)
  · exact absurd c_3 (by decide)
  refine lv_aload_n hx hb dX12_lays_7 rfl (lv_at hl 1 rfl) ?_
  refine k_get (v := .ref atp) fl_X12_53 C hP 0 rfl e_h0_17 dX12_lays_8 ?_
  refine lv_aload_n hx hb dX12_lays_11 rfl (lv_at hl 1 rfl) ?_
  refine k_get (v := .int 2) fl_X12_180 C hP 0 rfl rfl dX12_lays_12 ?_
  refine lv_iload_n hx hb dX12_lays_15 rfl (lv_at hl 2 rfl) ?_
  refine lv_iload_n hx hb dX12_lays_16 rfl (lv_at hl 0 rfl) ?_
  refine lv_ishr hx hb dX12_lays_17 ?_
  refine lv_sipush (v := 255) hx hb dX12_lays_18 (by decide) ?_
  refine lv_iand hx hb dX12_lays_21 ?_
  refine k_iast C hP hD hS 1 rfl (k_in (by decide)) dX12_lays_22 (fun H locs hP hD hS => ?_)
  have hP : va_P G.1 vwCl [(h0, .inr (12, ofL 88 (updV (updV Fh0 18 (.int 1)) 18 (.int 2)))), (atp, .inl (G.2.1, 700, .inl (upd (upd (upd f0 0 ((n0 >>> (24 &&& 31)) &&& 255)) 1 ((n0 >>> (16 &&& 31)) &&& 255)) 2 ((n0 >>> (8 &&& 31)) &&& 255))))] H := hP
  have hD : va_D A [(h0, .inr (12, ofL 88 (updV (updV Fh0 18 (.int 1)) 18 (.int 2)))), (atp, .inl (G.2.1, 700, .inl (upd (upd (upd f0 0 ((n0 >>> (24 &&& 31)) &&& 255)) 1 ((n0 >>> (16 &&& 31)) &&& 255)) 2 ((n0 >>> (8 &&& 31)) &&& 255))))] := hD
  refine lv_aload_n hx hb dX12_lays_23 rfl (lv_at hl 1 rfl) ?_
  refine lv_dup hx hb dX12_lays_24 rfl ?_
  refine k_get (v := .int 2) fl_X12_180 C hP 0 rfl rfl dX12_lays_25 ?_
  refine lv_iconst (v := 1) hx hb dX12_lays_28 (by decide) ?_
  refine lv_iadd hx hb dX12_lays_29 ?_
  refine k_eqi (y := 3) (by decide) ?_
  refine k_put fl_X12_180 ft_X12_18 C hP hD hS 0 rfl rfl rfl dX12_lays_30 (fun H locs hP hD hS => ?_)
  have hP : va_P G.1 vwCl [(h0, .inr (12, ofL 88 (updV (updV (updV Fh0 18 (.int 1)) 18 (.int 2)) 18 (.int 3)))), (atp, .inl (G.2.1, 700, .inl (upd (upd (upd f0 0 ((n0 >>> (24 &&& 31)) &&& 255)) 1 ((n0 >>> (16 &&& 31)) &&& 255)) 2 ((n0 >>> (8 &&& 31)) &&& 255))))] H := hP
  have hD : va_D A [(h0, .inr (12, ofL 88 (updV (updV (updV Fh0 18 (.int 1)) 18 (.int 2)) 18 (.int 3)))), (atp, .inl (G.2.1, 700, .inl (upd (upd (upd f0 0 ((n0 >>> (24 &&& 31)) &&& 255)) 1 ((n0 >>> (16 &&& 31)) &&& 255)) 2 ((n0 >>> (8 &&& 31)) &&& 255))))] := hD
  refine lv_iinc (v := 0) (lv' := [(2, .int 0), (0, .ref h0), (1, .int n0)]) hx hb dX12_lays_33 hl (k := 0) rfl (by decide) (by decide) rfl (fun ls hl => ?_)
  refine lv_goto (tgt := 3) hx hb dX12_lays_36 (by decide) ?_
  refine lv_iload_n hx hb dX12_lays_3 rfl (lv_at hl 0 rfl) ?_
  refine lv_if_lt (x := 0) (tgt := 39) hx hb dX12_lays_4 (by decide) (fun c_4 => ?_) (fun c_4 => ?_)
  · exact absurd c_4 (by decide)
  refine lv_aload_n hx hb dX12_lays_7 rfl (lv_at hl 1 rfl) ?_
  refine k_get (v := .ref atp) fl_X12_53 C hP 0 rfl e_h0_17 dX12_lays_8 ?_
  refine lv_aload_n hx hb dX12_lays_11 rfl (lv_at hl 1 rfl) ?_
  refine k_get (v := .int 3) fl_X12_180 C hP 0 rfl rfl dX12_lays_12 ?_
  refine lv_iload_n hx hb dX12_lays_15 rfl (lv_at hl 2 rfl) ?_
  refine lv_iload_n hx hb dX12_lays_16 rfl (lv_at hl 0 rfl) ?_
  refine lv_ishr hx hb dX12_lays_17 ?_
  refine lv_sipush (v := 255) hx hb dX12_lays_18 (by decide) ?_
  refine lv_iand hx hb dX12_lays_21 ?_
  refine k_iast C hP hD hS 1 rfl (k_in (by decide)) dX12_lays_22 (fun H locs hP hD hS => ?_)
  have hP : va_P G.1 vwCl [(h0, .inr (12, ofL 88 (updV (updV (updV Fh0 18 (.int 1)) 18 (.int 2)) 18 (.int 3)))), (atp, .inl (G.2.1, 700, .inl (upd (upd (upd (upd f0 0 ((n0 >>> (24 &&& 31)) &&& 255)) 1 ((n0 >>> (16 &&& 31)) &&& 255)) 2 ((n0 >>> (8 &&& 31)) &&& 255)) 3 ((n0 >>> (0 &&& 31)) &&& 255))))] H := hP
  have hD : va_D A [(h0, .inr (12, ofL 88 (updV (updV (updV Fh0 18 (.int 1)) 18 (.int 2)) 18 (.int 3)))), (atp, .inl (G.2.1, 700, .inl (upd (upd (upd (upd f0 0 ((n0 >>> (24 &&& 31)) &&& 255)) 1 ((n0 >>> (16 &&& 31)) &&& 255)) 2 ((n0 >>> (8 &&& 31)) &&& 255)) 3 ((n0 >>> (0 &&& 31)) &&& 255))))] := hD
  refine lv_aload_n hx hb dX12_lays_23 rfl (lv_at hl 1 rfl) ?_
  refine lv_dup hx hb dX12_lays_24 rfl ?_
  refine k_get (v := .int 3) fl_X12_180 C hP 0 rfl rfl dX12_lays_25 ?_
  refine lv_iconst (v := 1) hx hb dX12_lays_28 (by decide) ?_
  refine lv_iadd hx hb dX12_lays_29 ?_
  refine k_eqi (y := 4) (by decide) ?_
  refine k_put fl_X12_180 ft_X12_18 C hP hD hS 0 rfl rfl rfl dX12_lays_30 (fun H locs hP hD hS => ?_)
  have hP : va_P G.1 vwCl [(h0, .inr (12, ofL 88 (updV (updV (updV (updV Fh0 18 (.int 1)) 18 (.int 2)) 18 (.int 3)) 18 (.int 4)))), (atp, .inl (G.2.1, 700, .inl (upd (upd (upd (upd f0 0 ((n0 >>> (24 &&& 31)) &&& 255)) 1 ((n0 >>> (16 &&& 31)) &&& 255)) 2 ((n0 >>> (8 &&& 31)) &&& 255)) 3 ((n0 >>> (0 &&& 31)) &&& 255))))] H := hP
  have hD : va_D A [(h0, .inr (12, ofL 88 (updV (updV (updV (updV Fh0 18 (.int 1)) 18 (.int 2)) 18 (.int 3)) 18 (.int 4)))), (atp, .inl (G.2.1, 700, .inl (upd (upd (upd (upd f0 0 ((n0 >>> (24 &&& 31)) &&& 255)) 1 ((n0 >>> (16 &&& 31)) &&& 255)) 2 ((n0 >>> (8 &&& 31)) &&& 255)) 3 ((n0 >>> (0 &&& 31)) &&& 255))))] := hD
  refine lv_iinc (v := -8) (lv' := [(2, .int (-8)), (0, .ref h0), (1, .int n0)]) hx hb dX12_lays_33 hl (k := 0) rfl (by decide) (by decide) rfl (fun ls hl => ?_)
  refine lv_goto (tgt := 3) hx hb dX12_lays_36 (by decide) ?_
  refine lv_iload_n hx hb dX12_lays_3 rfl (lv_at hl 0 rfl) ?_
  refine lv_if_lt (x := -8) (tgt := 39) hx hb dX12_lays_4 (by decide) (fun c_5 => ?_) (fun c_5 => ?_)
  rotate_left
  · exact absurd (by decide) c_5
  exact k_vret C hr hlk hP hD hS () (trivial) [0, 1] rfl rfl (Nat.le_of_ble_eq_true rfl) (Nat.le_of_ble_eq_true rfl) dX12_lays_39
set_option maxHeartbeats 4000000 in
set_option maxRecDepth 100000 in
theorem c_X12_lays_4 (l : Launch) (G : kG) (sz : Nat) (h0 : Nat) (n0 : Int32) (Fh0 : Nat → Value) (atp : Nat) (f0 : Nat → Int32) (e_h0_17 : Fh0 17 = .ref atp) (e_h0_18 : Fh0 18 = .int 4) : kM l yX12_lays cX12_lays 3 none { frames := 6, cells := 0, slots := 0, locals := 110 } G [.ref h0, .int n0] [(h0, .inr (12, ofL 88 Fh0)), (atp, .inl (G.2.1, 700, .inl f0))] sz (kQv G (S := Unit) (fun (_ : Unit) => True) (fun _ => [(h0, .inr (12, ofL 88 (updV (updV (updV (updV Fh0 18 (.int 5)) 18 (.int 6)) 18 (.int 7)) 18 (.int 8)))), (atp, .inl (G.2.1, 700, .inl (upd (upd (upd (upd f0 4 ((n0 >>> (24 &&& 31)) &&& 255)) 5 ((n0 >>> (16 &&& 31)) &&& 255)) 6 ((n0 >>> (8 &&& 31)) &&& 255)) 7 ((n0 >>> (0 &&& 31)) &&& 255))))])) := by
  refine kM.of (by decide) (Nat.le_of_ble_eq_true rfl) ?_
  intro p e s m below meth c A ls H C hr hlk hnm hP hD hS hl
  have C : kC G p s m c cX12_lays 3 RX12 A := C
  have hx := C.1
  have hb := C.2.1
  have hl : lv_has ls 3 [(0, .ref h0), (1, .int n0)] := hl
  refine lv_bipush (v := 24) hx hb dX12_lays_0 (by decide) ?_
  refine lv_istore_n (lv' := [(2, .int 24), (0, .ref h0), (1, .int n0)]) hx hb dX12_lays_2 rfl hl (by decide) rfl (fun ls hl => ?_)
  refine lv_iload_n hx hb dX12_lays_3 rfl (lv_at hl 0 rfl) ?_
  refine lv_if_lt (x := 24) (tgt := 39) hx hb dX12_lays_4 (by decide) (fun c_1 => ?_) (fun c_1 => ?_)
  · exact absurd c_1 (by decide)
  refine lv_aload_n hx hb dX12_lays_7 rfl (lv_at hl 1 rfl) ?_
  refine k_get (v := .ref atp) fl_X12_53 C hP 0 rfl e_h0_17 dX12_lays_8 ?_
  refine lv_aload_n hx hb dX12_lays_11 rfl (lv_at hl 1 rfl) ?_
  refine k_get (v := .int 4) fl_X12_180 C hP 0 rfl e_h0_18 dX12_lays_12 ?_
  refine lv_iload_n hx hb dX12_lays_15 rfl (lv_at hl 2 rfl) ?_
  refine lv_iload_n hx hb dX12_lays_16 rfl (lv_at hl 0 rfl) ?_
  refine lv_ishr hx hb dX12_lays_17 ?_
  refine lv_sipush (v := 255) hx hb dX12_lays_18 (by decide) ?_
  refine lv_iand hx hb dX12_lays_21 ?_
  refine k_iast C hP hD hS 1 rfl (k_in (by decide)) dX12_lays_22 (fun H locs hP hD hS => ?_)
  have hP : va_P G.1 vwCl [(h0, .inr (12, ofL 88 Fh0)), (atp, .inl (G.2.1, 700, .inl (upd f0 4 ((n0 >>> (24 &&& 31)) &&& 255))))] H := hP
  have hD : va_D A [(h0, .inr (12, ofL 88 Fh0)), (atp, .inl (G.2.1, 700, .inl (upd f0 4 ((n0 >>> (24 &&& 31)) &&& 255))))] := hD
  refine lv_aload_n hx hb dX12_lays_23 rfl (lv_at hl 1 rfl) ?_
  refine lv_dup hx hb dX12_lays_24 rfl ?_
  refine k_get (v := .int 4) fl_X12_180 C hP 0 rfl e_h0_18 dX12_lays_25 ?_
  refine lv_iconst (v := 1) hx hb dX12_lays_28 (by decide) ?_
  refine lv_iadd hx hb dX12_lays_29 ?_
  refine k_eqi (y := 5) (by decide) ?_
  refine k_put fl_X12_180 ft_X12_18 C hP hD hS 0 rfl rfl rfl dX12_lays_30 (fun H locs hP hD hS => ?_)
  have hP : va_P G.1 vwCl [(h0, .inr (12, ofL 88 (updV Fh0 18 (.int 5)))), (atp, .inl (G.2.1, 700, .inl (upd f0 4 ((n0 >>> (24 &&& 31)) &&& 255))))] H := hP
  have hD : va_D A [(h0, .inr (12, ofL 88 (updV Fh0 18 (.int 5)))), (atp, .inl (G.2.1, 700, .inl (upd f0 4 ((n0 >>> (24 &&& 31)) &&& 255))))] := hD
  refine lv_iinc (v := 16) (lv' := [(2, .int 16), (0, .ref h0), (1, .int n0)]) hx hb dX12_lays_33 hl (k := 0) rfl (by decide) (by decide) rfl (fun ls hl => ?_)
  refine lv_goto (tgt := 3) hx hb dX12_lays_36 (by decide) ?_
  refine lv_iload_n hx hb dX12_lays_3 rfl (lv_at hl 0 rfl) ?_
  refine lv_if_lt (x := 16) (tgt := 39) hx hb dX12_lays_4 (by decide) (fun c_2 => ?_) (fun c_2 => ?_)
  · exact absurd c_2 (by decide)
  refine lv_aload_n hx hb dX12_lays_7 rfl (lv_at hl 1 rfl) ?_
  refine k_get (v := .ref atp) fl_X12_53 C hP 0 rfl e_h0_17 dX12_lays_8 ?_
  refine lv_aload_n hx hb dX12_lays_11 rfl (lv_at hl 1 rfl) ?_
  refine k_get (v := .int 5) fl_X12_180 C hP 0 rfl rfl dX12_lays_12 ?_
  refine lv_iload_n hx hb dX12_lays_15 rfl (lv_at hl 2 rfl) ?_
  refine lv_iload_n hx hb dX12_lays_16 rfl (lv_at hl 0 rfl) ?_
  refine lv_ishr hx hb dX12_lays_17 ?_
  refine lv_sipush (v := 255) hx hb dX12_lays_18 (by decide) ?_
  refine lv_iand hx hb dX12_lays_21 ?_
  refine k_iast C hP hD hS 1 rfl (k_in (by decide)) dX12_lays_22 (fun H locs hP hD hS => ?_)
  have hP : va_P G.1 vwCl [(h0, .inr (12, ofL 88 (updV Fh0 18 (.int 5)))), (atp, .inl (G.2.1, 700, .inl (upd (upd f0 4 ((n0 >>> (24 &&& 31)) &&& 255)) 5 ((n0 >>> (16 &&& 31)) &&& 255))))] H := hP
  have hD : va_D A [(h0, .inr (12, ofL 88 (updV Fh0 18 (.int 5)))), (atp, .inl (G.2.1, 700, .inl (upd (upd f0 4 ((n0 >>> (24 &&& 31)) &&& 255)) 5 ((n0 >>> (16 &&& 31)) &&& 255))))] := hD
  refine lv_aload_n hx hb dX12_lays_23 rfl (lv_at hl 1 rfl) ?_
  refine lv_dup hx hb dX12_lays_24 rfl ?_
  refine k_get (v := .int 5) fl_X12_180 C hP 0 rfl rfl dX12_lays_25 ?_
  refine lv_iconst (v := 1) hx hb dX12_lays_28 (by decide) ?_
  refine lv_iadd hx hb dX12_lays_29 ?_
  refine k_eqi (y := 6) (by decide) ?_
  refine k_put fl_X12_180 ft_X12_18 C hP hD hS 0 rfl rfl rfl dX12_lays_30 (fun H locs hP hD hS => ?_)
  have hP : va_P G.1 vwCl [(h0, .inr (12, ofL 88 (updV (updV Fh0 18 (.int 5)) 18 (.int 6)))), (atp, .inl (G.2.1, 700, .inl (upd (upd f0 4 ((n0 >>> (24 &&& 31)) &&& 255)) 5 ((n0 >>> (16 &&& 31)) &&& 255))))] H := hP
  have hD : va_D A [(h0, .inr (12, ofL 88 (updV (updV Fh0 18 (.int 5)) 18 (.int 6)))), (atp, .inl (G.2.1, 700, .inl (upd (upd f0 4 ((n0 >>> (24 &&& 31)) &&& 255)) 5 ((n0 >>> (16 &&& 31)) &&& 255))))] := hD
  refine lv_iinc (v := 8) (lv' := [(2, .int 8), (0, .ref h0), (1, .int n0)]) hx hb dX12_lays_33 hl (k := 0) rfl (by decide) (by decide) rfl (fun ls hl => ?_)
  refine lv_goto (tgt := 3) hx hb dX12_lays_36 (by decide) ?_
  refine lv_iload_n hx hb dX12_lays_3 rfl (lv_at hl 0 rfl) ?_
  refine lv_if_lt (x := 8) (tgt := 39) hx hb dX12_lays_4 (by decide) (fun c_3 => ?_) (fun c_3 => ?_)
  · exact absurd c_3 (by decide)
  refine lv_aload_n hx hb dX12_lays_7 rfl (lv_at hl 1 rfl) ?_
  refine k_get (v := .ref atp) fl_X12_53 C hP 0 rfl e_h0_17 dX12_lays_8 ?_
  refine lv_aload_n hx hb dX12_lays_11 rfl (lv_at hl 1 rfl) ?_
  refine k_get (v := .int 6) fl_X12_180 C hP 0 rfl rfl dX12_lays_12 ?_
  refine lv_iload_n hx hb dX12_lays_15 rfl (lv_at hl 2 rfl) ?_
  refine lv_iload_n hx hb dX12_lays_16 rfl (lv_at hl 0 rfl) ?_
  refine lv_ishr hx hb dX12_lays_17 ?_
  refine lv_sipush (v := 255) hx hb dX12_lays_18 (by decide) ?_
  refine lv_iand hx hb dX12_lays_21 ?_
  refine k_iast C hP hD hS 1 rfl (k_in (by decide)) dX12_lays_22 (fun H locs hP hD hS => ?_)
  have hP : va_P G.1 vwCl [(h0, .inr (12, ofL 88 (updV (updV Fh0 18 (.int 5)) 18 (.int 6)))), (atp, .inl (G.2.1, 700, .inl (upd (upd (upd f0 4 ((n0 >>> (24 &&& 31)) &&& 255)) 5 ((n0 >>> (16 &&& 31)) &&& 255)) 6 ((n0 >>> (8 &&& 31)) &&& 255))))] H := hP
  have hD : va_D A [(h0, .inr (12, ofL 88 (updV (updV Fh0 18 (.int 5)) 18 (.int 6)))), (atp, .inl (G.2.1, 700, .inl (upd (upd (upd f0 4 ((n0 >>> (24 &&& 31)) &&& 255)) 5 ((n0 >>> (16 &&& 31)) &&& 255)) 6 ((n0 >>> (8 &&& 31)) &&& 255))))] := hD
  refine lv_aload_n hx hb dX12_lays_23 rfl (lv_at hl 1 rfl) ?_
  refine lv_dup hx hb dX12_lays_24 rfl ?_
  refine k_get (v := .int 6) fl_X12_180 C hP 0 rfl rfl dX12_lays_25 ?_
  refine lv_iconst (v := 1) hx hb dX12_lays_28 (by decide) ?_
  refine lv_iadd hx hb dX12_lays_29 ?_
  refine k_eqi (y := 7) (by decide) ?_
  refine k_put fl_X12_180 ft_X12_18 C hP hD hS 0 rfl rfl rfl dX12_lays_30 (fun H locs hP hD hS => ?_)
  have hP : va_P G.1 vwCl [(h0, .inr (12, ofL 88 (updV (updV (updV Fh0 18 (.int 5)) 18 (.int 6)) 18 (.int 7)))), (atp, .inl (G.2.1, 700, .inl (upd (upd (upd f0 4 ((n0 >>> (24 &&& 31)) &&& 255)) 5 ((n0 >>> (16 &&& 31)) &&& 255)) 6 ((n0 >>> (8 &&& 31)) &&& 255))))] H := hP
  have hD : va_D A [(h0, .inr (12, ofL 88 (updV (updV (updV Fh0 18 (.int 5)) 18 (.int 6)) 18 (.int 7)))), (atp, .inl (G.2.1, 700, .inl (upd (upd (upd f0 4 ((n0 >>> (24 &&& 31)) &&& 255)) 5 ((n0 >>> (16 &&& 31)) &&& 255)) 6 ((n0 >>> (8 &&& 31)) &&& 255))))] := hD
  refine lv_iinc (v := 0) (lv' := [(2, .int 0), (0, .ref h0), (1, .int n0)]) hx hb dX12_lays_33 hl (k := 0) rfl (by decide) (by decide) rfl (fun ls hl => ?_)
  refine lv_goto (tgt := 3) hx hb dX12_lays_36 (by decide) ?_
  refine lv_iload_n hx hb dX12_lays_3 rfl (lv_at hl 0 rfl) ?_
  refine lv_if_lt (x := 0) (tgt := 39) hx hb dX12_lays_4 (by decide) (fun c_4 => ?_) (fun c_4 => ?_)
  · exact absurd c_4 (by decide)
  refine lv_aload_n hx hb dX12_lays_7 rfl (lv_at hl 1 rfl) ?_
  refine k_get (v := .ref atp) fl_X12_53 C hP 0 rfl e_h0_17 dX12_lays_8 ?_
  refine lv_aload_n hx hb dX12_lays_11 rfl (lv_at hl 1 rfl) ?_
  refine k_get (v := .int 7) fl_X12_180 C hP 0 rfl rfl dX12_lays_12 ?_
  refine lv_iload_n hx hb dX12_lays_15 rfl (lv_at hl 2 rfl) ?_
  refine lv_iload_n hx hb dX12_lays_16 rfl (lv_at hl 0 rfl) ?_
  refine lv_ishr hx hb dX12_lays_17 ?_
  refine lv_sipush (v := 255) hx hb dX12_lays_18 (by decide) ?_
  refine lv_iand hx hb dX12_lays_21 ?_
  refine k_iast C hP hD hS 1 rfl (k_in (by decide)) dX12_lays_22 (fun H locs hP hD hS => ?_)
  have hP : va_P G.1 vwCl [(h0, .inr (12, ofL 88 (updV (updV (updV Fh0 18 (.int 5)) 18 (.int 6)) 18 (.int 7)))), (atp, .inl (G.2.1, 700, .inl (upd (upd (upd (upd f0 4 ((n0 >>> (24 &&& 31)) &&& 255)) 5 ((n0 >>> (16 &&& 31)) &&& 255)) 6 ((n0 >>> (8 &&& 31)) &&& 255)) 7 ((n0 >>> (0 &&& 31)) &&& 255))))] H := hP
  have hD : va_D A [(h0, .inr (12, ofL 88 (updV (updV (updV Fh0 18 (.int 5)) 18 (.int 6)) 18 (.int 7)))), (atp, .inl (G.2.1, 700, .inl (upd (upd (upd (upd f0 4 ((n0 >>> (24 &&& 31)) &&& 255)) 5 ((n0 >>> (16 &&& 31)) &&& 255)) 6 ((n0 >>> (8 &&& 31)) &&& 255)) 7 ((n0 >>> (0 &&& 31)) &&& 255))))] := hD
  refine lv_aload_n hx hb dX12_lays_23 rfl (lv_at hl 1 rfl) ?_
  refine lv_dup hx hb dX12_lays_24 rfl ?_
  refine k_get (v := .int 7) fl_X12_180 C hP 0 rfl rfl dX12_lays_25 ?_
  refine lv_iconst (v := 1) hx hb dX12_lays_28 (by decide) ?_
  refine lv_iadd hx hb dX12_lays_29 ?_
  refine k_eqi (y := 8) (by decide) ?_
  refine k_put fl_X12_180 ft_X12_18 C hP hD hS 0 rfl rfl rfl dX12_lays_30 (fun H locs hP hD hS => ?_)
  have hP : va_P G.1 vwCl [(h0, .inr (12, ofL 88 (updV (updV (updV (updV Fh0 18 (.int 5)) 18 (.int 6)) 18 (.int 7)) 18 (.int 8)))), (atp, .inl (G.2.1, 700, .inl (upd (upd (upd (upd f0 4 ((n0 >>> (24 &&& 31)) &&& 255)) 5 ((n0 >>> (16 &&& 31)) &&& 255)) 6 ((n0 >>> (8 &&& 31)) &&& 255)) 7 ((n0 >>> (0 &&& 31)) &&& 255))))] H := hP
  have hD : va_D A [(h0, .inr (12, ofL 88 (updV (updV (updV (updV Fh0 18 (.int 5)) 18 (.int 6)) 18 (.int 7)) 18 (.int 8)))), (atp, .inl (G.2.1, 700, .inl (upd (upd (upd (upd f0 4 ((n0 >>> (24 &&& 31)) &&& 255)) 5 ((n0 >>> (16 &&& 31)) &&& 255)) 6 ((n0 >>> (8 &&& 31)) &&& 255)) 7 ((n0 >>> (0 &&& 31)) &&& 255))))] := hD
  refine lv_iinc (v := -8) (lv' := [(2, .int (-8)), (0, .ref h0), (1, .int n0)]) hx hb dX12_lays_33 hl (k := 0) rfl (by decide) (by decide) rfl (fun ls hl => ?_)
  refine lv_goto (tgt := 3) hx hb dX12_lays_36 (by decide) ?_
  refine lv_iload_n hx hb dX12_lays_3 rfl (lv_at hl 0 rfl) ?_
  refine lv_if_lt (x := -8) (tgt := 39) hx hb dX12_lays_4 (by decide) (fun c_5 => ?_) (fun c_5 => ?_)
  rotate_left
  · exact absurd (by decide) c_5
  exact k_vret C hr hlk hP hD hS () (trivial) [0, 1] rfl rfl (Nat.le_of_ble_eq_true rfl) (Nat.le_of_ble_eq_true rfl) dX12_lays_39
set_option maxHeartbeats 4000000 in
set_option maxRecDepth 100000 in
theorem c_X12_lays_8 (l : Launch) (G : kG) (sz : Nat) (h0 : Nat) (n0 : Int32) (Fh0 : Nat → Value) (atp : Nat) (f0 : Nat → Int32) (e_h0_17 : Fh0 17 = .ref atp) (e_h0_18 : Fh0 18 = .int 8) : kM l yX12_lays cX12_lays 3 none { frames := 6, cells := 0, slots := 0, locals := 110 } G [.ref h0, .int n0] [(h0, .inr (12, ofL 88 Fh0)), (atp, .inl (G.2.1, 700, .inl f0))] sz (kQv G (S := Unit) (fun (_ : Unit) => True) (fun _ => [(h0, .inr (12, ofL 88 (updV (updV (updV (updV Fh0 18 (.int 9)) 18 (.int 10)) 18 (.int 11)) 18 (.int 12)))), (atp, .inl (G.2.1, 700, .inl (upd (upd (upd (upd f0 8 ((n0 >>> (24 &&& 31)) &&& 255)) 9 ((n0 >>> (16 &&& 31)) &&& 255)) 10 ((n0 >>> (8 &&& 31)) &&& 255)) 11 ((n0 >>> (0 &&& 31)) &&& 255))))])) := by
  refine kM.of (by decide) (Nat.le_of_ble_eq_true rfl) ?_
  intro p e s m below meth c A ls H C hr hlk hnm hP hD hS hl
  have C : kC G p s m c cX12_lays 3 RX12 A := C
  have hx := C.1
  have hb := C.2.1
  have hl : lv_has ls 3 [(0, .ref h0), (1, .int n0)] := hl
  refine lv_bipush (v := 24) hx hb dX12_lays_0 (by decide) ?_
  refine lv_istore_n (lv' := [(2, .int 24), (0, .ref h0), (1, .int n0)]) hx hb dX12_lays_2 rfl hl (by decide) rfl (fun ls hl => ?_)
  refine lv_iload_n hx hb dX12_lays_3 rfl (lv_at hl 0 rfl) ?_
  refine lv_if_lt (x := 24) (tgt := 39) hx hb dX12_lays_4 (by decide) (fun c_1 => ?_) (fun c_1 => ?_)
  · exact absurd c_1 (by decide)
  refine lv_aload_n hx hb dX12_lays_7 rfl (lv_at hl 1 rfl) ?_
  refine k_get (v := .ref atp) fl_X12_53 C hP 0 rfl e_h0_17 dX12_lays_8 ?_
  refine lv_aload_n hx hb dX12_lays_11 rfl (lv_at hl 1 rfl) ?_
  refine k_get (v := .int 8) fl_X12_180 C hP 0 rfl e_h0_18 dX12_lays_12 ?_
  refine lv_iload_n hx hb dX12_lays_15 rfl (lv_at hl 2 rfl) ?_
  refine lv_iload_n hx hb dX12_lays_16 rfl (lv_at hl 0 rfl) ?_
  refine lv_ishr hx hb dX12_lays_17 ?_
  refine lv_sipush (v := 255) hx hb dX12_lays_18 (by decide) ?_
  refine lv_iand hx hb dX12_lays_21 ?_
  refine k_iast C hP hD hS 1 rfl (k_in (by decide)) dX12_lays_22 (fun H locs hP hD hS => ?_)
  have hP : va_P G.1 vwCl [(h0, .inr (12, ofL 88 Fh0)), (atp, .inl (G.2.1, 700, .inl (upd f0 8 ((n0 >>> (24 &&& 31)) &&& 255))))] H := hP
  have hD : va_D A [(h0, .inr (12, ofL 88 Fh0)), (atp, .inl (G.2.1, 700, .inl (upd f0 8 ((n0 >>> (24 &&& 31)) &&& 255))))] := hD
  refine lv_aload_n hx hb dX12_lays_23 rfl (lv_at hl 1 rfl) ?_
  refine lv_dup hx hb dX12_lays_24 rfl ?_
  refine k_get (v := .int 8) fl_X12_180 C hP 0 rfl e_h0_18 dX12_lays_25 ?_
  refine lv_iconst (v := 1) hx hb dX12_lays_28 (by decide) ?_
  refine lv_iadd hx hb dX12_lays_29 ?_
  refine k_eqi (y := 9) (by decide) ?_
  refine k_put fl_X12_180 ft_X12_18 C hP hD hS 0 rfl rfl rfl dX12_lays_30 (fun H locs hP hD hS => ?_)
  have hP : va_P G.1 vwCl [(h0, .inr (12, ofL 88 (updV Fh0 18 (.int 9)))), (atp, .inl (G.2.1, 700, .inl (upd f0 8 ((n0 >>> (24 &&& 31)) &&& 255))))] H := hP
  have hD : va_D A [(h0, .inr (12, ofL 88 (updV Fh0 18 (.int 9)))), (atp, .inl (G.2.1, 700, .inl (upd f0 8 ((n0 >>> (24 &&& 31)) &&& 255))))] := hD
  refine lv_iinc (v := 16) (lv' := [(2, .int 16), (0, .ref h0), (1, .int n0)]) hx hb dX12_lays_33 hl (k := 0) rfl (by decide) (by decide) rfl (fun ls hl => ?_)
  refine lv_goto (tgt := 3) hx hb dX12_lays_36 (by decide) ?_
  refine lv_iload_n hx hb dX12_lays_3 rfl (lv_at hl 0 rfl) ?_
  refine lv_if_lt (x := 16) (tgt := 39) hx hb dX12_lays_4 (by decide) (fun c_2 => ?_) (fun c_2 => ?_)
  · exact absurd c_2 (by decide)
  refine lv_aload_n hx hb dX12_lays_7 rfl (lv_at hl 1 rfl) ?_
  refine k_get (v := .ref atp) fl_X12_53 C hP 0 rfl e_h0_17 dX12_lays_8 ?_
  refine lv_aload_n hx hb dX12_lays_11 rfl (lv_at hl 1 rfl) ?_
  refine k_get (v := .int 9) fl_X12_180 C hP 0 rfl rfl dX12_lays_12 ?_
  refine lv_iload_n hx hb dX12_lays_15 rfl (lv_at hl 2 rfl) ?_
  refine lv_iload_n hx hb dX12_lays_16 rfl (lv_at hl 0 rfl) ?_
  refine lv_ishr hx hb dX12_lays_17 ?_
  refine lv_sipush (v := 255) hx hb dX12_lays_18 (by decide) ?_
  refine lv_iand hx hb dX12_lays_21 ?_
  refine k_iast C hP hD hS 1 rfl (k_in (by decide)) dX12_lays_22 (fun H locs hP hD hS => ?_)
  have hP : va_P G.1 vwCl [(h0, .inr (12, ofL 88 (updV Fh0 18 (.int 9)))), (atp, .inl (G.2.1, 700, .inl (upd (upd f0 8 ((n0 >>> (24 &&& 31)) &&& 255)) 9 ((n0 >>> (16 &&& 31)) &&& 255))))] H := hP
  have hD : va_D A [(h0, .inr (12, ofL 88 (updV Fh0 18 (.int 9)))), (atp, .inl (G.2.1, 700, .inl (upd (upd f0 8 ((n0 >>> (24 &&& 31)) &&& 255)) 9 ((n0 >>> (16 &&& 31)) &&& 255))))] := hD
  refine lv_aload_n hx hb dX12_lays_23 rfl (lv_at hl 1 rfl) ?_
  refine lv_dup hx hb dX12_lays_24 rfl ?_
  refine k_get (v := .int 9) fl_X12_180 C hP 0 rfl rfl dX12_lays_25 ?_
  refine lv_iconst (v := 1) hx hb dX12_lays_28 (by decide) ?_
  refine lv_iadd hx hb dX12_lays_29 ?_
  refine k_eqi (y := 10) (by decide) ?_
  refine k_put fl_X12_180 ft_X12_18 C hP hD hS 0 rfl rfl rfl dX12_lays_30 (fun H locs hP hD hS => ?_)
  have hP : va_P G.1 vwCl [(h0, .inr (12, ofL 88 (updV (updV Fh0 18 (.int 9)) 18 (.int 10)))), (atp, .inl (G.2.1, 700, .inl (upd (upd f0 8 ((n0 >>> (24 &&& 31)) &&& 255)) 9 ((n0 >>> (16 &&& 31)) &&& 255))))] H := hP
  have hD : va_D A [(h0, .inr (12, ofL 88 (updV (updV Fh0 18 (.int 9)) 18 (.int 10)))), (atp, .inl (G.2.1, 700, .inl (upd (upd f0 8 ((n0 >>> (24 &&& 31)) &&& 255)) 9 ((n0 >>> (16 &&& 31)) &&& 255))))] := hD
  refine lv_iinc (v := 8) (lv' := [(2, .int 8), (0, .ref h0), (1, .int n0)]) hx hb dX12_lays_33 hl (k := 0) rfl (by decide) (by decide) rfl (fun ls hl => ?_)
  refine lv_goto (tgt := 3) hx hb dX12_lays_36 (by decide) ?_
  refine lv_iload_n hx hb dX12_lays_3 rfl (lv_at hl 0 rfl) ?_
  refine lv_if_lt (x := 8) (tgt := 39) hx hb dX12_lays_4 (by decide) (fun c_3 => ?_) (fun c_3 => ?_)
  · exact absurd c_3 (by decide)
  refine lv_aload_n hx hb dX12_lays_7 rfl (lv_at hl 1 rfl) ?_
  refine k_get (v := .ref atp) fl_X12_53 C hP 0 rfl e_h0_17 dX12_lays_8 ?_
  refine lv_aload_n hx hb dX12_lays_11 rfl (lv_at hl 1 rfl) ?_
  refine k_get (v := .int 10) fl_X12_180 C hP 0 rfl rfl dX12_lays_12 ?_
  refine lv_iload_n hx hb dX12_lays_15 rfl (lv_at hl 2 rfl) ?_
  refine lv_iload_n hx hb dX12_lays_16 rfl (lv_at hl 0 rfl) ?_
  refine lv_ishr hx hb dX12_lays_17 ?_
  refine lv_sipush (v := 255) hx hb dX12_lays_18 (by decide) ?_
  refine lv_iand hx hb dX12_lays_21 ?_
  refine k_iast C hP hD hS 1 rfl (k_in (by decide)) dX12_lays_22 (fun H locs hP hD hS => ?_)
  have hP : va_P G.1 vwCl [(h0, .inr (12, ofL 88 (updV (updV Fh0 18 (.int 9)) 18 (.int 10)))), (atp, .inl (G.2.1, 700, .inl (upd (upd (upd f0 8 ((n0 >>> (24 &&& 31)) &&& 255)) 9 ((n0 >>> (16 &&& 31)) &&& 255)) 10 ((n0 >>> (8 &&& 31)) &&& 255))))] H := hP
  have hD : va_D A [(h0, .inr (12, ofL 88 (updV (updV Fh0 18 (.int 9)) 18 (.int 10)))), (atp, .inl (G.2.1, 700, .inl (upd (upd (upd f0 8 ((n0 >>> (24 &&& 31)) &&& 255)) 9 ((n0 >>> (16 &&& 31)) &&& 255)) 10 ((n0 >>> (8 &&& 31)) &&& 255))))] := hD
  refine lv_aload_n hx hb dX12_lays_23 rfl (lv_at hl 1 rfl) ?_
  refine lv_dup hx hb dX12_lays_24 rfl ?_
  refine k_get (v := .int 10) fl_X12_180 C hP 0 rfl rfl dX12_lays_25 ?_
  refine lv_iconst (v := 1) hx hb dX12_lays_28 (by decide) ?_
  refine lv_iadd hx hb dX12_lays_29 ?_
  refine k_eqi (y := 11) (by decide) ?_
  refine k_put fl_X12_180 ft_X12_18 C hP hD hS 0 rfl rfl rfl dX12_lays_30 (fun H locs hP hD hS => ?_)
  have hP : va_P G.1 vwCl [(h0, .inr (12, ofL 88 (updV (updV (updV Fh0 18 (.int 9)) 18 (.int 10)) 18 (.int 11)))), (atp, .inl (G.2.1, 700, .inl (upd (upd (upd f0 8 ((n0 >>> (24 &&& 31)) &&& 255)) 9 ((n0 >>> (16 &&& 31)) &&& 255)) 10 ((n0 >>> (8 &&& 31)) &&& 255))))] H := hP
  have hD : va_D A [(h0, .inr (12, ofL 88 (updV (updV (updV Fh0 18 (.int 9)) 18 (.int 10)) 18 (.int 11)))), (atp, .inl (G.2.1, 700, .inl (upd (upd (upd f0 8 ((n0 >>> (24 &&& 31)) &&& 255)) 9 ((n0 >>> (16 &&& 31)) &&& 255)) 10 ((n0 >>> (8 &&& 31)) &&& 255))))] := hD
  refine lv_iinc (v := 0) (lv' := [(2, .int 0), (0, .ref h0), (1, .int n0)]) hx hb dX12_lays_33 hl (k := 0) rfl (by decide) (by decide) rfl (fun ls hl => ?_)
  refine lv_goto (tgt := 3) hx hb dX12_lays_36 (by decide) ?_
  refine lv_iload_n hx hb dX12_lays_3 rfl (lv_at hl 0 rfl) ?_
  refine lv_if_lt (x := 0) (tgt := 39) hx hb dX12_lays_4 (by decide) (fun c_4 => ?_) (fun c_4 => ?_)
  · exact absurd c_4 (by decide)
  refine lv_aload_n hx hb dX12_lays_7 rfl (lv_at hl 1 rfl) ?_
  refine k_get (v := .ref atp) fl_X12_53 C hP 0 rfl e_h0_17 dX12_lays_8 ?_
  refine lv_aload_n hx hb dX12_lays_11 rfl (lv_at hl 1 rfl) ?_
  refine k_get (v := .int 11) fl_X12_180 C hP 0 rfl rfl dX12_lays_12 ?_
  refine lv_iload_n hx hb dX12_lays_15 rfl (lv_at hl 2 rfl) ?_
  refine lv_iload_n hx hb dX12_lays_16 rfl (lv_at hl 0 rfl) ?_
  refine lv_ishr hx hb dX12_lays_17 ?_
  refine lv_sipush (v := 255) hx hb dX12_lays_18 (by decide) ?_
  refine lv_iand hx hb dX12_lays_21 ?_
  refine k_iast C hP hD hS 1 rfl (k_in (by decide)) dX12_lays_22 (fun H locs hP hD hS => ?_)
  have hP : va_P G.1 vwCl [(h0, .inr (12, ofL 88 (updV (updV (updV Fh0 18 (.int 9)) 18 (.int 10)) 18 (.int 11)))), (atp, .inl (G.2.1, 700, .inl (upd (upd (upd (upd f0 8 ((n0 >>> (24 &&& 31)) &&& 255)) 9 ((n0 >>> (16 &&& 31)) &&& 255)) 10 ((n0 >>> (8 &&& 31)) &&& 255)) 11 ((n0 >>> (0 &&& 31)) &&& 255))))] H := hP
  have hD : va_D A [(h0, .inr (12, ofL 88 (updV (updV (updV Fh0 18 (.int 9)) 18 (.int 10)) 18 (.int 11)))), (atp, .inl (G.2.1, 700, .inl (upd (upd (upd (upd f0 8 ((n0 >>> (24 &&& 31)) &&& 255)) 9 ((n0 >>> (16 &&& 31)) &&& 255)) 10 ((n0 >>> (8 &&& 31)) &&& 255)) 11 ((n0 >>> (0 &&& 31)) &&& 255))))] := hD
  refine lv_aload_n hx hb dX12_lays_23 rfl (lv_at hl 1 rfl) ?_
  refine lv_dup hx hb dX12_lays_24 rfl ?_
  refine k_get (v := .int 11) fl_X12_180 C hP 0 rfl rfl dX12_lays_25 ?_
  refine lv_iconst (v := 1) hx hb dX12_lays_28 (by decide) ?_
  refine lv_iadd hx hb dX12_lays_29 ?_
  refine k_eqi (y := 12) (by decide) ?_
  refine k_put fl_X12_180 ft_X12_18 C hP hD hS 0 rfl rfl rfl dX12_lays_30 (fun H locs hP hD hS => ?_)
  have hP : va_P G.1 vwCl [(h0, .inr (12, ofL 88 (updV (updV (updV (updV Fh0 18 (.int 9)) 18 (.int 10)) 18 (.int 11)) 18 (.int 12)))), (atp, .inl (G.2.1, 700, .inl (upd (upd (upd (upd f0 8 ((n0 >>> (24 &&& 31)) &&& 255)) 9 ((n0 >>> (16 &&& 31)) &&& 255)) 10 ((n0 >>> (8 &&& 31)) &&& 255)) 11 ((n0 >>> (0 &&& 31)) &&& 255))))] H := hP
  have hD : va_D A [(h0, .inr (12, ofL 88 (updV (updV (updV (updV Fh0 18 (.int 9)) 18 (.int 10)) 18 (.int 11)) 18 (.int 12)))), (atp, .inl (G.2.1, 700, .inl (upd (upd (upd (upd f0 8 ((n0 >>> (24 &&& 31)) &&& 255)) 9 ((n0 >>> (16 &&& 31)) &&& 255)) 10 ((n0 >>> (8 &&& 31)) &&& 255)) 11 ((n0 >>> (0 &&& 31)) &&& 255))))] := hD
  refine lv_iinc (v := -8) (lv' := [(2, .int (-8)), (0, .ref h0), (1, .int n0)]) hx hb dX12_lays_33 hl (k := 0) rfl (by decide) (by decide) rfl (fun ls hl => ?_)
  refine lv_goto (tgt := 3) hx hb dX12_lays_36 (by decide) ?_
  refine lv_iload_n hx hb dX12_lays_3 rfl (lv_at hl 0 rfl) ?_
  refine lv_if_lt (x := -8) (tgt := 39) hx hb dX12_lays_4 (by decide) (fun c_5 => ?_) (fun c_5 => ?_)
  rotate_left
  · exact absurd (by decide) c_5
  exact k_vret C hr hlk hP hD hS () (trivial) [0, 1] rfl rfl (Nat.le_of_ble_eq_true rfl) (Nat.le_of_ble_eq_true rfl) dX12_lays_39
set_option maxHeartbeats 4000000 in
set_option maxRecDepth 100000 in
theorem c_X12_lays_12 (l : Launch) (G : kG) (sz : Nat) (h0 : Nat) (n0 : Int32) (Fh0 : Nat → Value) (atp : Nat) (f0 : Nat → Int32) (e_h0_17 : Fh0 17 = .ref atp) (e_h0_18 : Fh0 18 = .int 12) : kM l yX12_lays cX12_lays 3 none { frames := 6, cells := 0, slots := 0, locals := 110 } G [.ref h0, .int n0] [(h0, .inr (12, ofL 88 Fh0)), (atp, .inl (G.2.1, 700, .inl f0))] sz (kQv G (S := Unit) (fun (_ : Unit) => True) (fun _ => [(h0, .inr (12, ofL 88 (updV (updV (updV (updV Fh0 18 (.int 13)) 18 (.int 14)) 18 (.int 15)) 18 (.int 16)))), (atp, .inl (G.2.1, 700, .inl (upd (upd (upd (upd f0 12 ((n0 >>> (24 &&& 31)) &&& 255)) 13 ((n0 >>> (16 &&& 31)) &&& 255)) 14 ((n0 >>> (8 &&& 31)) &&& 255)) 15 ((n0 >>> (0 &&& 31)) &&& 255))))])) := by
  refine kM.of (by decide) (Nat.le_of_ble_eq_true rfl) ?_
  intro p e s m below meth c A ls H C hr hlk hnm hP hD hS hl
  have C : kC G p s m c cX12_lays 3 RX12 A := C
  have hx := C.1
  have hb := C.2.1
  have hl : lv_has ls 3 [(0, .ref h0), (1, .int n0)] := hl
  refine lv_bipush (v := 24) hx hb dX12_lays_0 (by decide) ?_
  refine lv_istore_n (lv' := [(2, .int 24), (0, .ref h0), (1, .int n0)]) hx hb dX12_lays_2 rfl hl (by decide) rfl (fun ls hl => ?_)
  refine lv_iload_n hx hb dX12_lays_3 rfl (lv_at hl 0 rfl) ?_
  refine lv_if_lt (x := 24) (tgt := 39) hx hb dX12_lays_4 (by decide) (fun c_1 => ?_) (fun c_1 => ?_)
  · exact absurd c_1 (by decide)
  refine lv_aload_n hx hb dX12_lays_7 rfl (lv_at hl 1 rfl) ?_
  refine k_get (v := .ref atp) fl_X12_53 C hP 0 rfl e_h0_17 dX12_lays_8 ?_
  refine lv_aload_n hx hb dX12_lays_11 rfl (lv_at hl 1 rfl) ?_
  refine k_get (v := .int 12) fl_X12_180 C hP 0 rfl e_h0_18 dX12_lays_12 ?_
  refine lv_iload_n hx hb dX12_lays_15 rfl (lv_at hl 2 rfl) ?_
  refine lv_iload_n hx hb dX12_lays_16 rfl (lv_at hl 0 rfl) ?_
  refine lv_ishr hx hb dX12_lays_17 ?_
  refine lv_sipush (v := 255) hx hb dX12_lays_18 (by decide) ?_
  refine lv_iand hx hb dX12_lays_21 ?_
  refine k_iast C hP hD hS 1 rfl (k_in (by decide)) dX12_lays_22 (fun H locs hP hD hS => ?_)
  have hP : va_P G.1 vwCl [(h0, .inr (12, ofL 88 Fh0)), (atp, .inl (G.2.1, 700, .inl (upd f0 12 ((n0 >>> (24 &&& 31)) &&& 255))))] H := hP
  have hD : va_D A [(h0, .inr (12, ofL 88 Fh0)), (atp, .inl (G.2.1, 700, .inl (upd f0 12 ((n0 >>> (24 &&& 31)) &&& 255))))] := hD
  refine lv_aload_n hx hb dX12_lays_23 rfl (lv_at hl 1 rfl) ?_
  refine lv_dup hx hb dX12_lays_24 rfl ?_
  refine k_get (v := .int 12) fl_X12_180 C hP 0 rfl e_h0_18 dX12_lays_25 ?_
  refine lv_iconst (v := 1) hx hb dX12_lays_28 (by decide) ?_
  refine lv_iadd hx hb dX12_lays_29 ?_
  refine k_eqi (y := 13) (by decide) ?_
  refine k_put fl_X12_180 ft_X12_18 C hP hD hS 0 rfl rfl rfl dX12_lays_30 (fun H locs hP hD hS => ?_)
  have hP : va_P G.1 vwCl [(h0, .inr (12, ofL 88 (updV Fh0 18 (.int 13)))), (atp, .inl (G.2.1, 700, .inl (upd f0 12 ((n0 >>> (24 &&& 31)) &&& 255))))] H := hP
  have hD : va_D A [(h0, .inr (12, ofL 88 (updV Fh0 18 (.int 13)))), (atp, .inl (G.2.1, 700, .inl (upd f0 12 ((n0 >>> (24 &&& 31)) &&& 255))))] := hD
  refine lv_iinc (v := 16) (lv' := [(2, .int 16), (0, .ref h0), (1, .int n0)]) hx hb dX12_lays_33 hl (k := 0) rfl (by decide) (by decide) rfl (fun ls hl => ?_)
  refine lv_goto (tgt := 3) hx hb dX12_lays_36 (by decide) ?_
  refine lv_iload_n hx hb dX12_lays_3 rfl (lv_at hl 0 rfl) ?_
  refine lv_if_lt (x := 16) (tgt := 39) hx hb dX12_lays_4 (by decide) (fun c_2 => ?_) (fun c_2 => ?_)
  · exact absurd c_2 (by decide)
  refine lv_aload_n hx hb dX12_lays_7 rfl (lv_at hl 1 rfl) ?_
  refine k_get (v := .ref atp) fl_X12_53 C hP 0 rfl e_h0_17 dX12_lays_8 ?_
  refine lv_aload_n hx hb dX12_lays_11 rfl (lv_at hl 1 rfl) ?_
  refine k_get (v := .int 13) fl_X12_180 C hP 0 rfl rfl dX12_lays_12 ?_
  refine lv_iload_n hx hb dX12_lays_15 rfl (lv_at hl 2 rfl) ?_
  refine lv_iload_n hx hb dX12_lays_16 rfl (lv_at hl 0 rfl) ?_
  refine lv_ishr hx hb dX12_lays_17 ?_
  refine lv_sipush (v := 255) hx hb dX12_lays_18 (by decide) ?_
  refine lv_iand hx hb dX12_lays_21 ?_
  refine k_iast C hP hD hS 1 rfl (k_in (by decide)) dX12_lays_22 (fun H locs hP hD hS => ?_)
  have hP : va_P G.1 vwCl [(h0, .inr (12, ofL 88 (updV Fh0 18 (.int 13)))), (atp, .inl (G.2.1, 700, .inl (upd (upd f0 12 ((n0 >>> (24 &&& 31)) &&& 255)) 13 ((n0 >>> (16 &&& 31)) &&& 255))))] H := hP
  have hD : va_D A [(h0, .inr (12, ofL 88 (updV Fh0 18 (.int 13)))), (atp, .inl (G.2.1, 700, .inl (upd (upd f0 12 ((n0 >>> (24 &&& 31)) &&& 255)) 13 ((n0 >>> (16 &&& 31)) &&& 255))))] := hD
  refine lv_aload_n hx hb dX12_lays_23 rfl (lv_at hl 1 rfl) ?_
  refine lv_dup hx hb dX12_lays_24 rfl ?_
  refine k_get (v := .int 13) fl_X12_180 C hP 0 rfl rfl dX12_lays_25 ?_
  refine lv_iconst (v := 1) hx hb dX12_lays_28 (by decide) ?_
  refine lv_iadd hx hb dX12_lays_29 ?_
  refine k_eqi (y := 14) (by decide) ?_
  refine k_put fl_X12_180 ft_X12_18 C hP hD hS 0 rfl rfl rfl dX12_lays_30 (fun H locs hP hD hS => ?_)
  have hP : va_P G.1 vwCl [(h0, .inr (12, ofL 88 (updV (updV Fh0 18 (.int 13)) 18 (.int 14)))), (atp, .inl (G.2.1, 700, .inl (upd (upd f0 12 ((n0 >>> (24 &&& 31)) &&& 255)) 13 ((n0 >>> (16 &&& 31)) &&& 255))))] H := hP
  have hD : va_D A [(h0, .inr (12, ofL 88 (updV (updV Fh0 18 (.int 13)) 18 (.int 14)))), (atp, .inl (G.2.1, 700, .inl (upd (upd f0 12 ((n0 >>> (24 &&& 31)) &&& 255)) 13 ((n0 >>> (16 &&& 31)) &&& 255))))] := hD
  refine lv_iinc (v := 8) (lv' := [(2, .int 8), (0, .ref h0), (1, .int n0)]) hx hb dX12_lays_33 hl (k := 0) rfl (by decide) (by decide) rfl (fun ls hl => ?_)
  refine lv_goto (tgt := 3) hx hb dX12_lays_36 (by decide) ?_
  refine lv_iload_n hx hb dX12_lays_3 rfl (lv_at hl 0 rfl) ?_
  refine lv_if_lt (x := 8) (tgt := 39) hx hb dX12_lays_4 (by decide) (fun c_3 => ?_) (fun c_3 => ?_)
  · exact absurd c_3 (by decide)
  refine lv_aload_n hx hb dX12_lays_7 rfl (lv_at hl 1 rfl) ?_
  refine k_get (v := .ref atp) fl_X12_53 C hP 0 rfl e_h0_17 dX12_lays_8 ?_
  refine lv_aload_n hx hb dX12_lays_11 rfl (lv_at hl 1 rfl) ?_
  refine k_get (v := .int 14) fl_X12_180 C hP 0 rfl rfl dX12_lays_12 ?_
  refine lv_iload_n hx hb dX12_lays_15 rfl (lv_at hl 2 rfl) ?_
  refine lv_iload_n hx hb dX12_lays_16 rfl (lv_at hl 0 rfl) ?_
  refine lv_ishr hx hb dX12_lays_17 ?_
  refine lv_sipush (v := 255) hx hb dX12_lays_18 (by decide) ?_
  refine lv_iand hx hb dX12_lays_21 ?_
  refine k_iast C hP hD hS 1 rfl (k_in (by decide)) dX12_lays_22 (fun H locs hP hD hS => ?_)
  have hP : va_P G.1 vwCl [(h0, .inr (12, ofL 88 (updV (updV Fh0 18 (.int 13)) 18 (.int 14)))), (atp, .inl (G.2.1, 700, .inl (upd (upd (upd f0 12 ((n0 >>> (24 &&& 31)) &&& 255)) 13 ((n0 >>> (16 &&& 31)) &&& 255)) 14 ((n0 >>> (8 &&& 31)) &&& 255))))] H := hP
  have hD : va_D A [(h0, .inr (12, ofL 88 (updV (updV Fh0 18 (.int 13)) 18 (.int 14)))), (atp, .inl (G.2.1, 700, .inl (upd (upd (upd f0 12 ((n0 >>> (24 &&& 31)) &&& 255)) 13 ((n0 >>> (16 &&& 31)) &&& 255)) 14 ((n0 >>> (8 &&& 31)) &&& 255))))] := hD
  refine lv_aload_n hx hb dX12_lays_23 rfl (lv_at hl 1 rfl) ?_
  refine lv_dup hx hb dX12_lays_24 rfl ?_
  refine k_get (v := .int 14) fl_X12_180 C hP 0 rfl rfl dX12_lays_25 ?_
  refine lv_iconst (v := 1) hx hb dX12_lays_28 (by decide) ?_
  refine lv_iadd hx hb dX12_lays_29 ?_
  refine k_eqi (y := 15) (by decide) ?_
  refine k_put fl_X12_180 ft_X12_18 C hP hD hS 0 rfl rfl rfl dX12_lays_30 (fun H locs hP hD hS => ?_)
  have hP : va_P G.1 vwCl [(h0, .inr (12, ofL 88 (updV (updV (updV Fh0 18 (.int 13)) 18 (.int 14)) 18 (.int 15)))), (atp, .inl (G.2.1, 700, .inl (upd (upd (upd f0 12 ((n0 >>> (24 &&& 31)) &&& 255)) 13 ((n0 >>> (16 &&& 31)) &&& 255)) 14 ((n0 >>> (8 &&& 31)) &&& 255))))] H := hP
  have hD : va_D A [(h0, .inr (12, ofL 88 (updV (updV (updV Fh0 18 (.int 13)) 18 (.int 14)) 18 (.int 15)))), (atp, .inl (G.2.1, 700, .inl (upd (upd (upd f0 12 ((n0 >>> (24 &&& 31)) &&& 255)) 13 ((n0 >>> (16 &&& 31)) &&& 255)) 14 ((n0 >>> (8 &&& 31)) &&& 255))))] := hD
  refine lv_iinc (v := 0) (lv' := [(2, .int 0), (0, .ref h0), (1, .int n0)]) hx hb dX12_lays_33 hl (k := 0) rfl (by decide) (by decide) rfl (fun ls hl => ?_)
  refine lv_goto (tgt := 3) hx hb dX12_lays_36 (by decide) ?_
  refine lv_iload_n hx hb dX12_lays_3 rfl (lv_at hl 0 rfl) ?_
  refine lv_if_lt (x := 0) (tgt := 39) hx hb dX12_lays_4 (by decide) (fun c_4 => ?_) (fun c_4 => ?_)
  · exact absurd c_4 (by decide)
  refine lv_aload_n hx hb dX12_lays_7 rfl (lv_at hl 1 rfl) ?_
  refine k_get (v := .ref atp) fl_X12_53 C hP 0 rfl e_h0_17 dX12_lays_8 ?_
  refine lv_aload_n hx hb dX12_lays_11 rfl (lv_at hl 1 rfl) ?_
  refine k_get (v := .int 15) fl_X12_180 C hP 0 rfl rfl dX12_lays_12 ?_
  refine lv_iload_n hx hb dX12_lays_15 rfl (lv_at hl 2 rfl) ?_
  refine lv_iload_n hx hb dX12_lays_16 rfl (lv_at hl 0 rfl) ?_
  refine lv_ishr hx hb dX12_lays_17 ?_
  refine lv_sipush (v := 255) hx hb dX12_lays_18 (by decide) ?_
  refine lv_iand hx hb dX12_lays_21 ?_
  refine k_iast C hP hD hS 1 rfl (k_in (by decide)) dX12_lays_22 (fun H locs hP hD hS => ?_)
  have hP : va_P G.1 vwCl [(h0, .inr (12, ofL 88 (updV (updV (updV Fh0 18 (.int 13)) 18 (.int 14)) 18 (.int 15)))), (atp, .inl (G.2.1, 700, .inl (upd (upd (upd (upd f0 12 ((n0 >>> (24 &&& 31)) &&& 255)) 13 ((n0 >>> (16 &&& 31)) &&& 255)) 14 ((n0 >>> (8 &&& 31)) &&& 255)) 15 ((n0 >>> (0 &&& 31)) &&& 255))))] H := hP
  have hD : va_D A [(h0, .inr (12, ofL 88 (updV (updV (updV Fh0 18 (.int 13)) 18 (.int 14)) 18 (.int 15)))), (atp, .inl (G.2.1, 700, .inl (upd (upd (upd (upd f0 12 ((n0 >>> (24 &&& 31)) &&& 255)) 13 ((n0 >>> (16 &&& 31)) &&& 255)) 14 ((n0 >>> (8 &&& 31)) &&& 255)) 15 ((n0 >>> (0 &&& 31)) &&& 255))))] := hD
  refine lv_aload_n hx hb dX12_lays_23 rfl (lv_at hl 1 rfl) ?_
  refine lv_dup hx hb dX12_lays_24 rfl ?_
  refine k_get (v := .int 15) fl_X12_180 C hP 0 rfl rfl dX12_lays_25 ?_
  refine lv_iconst (v := 1) hx hb dX12_lays_28 (by decide) ?_
  refine lv_iadd hx hb dX12_lays_29 ?_
  refine k_eqi (y := 16) (by decide) ?_
  refine k_put fl_X12_180 ft_X12_18 C hP hD hS 0 rfl rfl rfl dX12_lays_30 (fun H locs hP hD hS => ?_)
  have hP : va_P G.1 vwCl [(h0, .inr (12, ofL 88 (updV (updV (updV (updV Fh0 18 (.int 13)) 18 (.int 14)) 18 (.int 15)) 18 (.int 16)))), (atp, .inl (G.2.1, 700, .inl (upd (upd (upd (upd f0 12 ((n0 >>> (24 &&& 31)) &&& 255)) 13 ((n0 >>> (16 &&& 31)) &&& 255)) 14 ((n0 >>> (8 &&& 31)) &&& 255)) 15 ((n0 >>> (0 &&& 31)) &&& 255))))] H := hP
  have hD : va_D A [(h0, .inr (12, ofL 88 (updV (updV (updV (updV Fh0 18 (.int 13)) 18 (.int 14)) 18 (.int 15)) 18 (.int 16)))), (atp, .inl (G.2.1, 700, .inl (upd (upd (upd (upd f0 12 ((n0 >>> (24 &&& 31)) &&& 255)) 13 ((n0 >>> (16 &&& 31)) &&& 255)) 14 ((n0 >>> (8 &&& 31)) &&& 255)) 15 ((n0 >>> (0 &&& 31)) &&& 255))))] := hD
  refine lv_iinc (v := -8) (lv' := [(2, .int (-8)), (0, .ref h0), (1, .int n0)]) hx hb dX12_lays_33 hl (k := 0) rfl (by decide) (by decide) rfl (fun ls hl => ?_)
  refine lv_goto (tgt := 3) hx hb dX12_lays_36 (by decide) ?_
  refine lv_iload_n hx hb dX12_lays_3 rfl (lv_at hl 0 rfl) ?_
  refine lv_if_lt (x := -8) (tgt := 39) hx hb dX12_lays_4 (by decide) (fun c_5 => ?_) (fun c_5 => ?_)
  rotate_left
  · exact absurd (by decide) c_5
  exact k_vret C hr hlk hP hD hS () (trivial) [0, 1] rfl rfl (Nat.le_of_ble_eq_true rfl) (Nat.le_of_ble_eq_true rfl) dX12_lays_39
set_option maxHeartbeats 4000000 in
set_option maxRecDepth 100000 in
theorem c_X12_lays_16 (l : Launch) (G : kG) (sz : Nat) (h0 : Nat) (n0 : Int32) (Fh0 : Nat → Value) (atp : Nat) (f0 : Nat → Int32) (e_h0_17 : Fh0 17 = .ref atp) (e_h0_18 : Fh0 18 = .int 16) : kM l yX12_lays cX12_lays 3 none { frames := 6, cells := 0, slots := 0, locals := 110 } G [.ref h0, .int n0] [(h0, .inr (12, ofL 88 Fh0)), (atp, .inl (G.2.1, 700, .inl f0))] sz (kQv G (S := Unit) (fun (_ : Unit) => True) (fun _ => [(h0, .inr (12, ofL 88 (updV (updV (updV (updV Fh0 18 (.int 17)) 18 (.int 18)) 18 (.int 19)) 18 (.int 20)))), (atp, .inl (G.2.1, 700, .inl (upd (upd (upd (upd f0 16 ((n0 >>> (24 &&& 31)) &&& 255)) 17 ((n0 >>> (16 &&& 31)) &&& 255)) 18 ((n0 >>> (8 &&& 31)) &&& 255)) 19 ((n0 >>> (0 &&& 31)) &&& 255))))])) := by
  refine kM.of (by decide) (Nat.le_of_ble_eq_true rfl) ?_
  intro p e s m below meth c A ls H C hr hlk hnm hP hD hS hl
  have C : kC G p s m c cX12_lays 3 RX12 A := C
  have hx := C.1
  have hb := C.2.1
  have hl : lv_has ls 3 [(0, .ref h0), (1, .int n0)] := hl
  refine lv_bipush (v := 24) hx hb dX12_lays_0 (by decide) ?_
  refine lv_istore_n (lv' := [(2, .int 24), (0, .ref h0), (1, .int n0)]) hx hb dX12_lays_2 rfl hl (by decide) rfl (fun ls hl => ?_)
  refine lv_iload_n hx hb dX12_lays_3 rfl (lv_at hl 0 rfl) ?_
  refine lv_if_lt (x := 24) (tgt := 39) hx hb dX12_lays_4 (by decide) (fun c_1 => ?_) (fun c_1 => ?_)
  · exact absurd c_1 (by decide)
  refine lv_aload_n hx hb dX12_lays_7 rfl (lv_at hl 1 rfl) ?_
  refine k_get (v := .ref atp) fl_X12_53 C hP 0 rfl e_h0_17 dX12_lays_8 ?_
  refine lv_aload_n hx hb dX12_lays_11 rfl (lv_at hl 1 rfl) ?_
  refine k_get (v := .int 16) fl_X12_180 C hP 0 rfl e_h0_18 dX12_lays_12 ?_
  refine lv_iload_n hx hb dX12_lays_15 rfl (lv_at hl 2 rfl) ?_
  refine lv_iload_n hx hb dX12_lays_16 rfl (lv_at hl 0 rfl) ?_
  refine lv_ishr hx hb dX12_lays_17 ?_
  refine lv_sipush (v := 255) hx hb dX12_lays_18 (by decide) ?_
  refine lv_iand hx hb dX12_lays_21 ?_
  refine k_iast C hP hD hS 1 rfl (k_in (by decide)) dX12_lays_22 (fun H locs hP hD hS => ?_)
  have hP : va_P G.1 vwCl [(h0, .inr (12, ofL 88 Fh0)), (atp, .inl (G.2.1, 700, .inl (upd f0 16 ((n0 >>> (24 &&& 31)) &&& 255))))] H := hP
  have hD : va_D A [(h0, .inr (12, ofL 88 Fh0)), (atp, .inl (G.2.1, 700, .inl (upd f0 16 ((n0 >>> (24 &&& 31)) &&& 255))))] := hD
  refine lv_aload_n hx hb dX12_lays_23 rfl (lv_at hl 1 rfl) ?_
  refine lv_dup hx hb dX12_lays_24 rfl ?_
  refine k_get (v := .int 16) fl_X12_180 C hP 0 rfl e_h0_18 dX12_lays_25 ?_
  refine lv_iconst (v := 1) hx hb dX12_lays_28 (by decide) ?_
  refine lv_iadd hx hb dX12_lays_29 ?_
  refine k_eqi (y := 17) (by decide) ?_
  refine k_put fl_X12_180 ft_X12_18 C hP hD hS 0 rfl rfl rfl dX12_lays_30 (fun H locs hP hD hS => ?_)
  have hP : va_P G.1 vwCl [(h0, .inr (12, ofL 88 (updV Fh0 18 (.int 17)))), (atp, .inl (G.2.1, 700, .inl (upd f0 16 ((n0 >>> (24 &&& 31)) &&& 255))))] H := hP
  have hD : va_D A [(h0, .inr (12, ofL 88 (updV Fh0 18 (.int 17)))), (atp, .inl (G.2.1, 700, .inl (upd f0 16 ((n0 >>> (24 &&& 31)) &&& 255))))] := hD
  refine lv_iinc (v := 16) (lv' := [(2, .int 16), (0, .ref h0), (1, .int n0)]) hx hb dX12_lays_33 hl (k := 0) rfl (by decide) (by decide) rfl (fun ls hl => ?_)
  refine lv_goto (tgt := 3) hx hb dX12_lays_36 (by decide) ?_
  refine lv_iload_n hx hb dX12_lays_3 rfl (lv_at hl 0 rfl) ?_
  refine lv_if_lt (x := 16) (tgt := 39) hx hb dX12_lays_4 (by decide) (fun c_2 => ?_) (fun c_2 => ?_)
  · exact absurd c_2 (by decide)
  refine lv_aload_n hx hb dX12_lays_7 rfl (lv_at hl 1 rfl) ?_
  refine k_get (v := .ref atp) fl_X12_53 C hP 0 rfl e_h0_17 dX12_lays_8 ?_
  refine lv_aload_n hx hb dX12_lays_11 rfl (lv_at hl 1 rfl) ?_
  refine k_get (v := .int 17) fl_X12_180 C hP 0 rfl rfl dX12_lays_12 ?_
  refine lv_iload_n hx hb dX12_lays_15 rfl (lv_at hl 2 rfl) ?_
  refine lv_iload_n hx hb dX12_lays_16 rfl (lv_at hl 0 rfl) ?_
  refine lv_ishr hx hb dX12_lays_17 ?_
  refine lv_sipush (v := 255) hx hb dX12_lays_18 (by decide) ?_
  refine lv_iand hx hb dX12_lays_21 ?_
  refine k_iast C hP hD hS 1 rfl (k_in (by decide)) dX12_lays_22 (fun H locs hP hD hS => ?_)
  have hP : va_P G.1 vwCl [(h0, .inr (12, ofL 88 (updV Fh0 18 (.int 17)))), (atp, .inl (G.2.1, 700, .inl (upd (upd f0 16 ((n0 >>> (24 &&& 31)) &&& 255)) 17 ((n0 >>> (16 &&& 31)) &&& 255))))] H := hP
  have hD : va_D A [(h0, .inr (12, ofL 88 (updV Fh0 18 (.int 17)))), (atp, .inl (G.2.1, 700, .inl (upd (upd f0 16 ((n0 >>> (24 &&& 31)) &&& 255)) 17 ((n0 >>> (16 &&& 31)) &&& 255))))] := hD
  refine lv_aload_n hx hb dX12_lays_23 rfl (lv_at hl 1 rfl) ?_
  refine lv_dup hx hb dX12_lays_24 rfl ?_
  refine k_get (v := .int 17) fl_X12_180 C hP 0 rfl rfl dX12_lays_25 ?_
  refine lv_iconst (v := 1) hx hb dX12_lays_28 (by decide) ?_
  refine lv_iadd hx hb dX12_lays_29 ?_
  refine k_eqi (y := 18) (by decide) ?_
  refine k_put fl_X12_180 ft_X12_18 C hP hD hS 0 rfl rfl rfl dX12_lays_30 (fun H locs hP hD hS => ?_)
  have hP : va_P G.1 vwCl [(h0, .inr (12, ofL 88 (updV (updV Fh0 18 (.int 17)) 18 (.int 18)))), (atp, .inl (G.2.1, 700, .inl (upd (upd f0 16 ((n0 >>> (24 &&& 31)) &&& 255)) 17 ((n0 >>> (16 &&& 31)) &&& 255))))] H := hP
  have hD : va_D A [(h0, .inr (12, ofL 88 (updV (updV Fh0 18 (.int 17)) 18 (.int 18)))), (atp, .inl (G.2.1, 700, .inl (upd (upd f0 16 ((n0 >>> (24 &&& 31)) &&& 255)) 17 ((n0 >>> (16 &&& 31)) &&& 255))))] := hD
  refine lv_iinc (v := 8) (lv' := [(2, .int 8), (0, .ref h0), (1, .int n0)]) hx hb dX12_lays_33 hl (k := 0) rfl (by decide) (by decide) rfl (fun ls hl => ?_)
  refine lv_goto (tgt := 3) hx hb dX12_lays_36 (by decide) ?_
  refine lv_iload_n hx hb dX12_lays_3 rfl (lv_at hl 0 rfl) ?_
  refine lv_if_lt (x := 8) (tgt := 39) hx hb dX12_lays_4 (by decide) (fun c_3 => ?_) (fun c_3 => ?_)
  · exact absurd c_3 (by decide)
  refine lv_aload_n hx hb dX12_lays_7 rfl (lv_at hl 1 rfl) ?_
  refine k_get (v := .ref atp) fl_X12_53 C hP 0 rfl e_h0_17 dX12_lays_8 ?_
  refine lv_aload_n hx hb dX12_lays_11 rfl (lv_at hl 1 rfl) ?_
  refine k_get (v := .int 18) fl_X12_180 C hP 0 rfl rfl dX12_lays_12 ?_
  refine lv_iload_n hx hb dX12_lays_15 rfl (lv_at hl 2 rfl) ?_
  refine lv_iload_n hx hb dX12_lays_16 rfl (lv_at hl 0 rfl) ?_
  refine lv_ishr hx hb dX12_lays_17 ?_
  refine lv_sipush (v := 255) hx hb dX12_lays_18 (by decide) ?_
  refine lv_iand hx hb dX12_lays_21 ?_
  refine k_iast C hP hD hS 1 rfl (k_in (by decide)) dX12_lays_22 (fun H locs hP hD hS => ?_)
  have hP : va_P G.1 vwCl [(h0, .inr (12, ofL 88 (updV (updV Fh0 18 (.int 17)) 18 (.int 18)))), (atp, .inl (G.2.1, 700, .inl (upd (upd (upd f0 16 ((n0 >>> (24 &&& 31)) &&& 255)) 17 ((n0 >>> (16 &&& 31)) &&& 255)) 18 ((n0 >>> (8 &&& 31)) &&& 255))))] H := hP
  have hD : va_D A [(h0, .inr (12, ofL 88 (updV (updV Fh0 18 (.int 17)) 18 (.int 18)))), (atp, .inl (G.2.1, 700, .inl (upd (upd (upd f0 16 ((n0 >>> (24 &&& 31)) &&& 255)) 17 ((n0 >>> (16 &&& 31)) &&& 255)) 18 ((n0 >>> (8 &&& 31)) &&& 255))))] := hD
  refine lv_aload_n hx hb dX12_lays_23 rfl (lv_at hl 1 rfl) ?_
  refine lv_dup hx hb dX12_lays_24 rfl ?_
  refine k_get (v := .int 18) fl_X12_180 C hP 0 rfl rfl dX12_lays_25 ?_
  refine lv_iconst (v := 1) hx hb dX12_lays_28 (by decide) ?_
  refine lv_iadd hx hb dX12_lays_29 ?_
  refine k_eqi (y := 19) (by decide) ?_
  refine k_put fl_X12_180 ft_X12_18 C hP hD hS 0 rfl rfl rfl dX12_lays_30 (fun H locs hP hD hS => ?_)
  have hP : va_P G.1 vwCl [(h0, .inr (12, ofL 88 (updV (updV (updV Fh0 18 (.int 17)) 18 (.int 18)) 18 (.int 19)))), (atp, .inl (G.2.1, 700, .inl (upd (upd (upd f0 16 ((n0 >>> (24 &&& 31)) &&& 255)) 17 ((n0 >>> (16 &&& 31)) &&& 255)) 18 ((n0 >>> (8 &&& 31)) &&& 255))))] H := hP
  have hD : va_D A [(h0, .inr (12, ofL 88 (updV (updV (updV Fh0 18 (.int 17)) 18 (.int 18)) 18 (.int 19)))), (atp, .inl (G.2.1, 700, .inl (upd (upd (upd f0 16 ((n0 >>> (24 &&& 31)) &&& 255)) 17 ((n0 >>> (16 &&& 31)) &&& 255)) 18 ((n0 >>> (8 &&& 31)) &&& 255))))] := hD
  refine lv_iinc (v := 0) (lv' := [(2, .int 0), (0, .ref h0), (1, .int n0)]) hx hb dX12_lays_33 hl (k := 0) rfl (by decide) (by decide) rfl (fun ls hl => ?_)
  refine lv_goto (tgt := 3) hx hb dX12_lays_36 (by decide) ?_
  refine lv_iload_n hx hb dX12_lays_3 rfl (lv_at hl 0 rfl) ?_
  refine lv_if_lt (x := 0) (tgt := 39) hx hb dX12_lays_4 (by decide) (fun c_4 => ?_) (fun c_4 => ?_)
  · exact absurd c_4 (by decide)
  refine lv_aload_n hx hb dX12_lays_7 rfl (lv_at hl 1 rfl) ?_
  refine k_get (v := .ref atp) fl_X12_53 C hP 0 rfl e_h0_17 dX12_lays_8 ?_
  refine lv_aload_n hx hb dX12_lays_11 rfl (lv_at hl 1 rfl) ?_
  refine k_get (v := .int 19) fl_X12_180 C hP 0 rfl rfl dX12_lays_12 ?_
  refine lv_iload_n hx hb dX12_lays_15 rfl (lv_at hl 2 rfl) ?_
  refine lv_iload_n hx hb dX12_lays_16 rfl (lv_at hl 0 rfl) ?_
  refine lv_ishr hx hb dX12_lays_17 ?_
  refine lv_sipush (v := 255) hx hb dX12_lays_18 (by decide) ?_
  refine lv_iand hx hb dX12_lays_21 ?_
  refine k_iast C hP hD hS 1 rfl (k_in (by decide)) dX12_lays_22 (fun H locs hP hD hS => ?_)
  have hP : va_P G.1 vwCl [(h0, .inr (12, ofL 88 (updV (updV (updV Fh0 18 (.int 17)) 18 (.int 18)) 18 (.int 19)))), (atp, .inl (G.2.1, 700, .inl (upd (upd (upd (upd f0 16 ((n0 >>> (24 &&& 31)) &&& 255)) 17 ((n0 >>> (16 &&& 31)) &&& 255)) 18 ((n0 >>> (8 &&& 31)) &&& 255)) 19 ((n0 >>> (0 &&& 31)) &&& 255))))] H := hP
  have hD : va_D A [(h0, .inr (12, ofL 88 (updV (updV (updV Fh0 18 (.int 17)) 18 (.int 18)) 18 (.int 19)))), (atp, .inl (G.2.1, 700, .inl (upd (upd (upd (upd f0 16 ((n0 >>> (24 &&& 31)) &&& 255)) 17 ((n0 >>> (16 &&& 31)) &&& 255)) 18 ((n0 >>> (8 &&& 31)) &&& 255)) 19 ((n0 >>> (0 &&& 31)) &&& 255))))] := hD
  refine lv_aload_n hx hb dX12_lays_23 rfl (lv_at hl 1 rfl) ?_
  refine lv_dup hx hb dX12_lays_24 rfl ?_
  refine k_get (v := .int 19) fl_X12_180 C hP 0 rfl rfl dX12_lays_25 ?_
  refine lv_iconst (v := 1) hx hb dX12_lays_28 (by decide) ?_
  refine lv_iadd hx hb dX12_lays_29 ?_
  refine k_eqi (y := 20) (by decide) ?_
  refine k_put fl_X12_180 ft_X12_18 C hP hD hS 0 rfl rfl rfl dX12_lays_30 (fun H locs hP hD hS => ?_)
  have hP : va_P G.1 vwCl [(h0, .inr (12, ofL 88 (updV (updV (updV (updV Fh0 18 (.int 17)) 18 (.int 18)) 18 (.int 19)) 18 (.int 20)))), (atp, .inl (G.2.1, 700, .inl (upd (upd (upd (upd f0 16 ((n0 >>> (24 &&& 31)) &&& 255)) 17 ((n0 >>> (16 &&& 31)) &&& 255)) 18 ((n0 >>> (8 &&& 31)) &&& 255)) 19 ((n0 >>> (0 &&& 31)) &&& 255))))] H := hP
  have hD : va_D A [(h0, .inr (12, ofL 88 (updV (updV (updV (updV Fh0 18 (.int 17)) 18 (.int 18)) 18 (.int 19)) 18 (.int 20)))), (atp, .inl (G.2.1, 700, .inl (upd (upd (upd (upd f0 16 ((n0 >>> (24 &&& 31)) &&& 255)) 17 ((n0 >>> (16 &&& 31)) &&& 255)) 18 ((n0 >>> (8 &&& 31)) &&& 255)) 19 ((n0 >>> (0 &&& 31)) &&& 255))))] := hD
  refine lv_iinc (v := -8) (lv' := [(2, .int (-8)), (0, .ref h0), (1, .int n0)]) hx hb dX12_lays_33 hl (k := 0) rfl (by decide) (by decide) rfl (fun ls hl => ?_)
  refine lv_goto (tgt := 3) hx hb dX12_lays_36 (by decide) ?_
  refine lv_iload_n hx hb dX12_lays_3 rfl (lv_at hl 0 rfl) ?_
  refine lv_if_lt (x := -8) (tgt := 39) hx hb dX12_lays_4 (by decide) (fun c_5 => ?_) (fun c_5 => ?_)
  rotate_left
  · exact absurd (by decide) c_5
  exact k_vret C hr hlk hP hD hS () (trivial) [0, 1] rfl rfl (Nat.le_of_ble_eq_true rfl) (Nat.le_of_ble_eq_true rfl) dX12_lays_39
set_option maxHeartbeats 4000000 in
set_option maxRecDepth 100000 in
theorem c_X12_byteAt (l : Launch) (G : kG) (sz : Nat) (h0 : Nat) (Fh0 : Nat → Value) (e_h0_22 : Fh0 22 = .int 0) : kM l yX12_byteAt cX12_byteAt 2 (some .int) { frames := 6, cells := 0, slots := 0, locals := 110 } G [.ref h0, .int 0] [(h0, .inr (12, ofL 88 Fh0))] sz (kQi G (S := Unit) (fun r (_ : Unit) => r = 0) (fun _ => [(h0, .inr (12, ofL 88 Fh0))])) := by
  refine kM.of (by decide) (Nat.le_of_ble_eq_true rfl) ?_
  intro p e s m below meth c A ls H C hr hlk hnm hP hD hS hl
  have C : kC G p s m c cX12_byteAt 2 RX12 A := C
  have hx := C.1
  have hb := C.2.1
  have hl : lv_has ls 2 [(0, .ref h0), (1, .int 0)] := hl
  refine lv_iload_n hx hb dX12_byteAt_0 rfl (lv_at hl 1 rfl) ?_
  refine lv_aload_n hx hb dX12_byteAt_1 rfl (lv_at hl 0 rfl) ?_
  refine k_get (v := .int 0) fl_X12_187 C hP 0 rfl e_h0_22 dX12_byteAt_2 ?_
  refine lv_icmp_ge (x := 0) (y := 0) (tgt := 17) hx hb dX12_byteAt_5 (by decide) (fun c_1 => ?_) (fun c_1 => ?_)
  rotate_left
  · exact absurd (by decide) c_1
  refine lv_iconst (v := 0) hx hb dX12_byteAt_17 (by decide) ?_
  exact k_iret C hr hlk hP hD hS () (rfl) [0] rfl rfl (Nat.le_of_ble_eq_true rfl) (Nat.le_of_ble_eq_true rfl) dX12_byteAt_18
set_option maxHeartbeats 4000000 in
set_option maxRecDepth 100000 in
theorem c_X12_isGood (l : Launch) (G : kG) (sz : Nat) (h0 : Nat) (Fh0 : Nat → Value) (e_h0_19 : Fh0 19 = .int 0) : kM l yX12_isGood cX12_isGood 1 (some .boolean) { frames := 6, cells := 0, slots := 0, locals := 110 } G [.ref h0] [(h0, .inr (12, ofL 88 Fh0))] sz (kQi G (S := Unit) (fun r (_ : Unit) => r = 1) (fun _ => [(h0, .inr (12, ofL 88 Fh0))])) := by
  refine kM.of (by decide) (Nat.le_of_ble_eq_true rfl) ?_
  intro p e s m below meth c A ls H C hr hlk hnm hP hD hS hl
  have C : kC G p s m c cX12_isGood 1 RX12 A := C
  have hx := C.1
  have hb := C.2.1
  have hl : lv_has ls 1 [(0, .ref h0)] := hl
  refine lv_aload_n hx hb dX12_isGood_0 rfl (lv_at hl 0 rfl) ?_
  refine k_get (v := .int 0) fl_X12_233 C hP 0 rfl e_h0_19 dX12_isGood_1 ?_
  refine lv_if_ne (x := 0) (tgt := 11) hx hb dX12_isGood_4 (by decide) (fun c_1 => ?_) (fun c_1 => ?_)
  · exact absurd (by decide) c_1
  refine lv_iconst (v := 1) hx hb dX12_isGood_7 (by decide) ?_
  refine lv_goto (tgt := 12) hx hb dX12_isGood_8 (by decide) ?_
  exact k_zret C hr hlk rfl hP hD hS () (rfl) [0] rfl rfl (Nat.le_of_ble_eq_true rfl) (Nat.le_of_ble_eq_true rfl) dX12_isGood_12
set_option maxHeartbeats 4000000 in
set_option maxRecDepth 100000 in
theorem c_X12_goes (l : Launch) (G : kG) (sz : Nat) (h0 : Nat) (Fh0 : Nat → Value) (e_h0_22 : Fh0 22 = .int 0) (e_h0_23 : Fh0 23 = .int 0) : kM l yX12_goes cX12_goes 2 none { frames := 7, cells := 0, slots := 0, locals := 131 } G [.ref h0] [(h0, .inr (12, ofL 88 Fh0))] sz (kQv G (S := Unit) (fun (_ : Unit) => True) (fun _ => [(h0, .inr (12, ofL 88 (updV (updV (updV (updV (updV (updV Fh0 25 (.int 0)) 29 (.long 0)) 27 (.int 0)) 28 (.int 0)) 24 (.int 0)) 26 (.int 0))))])) := by
  refine kM.of (by decide) (Nat.le_of_ble_eq_true rfl) ?_
  intro p e s m below meth c A ls H C hr hlk hnm hP hD hS hl
  have C : kC G p s m c cX12_goes 2 RX12 A := C
  have hx := C.1
  have hb := C.2.1
  have hl : lv_has ls 2 [(0, .ref h0)] := hl
  refine lv_aload_n hx hb dX12_goes_0 rfl (lv_at hl 0 rfl) ?_
  refine k_get (v := .int 0) fl_X12_190 C hP 0 rfl e_h0_23 dX12_goes_1 ?_
  refine lv_aload_n hx hb dX12_goes_4 rfl (lv_at hl 0 rfl) ?_
  refine k_get (v := .int 0) fl_X12_187 C hP 0 rfl e_h0_22 dX12_goes_5 ?_
  refine lv_icmp_ge (x := 0) (y := 0) (tgt := 50) hx hb dX12_goes_8 (by decide) (fun c_1 => ?_) (fun c_1 => ?_)
  rotate_left
  · exact absurd (by decide) c_1
  refine lv_aload_n hx hb dX12_goes_50 rfl (lv_at hl 0 rfl) ?_
  refine lv_aload_n hx hb dX12_goes_51 rfl (lv_at hl 0 rfl) ?_
  refine k_get (v := .int 0) fl_X12_190 C hP 0 rfl e_h0_23 dX12_goes_52 ?_
  refine k_put fl_X12_197 ft_X12_25 C hP hD hS 0 rfl rfl rfl dX12_goes_55 (fun H locs hP hD hS => ?_)
  have hP : va_P G.1 vwCl [(h0, .inr (12, ofL 88 (updV Fh0 25 (.int 0))))] H := hP
  have hD : va_D A [(h0, .inr (12, ofL 88 (updV Fh0 25 (.int 0))))] := hD
  refine lv_aload_n hx hb dX12_goes_58 rfl (lv_at hl 0 rfl) ?_
  refine lv_lconst (v := 0) hx hb dX12_goes_59 (by decide) ?_
  refine k_put fl_X12_200 ft_X12_29 C hP hD hS 0 rfl rfl rfl dX12_goes_60 (fun H locs hP hD hS => ?_)
  have hP : va_P G.1 vwCl [(h0, .inr (12, ofL 88 (updV (updV Fh0 25 (.int 0)) 29 (.long 0))))] H := hP
  have hD : va_D A [(h0, .inr (12, ofL 88 (updV (updV Fh0 25 (.int 0)) 29 (.long 0))))] := hD
  refine lv_aload_n hx hb dX12_goes_63 rfl (lv_at hl 0 rfl) ?_
  refine lv_iconst (v := 0) hx hb dX12_goes_64 (by decide) ?_
  refine k_put fl_X12_204 ft_X12_27 C hP hD hS 0 rfl rfl rfl dX12_goes_65 (fun H locs hP hD hS => ?_)
  have hP : va_P G.1 vwCl [(h0, .inr (12, ofL 88 (updV (updV (updV Fh0 25 (.int 0)) 29 (.long 0)) 27 (.int 0))))] H := hP
  have hD : va_D A [(h0, .inr (12, ofL 88 (updV (updV (updV Fh0 25 (.int 0)) 29 (.long 0)) 27 (.int 0))))] := hD
  refine lv_aload_n hx hb dX12_goes_68 rfl (lv_at hl 0 rfl) ?_
  refine lv_aload_n hx hb dX12_goes_69 rfl (lv_at hl 0 rfl) ?_
  refine k_get (v := .int 0) fl_X12_190 C hP 0 rfl e_h0_23 dX12_goes_70 ?_
  refine k_callVi (wr := []) (rest := []) li_X12_193 C (c_X12_byteAt l G H.size h0 (updV (updV (updV Fh0 25 (.int 0)) 29 (.long 0)) 27 (.int 0)) e_h0_22) (kR rfl) hP hD hS [0] [] rfl rfl rfl rfl (by decide) 0 12 rfl rfl rfl hl.1 rfl (Nat.le_of_ble_eq_true rfl) dX12_goes_73 (fun rr3 uu4 H locs hw2 hP hD hS => ?_)
  obtain rfl : rr3 = 0 := hw2
  have hP : va_P G.1 vwCl [(h0, .inr (12, ofL 88 (updV (updV (updV Fh0 25 (.int 0)) 29 (.long 0)) 27 (.int 0))))] H := hP
  have hD : va_D A [(h0, .inr (12, ofL 88 (updV (updV (updV Fh0 25 (.int 0)) 29 (.long 0)) 27 (.int 0))))] := hD
  refine lv_istore_n (lv' := [(1, .int 0), (0, .ref h0)]) hx hb dX12_goes_76 rfl hl (by decide) rfl (fun ls hl => ?_)
  refine lv_aload_n hx hb dX12_goes_77 rfl (lv_at hl 1 rfl) ?_
  refine lv_iload_n hx hb dX12_goes_78 rfl (lv_at hl 0 rfl) ?_
  refine k_put fl_X12_207 ft_X12_28 C hP hD hS 0 rfl rfl rfl dX12_goes_79 (fun H locs hP hD hS => ?_)
  have hP : va_P G.1 vwCl [(h0, .inr (12, ofL 88 (updV (updV (updV (updV Fh0 25 (.int 0)) 29 (.long 0)) 27 (.int 0)) 28 (.int 0))))] H := hP
  have hD : va_D A [(h0, .inr (12, ofL 88 (updV (updV (updV (updV Fh0 25 (.int 0)) 29 (.long 0)) 27 (.int 0)) 28 (.int 0))))] := hD
  refine lv_aload_n hx hb dX12_goes_82 rfl (lv_at hl 1 rfl) ?_
  refine k_get (v := .int 0) fl_X12_190 C hP 0 rfl e_h0_23 dX12_goes_83 ?_
  refine lv_aload_n hx hb dX12_goes_86 rfl (lv_at hl 1 rfl) ?_
  refine k_get (v := .int 0) fl_X12_187 C hP 0 rfl e_h0_22 dX12_goes_87 ?_
  refine lv_icmp_lt (x := 0) (y := 0) (tgt := 101) hx hb dX12_goes_90 (by decide) (fun c_5 => ?_) (fun c_5 => ?_)
  · exact absurd c_5 (by decide)
  refine lv_aload_n hx hb dX12_goes_93 rfl (lv_at hl 1 rfl) ?_
  refine lv_iconst (v := 0) hx hb dX12_goes_94 (by decide) ?_
  refine k_put fl_X12_210 ft_X12_24 C hP hD hS 0 rfl rfl rfl dX12_goes_95 (fun H locs hP hD hS => ?_)
  have hP : va_P G.1 vwCl [(h0, .inr (12, ofL 88 (updV (updV (updV (updV (updV Fh0 25 (.int 0)) 29 (.long 0)) 27 (.int 0)) 28 (.int 0)) 24 (.int 0))))] H := hP
  have hD : va_D A [(h0, .inr (12, ofL 88 (updV (updV (updV (updV (updV Fh0 25 (.int 0)) 29 (.long 0)) 27 (.int 0)) 28 (.int 0)) 24 (.int 0))))] := hD
  refine lv_goto (tgt := 331) hx hb dX12_goes_98 (by decide) ?_
  refine lv_aload_n hx hb dX12_goes_331 rfl (lv_at hl 1 rfl) ?_
  refine lv_aload_n hx hb dX12_goes_332 rfl (lv_at hl 1 rfl) ?_
  refine k_get (v := .int 0) fl_X12_190 C hP 0 rfl e_h0_23 dX12_goes_333 ?_
  refine lv_aload_n hx hb dX12_goes_336 rfl (lv_at hl 1 rfl) ?_
  refine k_get (v := .int 0) fl_X12_197 C hP 0 rfl rfl dX12_goes_337 ?_
  refine lv_isub hx hb dX12_goes_340 ?_
  refine k_eqi (y := 0) (by decide) ?_
  refine k_put fl_X12_220 ft_X12_26 C hP hD hS 0 rfl rfl rfl dX12_goes_341 (fun H locs hP hD hS => ?_)
  have hP : va_P G.1 vwCl [(h0, .inr (12, ofL 88 (updV (updV (updV (updV (updV (updV Fh0 25 (.int 0)) 29 (.long 0)) 27 (.int 0)) 28 (.int 0)) 24 (.int 0)) 26 (.int 0))))] H := hP
  have hD : va_D A [(h0, .inr (12, ofL 88 (updV (updV (updV (updV (updV (updV Fh0 25 (.int 0)) 29 (.long 0)) 27 (.int 0)) 28 (.int 0)) 24 (.int 0)) 26 (.int 0))))] := hD
  exact k_vret C hr hlk hP hD hS () (trivial) [0] rfl rfl (Nat.le_of_ble_eq_true rfl) (Nat.le_of_ble_eq_true rfl) dX12_goes_344
