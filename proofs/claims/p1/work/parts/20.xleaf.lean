theorem dX11_needWhat_0 : decode cX11_needWhat 0 = .ok (.iload_n 0, 1) := by decide +kernel
theorem dX11_needWhat_1 : decode cX11_needWhat 1 = .ok (.ifCond .lt 8, 3) := by decide +kernel
theorem th_X11_219_221 : ∀ w ∈ Cond.classLink RX11 219 "java/util/NoSuchElementException" :: Cond.initialized "java/util/NoSuchElementException" :: vx_at0 RX11 221 "java/util/NoSuchElementException" ["java/lang/RuntimeException", "java/lang/Exception"], w ∈ lw_tbl ∧ kOk w = true ∧ vx_ot w = true := by decide +kernel
theorem dX11_needWhat_9 : decode cX11_needWhat 9 = .ok (.new 219, 3) := by decide +kernel
theorem dX11_needWhat_12 : decode cX11_needWhat 12 = .ok (.dup, 1) := by decide +kernel
theorem dX11_needWhat_13 : decode cX11_needWhat 13 = .ok (.invokespecial 221, 3) := by decide +kernel
theorem dX11_needWhat_16 : decode cX11_needWhat 16 = .ok (.athrow, 1) := by decide +kernel
theorem dX11_needWhat_4 : decode cX11_needWhat 4 = .ok (.iload_n 0, 1) := by decide +kernel
theorem dX11_needWhat_5 : decode cX11_needWhat 5 = .ok (.iload_n 1, 1) := by decide +kernel
theorem dX11_needWhat_6 : decode cX11_needWhat 6 = .ok (.if_icmp .lt 11, 3) := by decide +kernel
theorem dX11_needWhat_17 : decode cX11_needWhat 17 = .ok (.return_, 1) := by decide +kernel
theorem dX11_needWithin_0 : decode cX11_needWithin 0 = .ok (.iload_n 0, 1) := by decide +kernel
theorem dX11_needWithin_1 : decode cX11_needWithin 1 = .ok (.iload_n 1, 1) := by decide +kernel
theorem dX11_needWithin_2 : decode cX11_needWithin 2 = .ok (.if_icmp .lt 8, 3) := by decide +kernel
theorem th_X11_105_107 : ∀ w ∈ Cond.classLink RX11 105 "java/lang/IllegalArgumentException" :: Cond.initialized "java/lang/IllegalArgumentException" :: vx_at0 RX11 107 "java/lang/IllegalArgumentException" ["java/lang/RuntimeException", "java/lang/Exception"], w ∈ lw_tbl ∧ kOk w = true ∧ vx_ot w = true := by decide +kernel
theorem dX11_needWithin_10 : decode cX11_needWithin 10 = .ok (.new 105, 3) := by decide +kernel
theorem dX11_needWithin_13 : decode cX11_needWithin 13 = .ok (.dup, 1) := by decide +kernel
theorem dX11_needWithin_14 : decode cX11_needWithin 14 = .ok (.invokespecial 107, 3) := by decide +kernel
theorem dX11_needWithin_17 : decode cX11_needWithin 17 = .ok (.athrow, 1) := by decide +kernel
theorem dX11_needWithin_5 : decode cX11_needWithin 5 = .ok (.iload_n 0, 1) := by decide +kernel
theorem dX11_needWithin_6 : decode cX11_needWithin 6 = .ok (.iload_n 2, 1) := by decide +kernel
theorem dX11_needWithin_7 : decode cX11_needWithin 7 = .ok (.if_icmp .le 11, 3) := by decide +kernel
theorem dX11_needWithin_18 : decode cX11_needWithin 18 = .ok (.return_, 1) := by decide +kernel
theorem dX11_needLesson_0 : decode cX11_needLesson 0 = .ok (.iload_n 1, 1) := by decide +kernel
theorem dX11_needLesson_1 : decode cX11_needLesson 1 = .ok (.ifCond .lt 14, 3) := by decide +kernel
theorem dX11_needLesson_15 : decode cX11_needLesson 15 = .ok (.new 219, 3) := by decide +kernel
theorem dX11_needLesson_18 : decode cX11_needLesson 18 = .ok (.dup, 1) := by decide +kernel
theorem dX11_needLesson_19 : decode cX11_needLesson 19 = .ok (.invokespecial 221, 3) := by decide +kernel
theorem dX11_needLesson_22 : decode cX11_needLesson 22 = .ok (.athrow, 1) := by decide +kernel
theorem dX11_needLesson_4 : decode cX11_needLesson 4 = .ok (.iload_n 1, 1) := by decide +kernel
theorem dX11_needLesson_5 : decode cX11_needLesson 5 = .ok (.aload_n 0, 1) := by decide +kernel
theorem dX11_needLesson_6 : decode cX11_needLesson 6 = .ok (.getfield 22, 3) := by decide +kernel
theorem tw_166 : (Jvm.Cond.fieldLinkNest "MarshBells" (125 : Nat) "MarshBells$Plan" "lessonCount" "I" "MarshBells") ∈ lw_tbl := tk_1 (List.mem_of_getElem? (i := 166) rfl)
theorem fl_X11_125 : kFN RX11 125 7 5 2 := ⟨RX7, TX7, rfl, by decide, inWX7, tw_166⟩
theorem dX11_needLesson_9 : decode cX11_needLesson 9 = .ok (.getfield 125, 3) := by decide +kernel
theorem dX11_needLesson_12 : decode cX11_needLesson 12 = .ok (.if_icmp .lt 11, 3) := by decide +kernel
theorem dX11_isRuleOrNone_0 : decode cX11_isRuleOrNone 0 = .ok (.iload_n 1, 1) := by decide +kernel
theorem dX11_isRuleOrNone_1 : decode cX11_isRuleOrNone 1 = .ok (.iconst (-1), 1) := by decide +kernel
theorem dX11_isRuleOrNone_2 : decode cX11_isRuleOrNone 2 = .ok (.if_icmp .lt 21, 3) := by decide +kernel
theorem dX11_isRuleOrNone_23 : decode cX11_isRuleOrNone 23 = .ok (.iconst 0, 1) := by decide +kernel
theorem dX11_isRuleOrNone_24 : decode cX11_isRuleOrNone 24 = .ok (.ireturn, 1) := by decide +kernel
theorem dX11_isRuleOrNone_5 : decode cX11_isRuleOrNone 5 = .ok (.iload_n 1, 1) := by decide +kernel
theorem dX11_isRuleOrNone_6 : decode cX11_isRuleOrNone 6 = .ok (.aload_n 0, 1) := by decide +kernel
theorem dX11_isRuleOrNone_7 : decode cX11_isRuleOrNone 7 = .ok (.getfield 22, 3) := by decide +kernel
theorem tw_157 : (Jvm.Cond.fieldLinkNest "MarshBells" (128 : Nat) "MarshBells$Plan" "rules" "LMarshBells$Rules;" "MarshBells") ∈ lw_tbl := tk_1 (List.mem_of_getElem? (i := 157) rfl)
theorem fl_X11_128 : kFN RX11 128 7 5 1 := ⟨RX7, TX7, rfl, by decide, inWX7, tw_157⟩
theorem dX11_isRuleOrNone_10 : decode cX11_isRuleOrNone 10 = .ok (.getfield 128, 3) := by decide +kernel
theorem tw_52 : (Jvm.Cond.fieldLinkNest "MarshBells" (132 : Nat) "MarshBells$Rules" "size" "I" "MarshBells") ∈ lw_tbl := tk_1 (List.mem_of_getElem? (i := 52) rfl)
theorem fl_X11_132 : kFN RX11 132 8 5 3 := ⟨RX8, TX8, rfl, by decide, inWX8, tw_52⟩
theorem dX11_isRuleOrNone_13 : decode cX11_isRuleOrNone 13 = .ok (.getfield 132, 3) := by decide +kernel
theorem dX11_isRuleOrNone_16 : decode cX11_isRuleOrNone 16 = .ok (.if_icmp .ge 7, 3) := by decide +kernel
theorem dX11_isRuleOrNone_19 : decode cX11_isRuleOrNone 19 = .ok (.iconst 1, 1) := by decide +kernel
theorem dX11_isRuleOrNone_20 : decode cX11_isRuleOrNone 20 = .ok (.goto 4, 3) := by decide +kernel
theorem dX1_runFrom_0 : decode cX1_runFrom 0 = .ok (.iload_n 1, 1) := by decide +kernel
theorem dX1_runFrom_1 : decode cX1_runFrom 1 = .ok (.istore_n 2, 1) := by decide +kernel
theorem dX1_runFrom_2 : decode cX1_runFrom 2 = .ok (.iload_n 2, 1) := by decide +kernel
theorem dX1_runFrom_3 : decode cX1_runFrom 3 = .ok (.aload_n 0, 1) := by decide +kernel
theorem dX1_runFrom_4 : decode cX1_runFrom 4 = .ok (.getfield 37, 3) := by decide +kernel
theorem tw_162 : (Jvm.Cond.fieldLinkNest "MarshBells$Day" (45 : Nat) "MarshBells$Plan" "lessonCount" "I" "MarshBells") ∈ lw_tbl := tk_1 (List.mem_of_getElem? (i := 162) rfl)
theorem fl_X1_45 : kFN RX1 45 7 5 2 := ⟨RX7, TX7, rfl, by decide, inWX7, tw_162⟩
theorem dX1_runFrom_7 : decode cX1_runFrom 7 = .ok (.getfield 45, 3) := by decide +kernel
theorem dX1_runFrom_10 : decode cX1_runFrom 10 = .ok (.if_icmp .ge 14, 3) := by decide +kernel
theorem dX1_runFrom_24 : decode cX1_runFrom 24 = .ok (.return_, 1) := by decide +kernel
theorem dX1_lost_0 : decode cX1_lost 0 = .ok (.iconst 0, 1) := by decide +kernel
theorem dX1_lost_1 : decode cX1_lost 1 = .ok (.istore_n 1, 1) := by decide +kernel
theorem dX1_lost_2 : decode cX1_lost 2 = .ok (.iconst 0, 1) := by decide +kernel
theorem dX1_lost_3 : decode cX1_lost 3 = .ok (.istore_n 2, 1) := by decide +kernel
theorem dX1_lost_4 : decode cX1_lost 4 = .ok (.iload_n 2, 1) := by decide +kernel
theorem dX1_lost_5 : decode cX1_lost 5 = .ok (.aload_n 0, 1) := by decide +kernel
theorem dX1_lost_6 : decode cX1_lost 6 = .ok (.getfield 37, 3) := by decide +kernel
theorem dX1_lost_9 : decode cX1_lost 9 = .ok (.getfield 45, 3) := by decide +kernel
theorem dX1_lost_12 : decode cX1_lost 12 = .ok (.if_icmp .ge 30, 3) := by decide +kernel
theorem dX1_lost_42 : decode cX1_lost 42 = .ok (.iload_n 1, 1) := by decide +kernel
theorem dX1_lost_43 : decode cX1_lost 43 = .ok (.ireturn, 1) := by decide +kernel
theorem dX1_lateOnes_0 : decode cX1_lateOnes 0 = .ok (.iconst 0, 1) := by decide +kernel
theorem dX1_lateOnes_1 : decode cX1_lateOnes 1 = .ok (.istore_n 1, 1) := by decide +kernel
theorem dX1_lateOnes_2 : decode cX1_lateOnes 2 = .ok (.iconst 0, 1) := by decide +kernel
theorem dX1_lateOnes_3 : decode cX1_lateOnes 3 = .ok (.istore_n 2, 1) := by decide +kernel
theorem dX1_lateOnes_4 : decode cX1_lateOnes 4 = .ok (.iload_n 2, 1) := by decide +kernel
theorem dX1_lateOnes_5 : decode cX1_lateOnes 5 = .ok (.aload_n 0, 1) := by decide +kernel
theorem dX1_lateOnes_6 : decode cX1_lateOnes 6 = .ok (.getfield 37, 3) := by decide +kernel
theorem dX1_lateOnes_9 : decode cX1_lateOnes 9 = .ok (.getfield 45, 3) := by decide +kernel
theorem dX1_lateOnes_12 : decode cX1_lateOnes 12 = .ok (.if_icmp .ge 25, 3) := by decide +kernel
theorem dX1_lateOnes_37 : decode cX1_lateOnes 37 = .ok (.iload_n 1, 1) := by decide +kernel
theorem dX1_lateOnes_38 : decode cX1_lateOnes 38 = .ok (.ireturn, 1) := by decide +kernel
theorem dX1_latest_0 : decode cX1_latest 0 = .ok (.iconst 0, 1) := by decide +kernel
theorem dX1_latest_1 : decode cX1_latest 1 = .ok (.istore_n 1, 1) := by decide +kernel
theorem dX1_latest_2 : decode cX1_latest 2 = .ok (.iconst 0, 1) := by decide +kernel
theorem dX1_latest_3 : decode cX1_latest 3 = .ok (.istore_n 2, 1) := by decide +kernel
theorem dX1_latest_4 : decode cX1_latest 4 = .ok (.iload_n 2, 1) := by decide +kernel
theorem dX1_latest_5 : decode cX1_latest 5 = .ok (.aload_n 0, 1) := by decide +kernel
theorem dX1_latest_6 : decode cX1_latest 6 = .ok (.getfield 37, 3) := by decide +kernel
theorem dX1_latest_9 : decode cX1_latest 9 = .ok (.getfield 45, 3) := by decide +kernel
theorem dX1_latest_12 : decode cX1_latest 12 = .ok (.if_icmp .ge 19, 3) := by decide +kernel
theorem dX1_latest_31 : decode cX1_latest 31 = .ok (.iload_n 1, 1) := by decide +kernel
theorem dX1_latest_32 : decode cX1_latest 32 = .ok (.ireturn, 1) := by decide +kernel
theorem dX1_begunLater_0 : decode cX1_begunLater 0 = .ok (.iconst 0, 1) := by decide +kernel
theorem dX1_begunLater_1 : decode cX1_begunLater 1 = .ok (.istore_n 1, 1) := by decide +kernel
theorem dX1_begunLater_2 : decode cX1_begunLater 2 = .ok (.iconst 0, 1) := by decide +kernel
theorem dX1_begunLater_3 : decode cX1_begunLater 3 = .ok (.istore_n 2, 1) := by decide +kernel
theorem dX1_begunLater_4 : decode cX1_begunLater 4 = .ok (.iload_n 2, 1) := by decide +kernel
theorem dX1_begunLater_5 : decode cX1_begunLater 5 = .ok (.aload_n 0, 1) := by decide +kernel
theorem dX1_begunLater_6 : decode cX1_begunLater 6 = .ok (.getfield 37, 3) := by decide +kernel
theorem dX1_begunLater_9 : decode cX1_begunLater 9 = .ok (.getfield 45, 3) := by decide +kernel
theorem dX1_begunLater_12 : decode cX1_begunLater 12 = .ok (.if_icmp .ge 38, 3) := by decide +kernel
theorem dX1_begunLater_50 : decode cX1_begunLater 50 = .ok (.iload_n 1, 1) := by decide +kernel
theorem dX1_begunLater_51 : decode cX1_begunLater 51 = .ok (.ireturn, 1) := by decide +kernel
theorem dX1_clashes_0 : decode cX1_clashes 0 = .ok (.iconst 0, 1) := by decide +kernel
theorem dX1_clashes_1 : decode cX1_clashes 1 = .ok (.istore_n 1, 1) := by decide +kernel
theorem dX1_clashes_2 : decode cX1_clashes 2 = .ok (.iconst 0, 1) := by decide +kernel
theorem dX1_clashes_3 : decode cX1_clashes 3 = .ok (.istore_n 2, 1) := by decide +kernel
theorem dX1_clashes_4 : decode cX1_clashes 4 = .ok (.iload_n 2, 1) := by decide +kernel
theorem dX1_clashes_5 : decode cX1_clashes 5 = .ok (.aload_n 0, 1) := by decide +kernel
theorem dX1_clashes_6 : decode cX1_clashes 6 = .ok (.getfield 37, 3) := by decide +kernel
theorem dX1_clashes_9 : decode cX1_clashes 9 = .ok (.getfield 45, 3) := by decide +kernel
theorem dX1_clashes_12 : decode cX1_clashes 12 = .ok (.if_icmp .ge 48, 3) := by decide +kernel
theorem dX1_clashes_60 : decode cX1_clashes 60 = .ok (.iload_n 1, 1) := by decide +kernel
theorem dX1_clashes_61 : decode cX1_clashes 61 = .ok (.ireturn, 1) := by decide +kernel
theorem dX1_firstClash_0 : decode cX1_firstClash 0 = .ok (.iconst (-1), 1) := by decide +kernel
theorem dX1_firstClash_1 : decode cX1_firstClash 1 = .ok (.istore_n 1, 1) := by decide +kernel
theorem dX1_firstClash_2 : decode cX1_firstClash 2 = .ok (.iconst 0, 1) := by decide +kernel
theorem dX1_firstClash_3 : decode cX1_firstClash 3 = .ok (.istore_n 2, 1) := by decide +kernel
theorem dX1_firstClash_4 : decode cX1_firstClash 4 = .ok (.iload_n 2, 1) := by decide +kernel
theorem dX1_firstClash_5 : decode cX1_firstClash 5 = .ok (.aload_n 0, 1) := by decide +kernel
theorem dX1_firstClash_6 : decode cX1_firstClash 6 = .ok (.getfield 37, 3) := by decide +kernel
theorem dX1_firstClash_9 : decode cX1_firstClash 9 = .ok (.getfield 45, 3) := by decide +kernel
theorem dX1_firstClash_12 : decode cX1_firstClash 12 = .ok (.if_icmp .ge 58, 3) := by decide +kernel
theorem dX1_firstClash_70 : decode cX1_firstClash 70 = .ok (.iload_n 1, 1) := by decide +kernel
theorem dX1_firstClash_71 : decode cX1_firstClash 71 = .ok (.ireturn, 1) := by decide +kernel
theorem dX1_idleMinutes_0 : decode cX1_idleMinutes 0 = .ok (.iconst 0, 1) := by decide +kernel
theorem dX1_idleMinutes_1 : decode cX1_idleMinutes 1 = .ok (.istore_n 1, 1) := by decide +kernel
theorem dX1_idleMinutes_2 : decode cX1_idleMinutes 2 = .ok (.iconst 0, 1) := by decide +kernel
theorem dX1_idleMinutes_3 : decode cX1_idleMinutes 3 = .ok (.istore_n 2, 1) := by decide +kernel
theorem dX1_idleMinutes_4 : decode cX1_idleMinutes 4 = .ok (.iload_n 2, 1) := by decide +kernel
theorem dX1_idleMinutes_5 : decode cX1_idleMinutes 5 = .ok (.aload_n 0, 1) := by decide +kernel
theorem dX1_idleMinutes_6 : decode cX1_idleMinutes 6 = .ok (.getfield 37, 3) := by decide +kernel
theorem dX1_idleMinutes_9 : decode cX1_idleMinutes 9 = .ok (.getfield 45, 3) := by decide +kernel
theorem dX1_idleMinutes_12 : decode cX1_idleMinutes 12 = .ok (.if_icmp .ge 103, 3) := by decide +kernel
theorem dX1_idleMinutes_115 : decode cX1_idleMinutes 115 = .ok (.iload_n 1, 1) := by decide +kernel
theorem dX1_idleMinutes_116 : decode cX1_idleMinutes 116 = .ok (.ireturn, 1) := by decide +kernel
theorem dX1_lostFrom_0 : decode cX1_lostFrom 0 = .ok (.iload_n 1, 1) := by decide +kernel
theorem dX1_lostFrom_1 : decode cX1_lostFrom 1 = .ok (.istore_n 2, 1) := by decide +kernel
theorem dX1_lostFrom_2 : decode cX1_lostFrom 2 = .ok (.iload_n 2, 1) := by decide +kernel
theorem dX1_lostFrom_3 : decode cX1_lostFrom 3 = .ok (.aload_n 0, 1) := by decide +kernel
theorem dX1_lostFrom_4 : decode cX1_lostFrom 4 = .ok (.getfield 37, 3) := by decide +kernel
theorem dX1_lostFrom_7 : decode cX1_lostFrom 7 = .ok (.getfield 45, 3) := by decide +kernel
theorem dX1_lostFrom_10 : decode cX1_lostFrom 10 = .ok (.if_icmp .ge 14, 3) := by decide +kernel
theorem dX1_lostFrom_24 : decode cX1_lostFrom 24 = .ok (.aload_n 0, 1) := by decide +kernel
theorem tw_652 : (Jvm.Cond.methodLink "MarshBells$Day" (54 : Nat) ({ cls := "MarshBells$Day", name := "lost", desc := "()I" } : Jvm.MethodName)) ∈ lw_tbl := tk_3 (List.mem_of_getElem? (i := 172) rfl)
theorem tw_655 : (Jvm.Cond.code ({ cls := "MarshBells$Day", name := "lost", desc := "()I" } : Jvm.MethodName) prog_3_method_12_code (3 : Nat) (Option.some Jvm.ClassFile.FieldType.int)) ∈ lw_tbl := tk_3 (List.mem_of_getElem? (i := 175) rfl)
theorem tw_654 : (Jvm.Cond.instanceMethod ({ cls := "MarshBells$Day", name := "lost", desc := "()I" } : Jvm.MethodName)) ∈ lw_tbl := tk_3 (List.mem_of_getElem? (i := 174) rfl)
theorem se_X1_lost : Cond.selects RX1 yX1_lost yX1_lost ∈ lw_tbl := List.mem_append_left _ (List.mem_of_getElem? (i := 20) rfl)
theorem li_X1_54 : kLV RX1 54 RX1 yX1_lost cX1_lost 3 (some .int) 0 := ⟨tw_652, tw_654, se_X1_lost, tw_655, tw_7, by decide +kernel⟩
theorem dX1_lostFrom_25 : decode cX1_lostFrom 25 = .ok (.invokevirtual 54, 3) := by decide +kernel
theorem dX1_lostFrom_28 : decode cX1_lostFrom 28 = .ok (.ireturn, 1) := by decide +kernel
theorem dX1_onBits_0 : decode cX1_onBits 0 = .ok (.iconst 0, 1) := by decide +kernel
theorem dX1_onBits_1 : decode cX1_onBits 1 = .ok (.istore_n 2, 1) := by decide +kernel
theorem dX1_onBits_2 : decode cX1_onBits 2 = .ok (.iconst 0, 1) := by decide +kernel
theorem dX1_onBits_3 : decode cX1_onBits 3 = .ok (.istore_n 3, 1) := by decide +kernel
theorem dX1_onBits_4 : decode cX1_onBits 4 = .ok (.iload_n 3, 1) := by decide +kernel
theorem dX1_onBits_5 : decode cX1_onBits 5 = .ok (.aload_n 0, 1) := by decide +kernel
theorem dX1_onBits_6 : decode cX1_onBits 6 = .ok (.getfield 37, 3) := by decide +kernel
theorem dX1_onBits_9 : decode cX1_onBits 9 = .ok (.getfield 45, 3) := by decide +kernel
theorem dX1_onBits_12 : decode cX1_onBits 12 = .ok (.if_icmp .ge 35, 3) := by decide +kernel
theorem dX1_onBits_47 : decode cX1_onBits 47 = .ok (.iload_n 2, 1) := by decide +kernel
theorem dX1_onBits_48 : decode cX1_onBits 48 = .ok (.ireturn, 1) := by decide +kernel
theorem dX4_clear_0 : decode cX4_clear 0 = .ok (.aload_n 0, 1) := by decide +kernel
theorem dX4_clear_1 : decode cX4_clear 1 = .ok (.iconst 0, 1) := by decide +kernel
theorem tw_357 : (Jvm.Cond.fieldLink "MarshBells$Least" (9 : Nat) "MarshBells$Least" "any" "Z") ∈ lw_tbl := tk_2 (List.mem_of_getElem? (i := 117) rfl)
theorem fl_X4_9 : kFL RX4 9 4 3 0 := ⟨RX4, TX4, rfl, by decide, inWX4, tw_357⟩
theorem ft_X4_0 : kFT 4 0 .boolean false RX4 := ⟨RX4, TX4, 3, tyX4, rfl, tyX4_ok, nmX4, rfl, by decide +kernel, rfl⟩
theorem dX4_clear_2 : decode cX4_clear 2 = .ok (.putfield 9, 3) := by decide +kernel
theorem dX4_clear_5 : decode cX4_clear 5 = .ok (.return_, 1) := by decide +kernel
theorem dX4_told_0 : decode cX4_told 0 = .ok (.aload_n 0, 1) := by decide +kernel
theorem dX4_told_1 : decode cX4_told 1 = .ok (.getfield 9, 3) := by decide +kernel
theorem dX4_told_4 : decode cX4_told 4 = .ok (.ifCond .ne 5, 3) := by decide +kernel
theorem dX4_told_7 : decode cX4_told 7 = .ok (.iconst (-1), 1) := by decide +kernel
theorem dX4_told_8 : decode cX4_told 8 = .ok (.ireturn, 1) := by decide +kernel
theorem dX4_told_9 : decode cX4_told 9 = .ok (.iload_n 1, 1) := by decide +kernel
theorem dX4_told_10 : decode cX4_told 10 = .ok (.ifCond .ne 10, 3) := by decide +kernel
theorem dX4_told_13 : decode cX4_told 13 = .ok (.aload_n 0, 1) := by decide +kernel
theorem tw_359 : (Jvm.Cond.fieldLink "MarshBells$Least" (19 : Nat) "MarshBells$Least" "offered" "I") ∈ lw_tbl := tk_2 (List.mem_of_getElem? (i := 119) rfl)
theorem fl_X4_19 : kFL RX4 19 4 3 1 := ⟨RX4, TX4, rfl, by decide, inWX4, tw_359⟩
theorem dX4_told_14 : decode cX4_told 14 = .ok (.getfield 19, 3) := by decide +kernel
theorem dX4_told_17 : decode cX4_told 17 = .ok (.goto 7, 3) := by decide +kernel
theorem dX4_told_24 : decode cX4_told 24 = .ok (.ireturn, 1) := by decide +kernel
theorem dX4_offer_0 : decode cX4_offer 0 = .ok (.aload_n 0, 1) := by decide +kernel
theorem dX4_offer_1 : decode cX4_offer 1 = .ok (.getfield 9, 3) := by decide +kernel
theorem dX4_offer_4 : decode cX4_offer 4 = .ok (.ifCond .eq 27, 3) := by decide +kernel
theorem dX4_offer_31 : decode cX4_offer 31 = .ok (.aload_n 0, 1) := by decide +kernel
theorem dX4_offer_32 : decode cX4_offer 32 = .ok (.iconst 1, 1) := by decide +kernel
theorem dX4_offer_33 : decode cX4_offer 33 = .ok (.putfield 9, 3) := by decide +kernel
theorem dX4_offer_36 : decode cX4_offer 36 = .ok (.aload_n 0, 1) := by decide +kernel
theorem dX4_offer_37 : decode cX4_offer 37 = .ok (.iload_n 1, 1) := by decide +kernel
theorem ft_X4_1 : kFT 4 1 .int false RX4 := ⟨RX4, TX4, 3, tyX4, rfl, tyX4_ok, nmX4, rfl, by decide +kernel, rfl⟩
theorem dX4_offer_38 : decode cX4_offer 38 = .ok (.putfield 19, 3) := by decide +kernel
theorem dX4_offer_41 : decode cX4_offer 41 = .ok (.aload_n 0, 1) := by decide +kernel
theorem dX4_offer_42 : decode cX4_offer 42 = .ok (.iload_n 2, 1) := by decide +kernel
theorem tw_360 : (Jvm.Cond.fieldLink "MarshBells$Least" (15 : Nat) "MarshBells$Least" "lost" "I") ∈ lw_tbl := tk_2 (List.mem_of_getElem? (i := 120) rfl)
theorem fl_X4_15 : kFL RX4 15 4 3 2 := ⟨RX4, TX4, rfl, by decide, inWX4, tw_360⟩
theorem ft_X4_2 : kFT 4 2 .int false RX4 := ⟨RX4, TX4, 3, tyX4, rfl, tyX4_ok, nmX4, rfl, by decide +kernel, rfl⟩
theorem dX4_offer_43 : decode cX4_offer 43 = .ok (.putfield 15, 3) := by decide +kernel
theorem dX4_offer_46 : decode cX4_offer 46 = .ok (.return_, 1) := by decide +kernel
theorem dX10_lessonCount_0 : decode cX10_lessonCount 0 = .ok (.aload_n 0, 1) := by decide +kernel
theorem dX10_lessonCount_1 : decode cX10_lessonCount 1 = .ok (.getfield 22, 3) := by decide +kernel
theorem tw_315 : (Jvm.Cond.fieldLinkNest "MarshBells$Trials" (33 : Nat) "MarshBells$Day" "plan" "LMarshBells$Plan;" "MarshBells") ∈ lw_tbl := tk_2 (List.mem_of_getElem? (i := 75) rfl)
theorem fl_X10_33 : kFN RX10 33 1 10 7 := ⟨RX1, TX1, rfl, by decide, inWX1, tw_315⟩
theorem dX10_lessonCount_4 : decode cX10_lessonCount 4 = .ok (.getfield 33, 3) := by decide +kernel
theorem tw_163 : (Jvm.Cond.fieldLinkNest "MarshBells$Trials" (37 : Nat) "MarshBells$Plan" "lessonCount" "I" "MarshBells") ∈ lw_tbl := tk_1 (List.mem_of_getElem? (i := 163) rfl)
theorem fl_X10_37 : kFN RX10 37 7 5 2 := ⟨RX7, TX7, rfl, by decide, inWX7, tw_163⟩
theorem dX10_lessonCount_7 : decode cX10_lessonCount 7 = .ok (.getfield 37, 3) := by decide +kernel
theorem dX10_lessonCount_10 : decode cX10_lessonCount 10 = .ok (.ireturn, 1) := by decide +kernel
theorem dX10_withoutOne_0 : decode cX10_withoutOne 0 = .ok (.aload_n 0, 1) := by decide +kernel
theorem dX10_withoutOne_1 : decode cX10_withoutOne 1 = .ok (.getfield 12, 3) := by decide +kernel
theorem tw_592 : (Jvm.Cond.methodLinkNest "MarshBells$Trials" (81 : Nat) ({ cls := "MarshBells$Least", name := "clear", desc := "()V" } : Jvm.MethodName) "MarshBells") ∈ lw_tbl := tk_3 (List.mem_of_getElem? (i := 112) rfl)
theorem tw_595 : (Jvm.Cond.code ({ cls := "MarshBells$Least", name := "clear", desc := "()V" } : Jvm.MethodName) prog_6_method_2_code (1 : Nat) (Option.none : Option Jvm.ClassFile.FieldType)) ∈ lw_tbl := tk_3 (List.mem_of_getElem? (i := 115) rfl)
theorem tw_594 : (Jvm.Cond.instanceMethod ({ cls := "MarshBells$Least", name := "clear", desc := "()V" } : Jvm.MethodName)) ∈ lw_tbl := tk_3 (List.mem_of_getElem? (i := 114) rfl)
theorem se_X4_clear : Cond.selects RX4 yX4_clear yX4_clear ∈ lw_tbl := List.mem_append_left _ (List.mem_of_getElem? (i := 8) rfl)
theorem li_X10_81 : kLN RX10 81 RX4 yX4_clear "MarshBells" cX4_clear 1 none 0 := ⟨tw_592, tw_594, se_X4_clear, tw_595, tw_9, by decide +kernel⟩
theorem dX10_withoutOne_4 : decode cX10_withoutOne 4 = .ok (.invokevirtual 81, 3) := by decide +kernel
theorem dX10_withoutOne_7 : decode cX10_withoutOne 7 = .ok (.iconst 0, 1) := by decide +kernel
theorem dX10_withoutOne_8 : decode cX10_withoutOne 8 = .ok (.istore_n 1, 1) := by decide +kernel
theorem dX10_withoutOne_9 : decode cX10_withoutOne 9 = .ok (.iload_n 1, 1) := by decide +kernel
theorem dX10_withoutOne_10 : decode cX10_withoutOne 10 = .ok (.aload_n 0, 1) := by decide +kernel
theorem tw_596 : (Jvm.Cond.methodLink "MarshBells$Trials" (64 : Nat) ({ cls := "MarshBells$Trials", name := "lessonCount", desc := "()I" } : Jvm.MethodName)) ∈ lw_tbl := tk_3 (List.mem_of_getElem? (i := 116) rfl)
theorem tw_599 : (Jvm.Cond.code ({ cls := "MarshBells$Trials", name := "lessonCount", desc := "()I" } : Jvm.MethodName) prog_12_method_2_code (1 : Nat) (Option.some Jvm.ClassFile.FieldType.int)) ∈ lw_tbl := tk_3 (List.mem_of_getElem? (i := 119) rfl)
theorem tw_598 : (Jvm.Cond.instanceMethod ({ cls := "MarshBells$Trials", name := "lessonCount", desc := "()I" } : Jvm.MethodName)) ∈ lw_tbl := tk_3 (List.mem_of_getElem? (i := 118) rfl)
theorem se_X10_lessonCount : Cond.selects RX10 yX10_lessonCount yX10_lessonCount ∈ lw_tbl := List.mem_append_left _ (List.mem_of_getElem? (i := 9) rfl)
theorem li_X10_64 : kLV RX10 64 RX10 yX10_lessonCount cX10_lessonCount 1 (some .int) 0 := ⟨tw_596, tw_598, se_X10_lessonCount, tw_599, tw_8, by decide +kernel⟩
theorem dX10_withoutOne_11 : decode cX10_withoutOne 11 = .ok (.invokevirtual 64, 3) := by decide +kernel
theorem dX10_withoutOne_14 : decode cX10_withoutOne 14 = .ok (.if_icmp .ge 23, 3) := by decide +kernel
theorem dX10_withoutOne_37 : decode cX10_withoutOne 37 = .ok (.aload_n 0, 1) := by decide +kernel
theorem dX10_withoutOne_38 : decode cX10_withoutOne 38 = .ok (.getfield 12, 3) := by decide +kernel
theorem dX10_withoutOne_41 : decode cX10_withoutOne 41 = .ok (.iconst 0, 1) := by decide +kernel
theorem tw_664 : (Jvm.Cond.methodLinkNest "MarshBells$Trials" (97 : Nat) ({ cls := "MarshBells$Least", name := "told", desc := "(I)I" } : Jvm.MethodName) "MarshBells") ∈ lw_tbl := tk_3 (List.mem_of_getElem? (i := 184) rfl)
theorem tw_667 : (Jvm.Cond.code ({ cls := "MarshBells$Least", name := "told", desc := "(I)I" } : Jvm.MethodName) prog_6_method_4_code (2 : Nat) (Option.some Jvm.ClassFile.FieldType.int)) ∈ lw_tbl := tk_3 (List.mem_of_getElem? (i := 187) rfl)
theorem tw_666 : (Jvm.Cond.instanceMethod ({ cls := "MarshBells$Least", name := "told", desc := "(I)I" } : Jvm.MethodName)) ∈ lw_tbl := tk_3 (List.mem_of_getElem? (i := 186) rfl)
theorem se_X4_told : Cond.selects RX4 yX4_told yX4_told ∈ lw_tbl := List.mem_append_left _ (List.mem_of_getElem? (i := 23) rfl)
theorem li_X10_97 : kLN RX10 97 RX4 yX4_told "MarshBells" cX4_told 2 (some .int) 1 := ⟨tw_664, tw_666, se_X4_told, tw_667, tw_9, by decide +kernel⟩
theorem dX10_withoutOne_42 : decode cX10_withoutOne 42 = .ok (.invokevirtual 97, 3) := by decide +kernel
theorem dX10_withoutOne_45 : decode cX10_withoutOne 45 = .ok (.ireturn, 1) := by decide +kernel
theorem dX10_withoutTwo_0 : decode cX10_withoutTwo 0 = .ok (.aload_n 0, 1) := by decide +kernel
theorem dX10_withoutTwo_1 : decode cX10_withoutTwo 1 = .ok (.getfield 12, 3) := by decide +kernel
theorem dX10_withoutTwo_4 : decode cX10_withoutTwo 4 = .ok (.invokevirtual 81, 3) := by decide +kernel
theorem dX10_withoutTwo_7 : decode cX10_withoutTwo 7 = .ok (.iconst 0, 1) := by decide +kernel
theorem dX10_withoutTwo_8 : decode cX10_withoutTwo 8 = .ok (.istore_n 2, 1) := by decide +kernel
theorem dX10_withoutTwo_9 : decode cX10_withoutTwo 9 = .ok (.iload_n 2, 1) := by decide +kernel
theorem dX10_withoutTwo_10 : decode cX10_withoutTwo 10 = .ok (.aload_n 0, 1) := by decide +kernel
theorem dX10_withoutTwo_11 : decode cX10_withoutTwo 11 = .ok (.invokevirtual 64, 3) := by decide +kernel
theorem dX10_withoutTwo_14 : decode cX10_withoutTwo 14 = .ok (.if_icmp .ge 46, 3) := by decide +kernel
theorem dX10_withoutTwo_60 : decode cX10_withoutTwo 60 = .ok (.aload_n 0, 1) := by decide +kernel
theorem dX10_withoutTwo_61 : decode cX10_withoutTwo 61 = .ok (.getfield 12, 3) := by decide +kernel
theorem dX10_withoutTwo_64 : decode cX10_withoutTwo 64 = .ok (.iload_n 1, 1) := by decide +kernel
theorem dX10_withoutTwo_65 : decode cX10_withoutTwo 65 = .ok (.invokevirtual 97, 3) := by decide +kernel
theorem dX10_withoutTwo_68 : decode cX10_withoutTwo 68 = .ok (.ireturn, 1) := by decide +kernel
theorem dX10_swapped_0 : decode cX10_swapped 0 = .ok (.aload_n 0, 1) := by decide +kernel
theorem dX10_swapped_1 : decode cX10_swapped 1 = .ok (.getfield 22, 3) := by decide +kernel
theorem dX10_swapped_4 : decode cX10_swapped 4 = .ok (.iconst 0, 1) := by decide +kernel
theorem tw_604 : (Jvm.Cond.methodLinkNest "MarshBells$Trials" (77 : Nat) ({ cls := "MarshBells$Day", name := "lostFrom", desc := "(I)I" } : Jvm.MethodName) "MarshBells") ∈ lw_tbl := tk_3 (List.mem_of_getElem? (i := 124) rfl)
theorem tw_607 : (Jvm.Cond.code ({ cls := "MarshBells$Day", name := "lostFrom", desc := "(I)I" } : Jvm.MethodName) prog_3_method_3_code (3 : Nat) (Option.some Jvm.ClassFile.FieldType.int)) ∈ lw_tbl := tk_3 (List.mem_of_getElem? (i := 127) rfl)
theorem tw_606 : (Jvm.Cond.instanceMethod ({ cls := "MarshBells$Day", name := "lostFrom", desc := "(I)I" } : Jvm.MethodName)) ∈ lw_tbl := tk_3 (List.mem_of_getElem? (i := 126) rfl)
theorem se_X1_lostFrom : Cond.selects RX1 yX1_lostFrom yX1_lostFrom ∈ lw_tbl := List.mem_append_left _ (List.mem_of_getElem? (i := 11) rfl)
theorem li_X10_77 : kLN RX10 77 RX1 yX1_lostFrom "MarshBells" cX1_lostFrom 3 (some .int) 1 := ⟨tw_604, tw_606, se_X1_lostFrom, tw_607, tw_7, by decide +kernel⟩
theorem dX10_swapped_5 : decode cX10_swapped 5 = .ok (.invokevirtual 77, 3) := by decide +kernel
theorem dX10_swapped_8 : decode cX10_swapped 8 = .ok (.istore_n 2, 1) := by decide +kernel
theorem dX10_swapped_9 : decode cX10_swapped 9 = .ok (.aload_n 0, 1) := by decide +kernel
theorem dX10_swapped_10 : decode cX10_swapped 10 = .ok (.getfield 12, 3) := by decide +kernel
theorem dX10_swapped_13 : decode cX10_swapped 13 = .ok (.invokevirtual 81, 3) := by decide +kernel
theorem dX10_swapped_16 : decode cX10_swapped 16 = .ok (.iconst 0, 1) := by decide +kernel
theorem dX10_swapped_17 : decode cX10_swapped 17 = .ok (.istore_n 3, 1) := by decide +kernel
theorem dX10_swapped_18 : decode cX10_swapped 18 = .ok (.iload_n 3, 1) := by decide +kernel
theorem dX10_swapped_19 : decode cX10_swapped 19 = .ok (.aload_n 0, 1) := by decide +kernel
theorem dX10_swapped_20 : decode cX10_swapped 20 = .ok (.invokevirtual 64, 3) := by decide +kernel
theorem dX10_swapped_23 : decode cX10_swapped 23 = .ok (.if_icmp .ge 65, 3) := by decide +kernel
theorem dX10_swapped_88 : decode cX10_swapped 88 = .ok (.aload_n 0, 1) := by decide +kernel
theorem dX10_swapped_89 : decode cX10_swapped 89 = .ok (.getfield 12, 3) := by decide +kernel
theorem tw_358 : (Jvm.Cond.fieldLinkNest "MarshBells$Trials" (90 : Nat) "MarshBells$Least" "any" "Z" "MarshBells") ∈ lw_tbl := tk_2 (List.mem_of_getElem? (i := 118) rfl)
theorem fl_X10_90 : kFN RX10 90 4 3 0 := ⟨RX4, TX4, rfl, by decide, inWX4, tw_358⟩
theorem dX10_swapped_92 : decode cX10_swapped 92 = .ok (.getfield 90, 3) := by decide +kernel
theorem dX10_swapped_95 : decode cX10_swapped 95 = .ok (.ifCond .eq 25, 3) := by decide +kernel
theorem dX10_swapped_120 : decode cX10_swapped 120 = .ok (.iconst (-1), 1) := by decide +kernel
theorem dX10_swapped_121 : decode cX10_swapped 121 = .ok (.ireturn, 1) := by decide +kernel
theorem dX10_leastByPause_0 : decode cX10_leastByPause 0 = .ok (.aload_n 0, 1) := by decide +kernel
theorem dX10_leastByPause_1 : decode cX10_leastByPause 1 = .ok (.getfield 12, 3) := by decide +kernel
theorem dX10_leastByPause_4 : decode cX10_leastByPause 4 = .ok (.invokevirtual 81, 3) := by decide +kernel
theorem dX10_leastByPause_7 : decode cX10_leastByPause 7 = .ok (.iconst 0, 1) := by decide +kernel
theorem dX10_leastByPause_8 : decode cX10_leastByPause 8 = .ok (.istore_n 3, 1) := by decide +kernel
theorem dX10_leastByPause_9 : decode cX10_leastByPause 9 = .ok (.iload_n 3, 1) := by decide +kernel
theorem dX10_leastByPause_10 : decode cX10_leastByPause 10 = .ok (.aload_n 0, 1) := by decide +kernel
theorem dX10_leastByPause_11 : decode cX10_leastByPause 11 = .ok (.invokevirtual 64, 3) := by decide +kernel
theorem dX10_leastByPause_14 : decode cX10_leastByPause 14 = .ok (.if_icmp .ge 58, 3) := by decide +kernel
theorem dX10_leastByPause_72 : decode cX10_leastByPause 72 = .ok (.aload_n 0, 1) := by decide +kernel
theorem dX10_leastByPause_73 : decode cX10_leastByPause 73 = .ok (.getfield 12, 3) := by decide +kernel
theorem dX10_leastByPause_76 : decode cX10_leastByPause 76 = .ok (.iload_n 2, 1) := by decide +kernel
theorem dX10_leastByPause_77 : decode cX10_leastByPause 77 = .ok (.invokevirtual 97, 3) := by decide +kernel
theorem dX10_leastByPause_80 : decode cX10_leastByPause 80 = .ok (.ireturn, 1) := by decide +kernel
theorem dX10_findBeginners_0 : decode cX10_findBeginners 0 = .ok (.aload_n 0, 1) := by decide +kernel
theorem dX10_findBeginners_1 : decode cX10_findBeginners 1 = .ok (.iconst 0, 1) := by decide +kernel
theorem tw_373 : (Jvm.Cond.fieldLink "MarshBells$Trials" (134 : Nat) "MarshBells$Trials" "fitting" "I") ∈ lw_tbl := tk_2 (List.mem_of_getElem? (i := 133) rfl)
theorem fl_X10_134 : kFL RX10 134 10 7 4 := ⟨RX10, TX10, rfl, by decide, inWX10, tw_373⟩
theorem ft_X10_4 : kFT 10 4 .int false RX10 := ⟨RX10, TX10, 7, tyX10, rfl, tyX10_ok, nmX10, rfl, by decide +kernel, rfl⟩
theorem dX10_findBeginners_2 : decode cX10_findBeginners 2 = .ok (.putfield 134, 3) := by decide +kernel
theorem dX10_findBeginners_5 : decode cX10_findBeginners 5 = .ok (.aload_n 0, 1) := by decide +kernel
theorem dX10_findBeginners_6 : decode cX10_findBeginners 6 = .ok (.iconst (-1), 1) := by decide +kernel
theorem tw_375 : (Jvm.Cond.fieldLink "MarshBells$Trials" (137 : Nat) "MarshBells$Trials" "firstFitting" "I") ∈ lw_tbl := tk_2 (List.mem_of_getElem? (i := 135) rfl)
theorem fl_X10_137 : kFL RX10 137 10 7 5 := ⟨RX10, TX10, rfl, by decide, inWX10, tw_375⟩
theorem ft_X10_5 : kFT 10 5 .int false RX10 := ⟨RX10, TX10, 7, tyX10, rfl, tyX10_ok, nmX10, rfl, by decide +kernel, rfl⟩
theorem dX10_findBeginners_7 : decode cX10_findBeginners 7 = .ok (.putfield 137, 3) := by decide +kernel
theorem dX10_findBeginners_10 : decode cX10_findBeginners 10 = .ok (.aload_n 0, 1) := by decide +kernel
theorem dX10_findBeginners_11 : decode cX10_findBeginners 11 = .ok (.iconst (-1), 1) := by decide +kernel
theorem tw_377 : (Jvm.Cond.fieldLink "MarshBells$Trials" (140 : Nat) "MarshBells$Trials" "surely" "I") ∈ lw_tbl := tk_2 (List.mem_of_getElem? (i := 137) rfl)
theorem fl_X10_140 : kFL RX10 140 10 7 6 := ⟨RX10, TX10, rfl, by decide, inWX10, tw_377⟩
theorem ft_X10_6 : kFT 10 6 .int false RX10 := ⟨RX10, TX10, 7, tyX10, rfl, tyX10_ok, nmX10, rfl, by decide +kernel, rfl⟩
theorem dX10_findBeginners_12 : decode cX10_findBeginners 12 = .ok (.putfield 140, 3) := by decide +kernel
theorem dX10_findBeginners_15 : decode cX10_findBeginners 15 = .ok (.iconst 0, 1) := by decide +kernel
theorem dX10_findBeginners_16 : decode cX10_findBeginners 16 = .ok (.istore_n 1, 1) := by decide +kernel
theorem dX10_findBeginners_17 : decode cX10_findBeginners 17 = .ok (.iload_n 1, 1) := by decide +kernel
theorem dX10_findBeginners_18 : decode cX10_findBeginners 18 = .ok (.aload_n 0, 1) := by decide +kernel
theorem dX10_findBeginners_19 : decode cX10_findBeginners 19 = .ok (.invokevirtual 64, 3) := by decide +kernel
theorem dX10_findBeginners_22 : decode cX10_findBeginners 22 = .ok (.if_icmp .ge 82, 3) := by decide +kernel
theorem dX10_findBeginners_104 : decode cX10_findBeginners 104 = .ok (.return_, 1) := by decide +kernel
theorem dX10_lostByRule_0 : decode cX10_lostByRule 0 = .ok (.aload_n 0, 1) := by decide +kernel
theorem dX10_lostByRule_1 : decode cX10_lostByRule 1 = .ok (.getfield 32, 3) := by decide +kernel
theorem tw_266 : (Jvm.Cond.fieldLinkNest "MarshBells$Trials" (114 : Nat) "MarshBells$Held" "rule" "I" "MarshBells") ∈ lw_tbl := tk_2 (List.mem_of_getElem? (i := 26) rfl)
theorem fl_X10_114 : kFN RX10 114 3 12 11 := ⟨RX3, TX3, rfl, by decide, inWX3, tw_266⟩
theorem dX10_lostByRule_4 : decode cX10_lostByRule 4 = .ok (.getfield 114, 3) := by decide +kernel
theorem dX10_lostByRule_7 : decode cX10_lostByRule 7 = .ok (.istore_n 2, 1) := by decide +kernel
theorem dX10_lostByRule_8 : decode cX10_lostByRule 8 = .ok (.aload_n 0, 1) := by decide +kernel
theorem dX10_lostByRule_9 : decode cX10_lostByRule 9 = .ok (.getfield 32, 3) := by decide +kernel
theorem dX10_lostByRule_12 : decode cX10_lostByRule 12 = .ok (.iload_n 1, 1) := by decide +kernel
theorem dX10_lostByRule_13 : decode cX10_lostByRule 13 = .ok (.putfield 114, 3) := by decide +kernel
theorem dX10_lostByRule_16 : decode cX10_lostByRule 16 = .ok (.aload_n 0, 1) := by decide +kernel
theorem dX10_lostByRule_17 : decode cX10_lostByRule 17 = .ok (.getfield 22, 3) := by decide +kernel
theorem dX10_lostByRule_20 : decode cX10_lostByRule 20 = .ok (.iconst 0, 1) := by decide +kernel
theorem dX10_lostByRule_21 : decode cX10_lostByRule 21 = .ok (.invokevirtual 77, 3) := by decide +kernel
theorem dX10_lostByRule_24 : decode cX10_lostByRule 24 = .ok (.istore_n 3, 1) := by decide +kernel
theorem dX10_lostByRule_25 : decode cX10_lostByRule 25 = .ok (.aload_n 0, 1) := by decide +kernel
theorem dX10_lostByRule_26 : decode cX10_lostByRule 26 = .ok (.getfield 32, 3) := by decide +kernel
theorem dX10_lostByRule_29 : decode cX10_lostByRule 29 = .ok (.iload_n 2, 1) := by decide +kernel
theorem dX10_lostByRule_30 : decode cX10_lostByRule 30 = .ok (.putfield 114, 3) := by decide +kernel
theorem dX10_lostByRule_33 : decode cX10_lostByRule 33 = .ok (.iload_n 3, 1) := by decide +kernel
theorem dX10_lostByRule_34 : decode cX10_lostByRule 34 = .ok (.ireturn, 1) := by decide +kernel
theorem dX10_bestRule_0 : decode cX10_bestRule 0 = .ok (.aload_n 0, 1) := by decide +kernel
theorem dX10_bestRule_1 : decode cX10_bestRule 1 = .ok (.getfield 12, 3) := by decide +kernel
theorem dX10_bestRule_4 : decode cX10_bestRule 4 = .ok (.invokevirtual 81, 3) := by decide +kernel
theorem dX10_bestRule_7 : decode cX10_bestRule 7 = .ok (.iconst (-1), 1) := by decide +kernel
theorem dX10_bestRule_8 : decode cX10_bestRule 8 = .ok (.istore_n 1, 1) := by decide +kernel
theorem dX10_bestRule_9 : decode cX10_bestRule 9 = .ok (.iload_n 1, 1) := by decide +kernel
theorem dX10_bestRule_10 : decode cX10_bestRule 10 = .ok (.aload_n 0, 1) := by decide +kernel
theorem dX10_bestRule_11 : decode cX10_bestRule 11 = .ok (.getfield 22, 3) := by decide +kernel
theorem dX10_bestRule_14 : decode cX10_bestRule 14 = .ok (.getfield 33, 3) := by decide +kernel
theorem tw_160 : (Jvm.Cond.fieldLinkNest "MarshBells$Trials" (117 : Nat) "MarshBells$Plan" "rules" "LMarshBells$Rules;" "MarshBells") ∈ lw_tbl := tk_1 (List.mem_of_getElem? (i := 160) rfl)
theorem fl_X10_117 : kFN RX10 117 7 5 1 := ⟨RX7, TX7, rfl, by decide, inWX7, tw_160⟩
theorem dX10_bestRule_17 : decode cX10_bestRule 17 = .ok (.getfield 117, 3) := by decide +kernel
theorem tw_54 : (Jvm.Cond.fieldLinkNest "MarshBells$Trials" (121 : Nat) "MarshBells$Rules" "size" "I" "MarshBells") ∈ lw_tbl := tk_1 (List.mem_of_getElem? (i := 54) rfl)
theorem fl_X10_121 : kFN RX10 121 8 5 3 := ⟨RX8, TX8, rfl, by decide, inWX8, tw_54⟩
theorem dX10_bestRule_20 : decode cX10_bestRule 20 = .ok (.getfield 121, 3) := by decide +kernel
theorem dX10_bestRule_23 : decode cX10_bestRule 23 = .ok (.if_icmp .ge 22, 3) := by decide +kernel
theorem dX10_bestRule_26 : decode cX10_bestRule 26 = .ok (.aload_n 0, 1) := by decide +kernel
theorem dX10_bestRule_27 : decode cX10_bestRule 27 = .ok (.getfield 12, 3) := by decide +kernel
theorem dX10_bestRule_30 : decode cX10_bestRule 30 = .ok (.iload_n 1, 1) := by decide +kernel
theorem dX10_bestRule_31 : decode cX10_bestRule 31 = .ok (.aload_n 0, 1) := by decide +kernel
theorem dX10_bestRule_32 : decode cX10_bestRule 32 = .ok (.iload_n 1, 1) := by decide +kernel
theorem tw_676 : (Jvm.Cond.methodLink "MarshBells$Trials" (126 : Nat) ({ cls := "MarshBells$Trials", name := "lostByRule", desc := "(I)I" } : Jvm.MethodName)) ∈ lw_tbl := tk_3 (List.mem_of_getElem? (i := 196) rfl)
theorem tw_679 : (Jvm.Cond.code ({ cls := "MarshBells$Trials", name := "lostByRule", desc := "(I)I" } : Jvm.MethodName) prog_12_method_15_code (4 : Nat) (Option.some Jvm.ClassFile.FieldType.int)) ∈ lw_tbl := tk_3 (List.mem_of_getElem? (i := 199) rfl)
theorem tw_678 : (Jvm.Cond.instanceMethod ({ cls := "MarshBells$Trials", name := "lostByRule", desc := "(I)I" } : Jvm.MethodName)) ∈ lw_tbl := tk_3 (List.mem_of_getElem? (i := 198) rfl)
theorem se_X10_lostByRule : Cond.selects RX10 yX10_lostByRule yX10_lostByRule ∈ lw_tbl := List.mem_append_left _ (List.mem_of_getElem? (i := 25) rfl)
theorem li_X10_126 : kLV RX10 126 RX10 yX10_lostByRule cX10_lostByRule 4 (some .int) 1 := ⟨tw_676, tw_678, se_X10_lostByRule, tw_679, tw_8, by decide +kernel⟩
theorem dX10_bestRule_33 : decode cX10_bestRule 33 = .ok (.invokevirtual 126, 3) := by decide +kernel
theorem tw_660 : (Jvm.Cond.methodLinkNest "MarshBells$Trials" (87 : Nat) ({ cls := "MarshBells$Least", name := "offer", desc := "(II)V" } : Jvm.MethodName) "MarshBells") ∈ lw_tbl := tk_3 (List.mem_of_getElem? (i := 180) rfl)
theorem tw_663 : (Jvm.Cond.code ({ cls := "MarshBells$Least", name := "offer", desc := "(II)V" } : Jvm.MethodName) prog_6_method_3_code (3 : Nat) (Option.none : Option Jvm.ClassFile.FieldType)) ∈ lw_tbl := tk_3 (List.mem_of_getElem? (i := 183) rfl)
theorem tw_662 : (Jvm.Cond.instanceMethod ({ cls := "MarshBells$Least", name := "offer", desc := "(II)V" } : Jvm.MethodName)) ∈ lw_tbl := tk_3 (List.mem_of_getElem? (i := 182) rfl)
theorem se_X4_offer : Cond.selects RX4 yX4_offer yX4_offer ∈ lw_tbl := List.mem_append_left _ (List.mem_of_getElem? (i := 22) rfl)
theorem li_X10_87 : kLN RX10 87 RX4 yX4_offer "MarshBells" cX4_offer 3 none 2 := ⟨tw_660, tw_662, se_X4_offer, tw_663, tw_9, by decide +kernel⟩
theorem dX10_bestRule_36 : decode cX10_bestRule 36 = .ok (.invokevirtual 87, 3) := by decide +kernel
theorem dX10_bestRule_39 : decode cX10_bestRule 39 = .ok (.iinc 1 1, 3) := by decide +kernel
theorem dX10_bestRule_42 : decode cX10_bestRule 42 = .ok (.goto (-33), 3) := by decide +kernel
theorem dX10_bestRule_45 : decode cX10_bestRule 45 = .ok (.aload_n 0, 1) := by decide +kernel
theorem dX10_bestRule_46 : decode cX10_bestRule 46 = .ok (.getfield 12, 3) := by decide +kernel
theorem dX10_bestRule_49 : decode cX10_bestRule 49 = .ok (.iconst 0, 1) := by decide +kernel
theorem dX10_bestRule_50 : decode cX10_bestRule 50 = .ok (.invokevirtual 97, 3) := by decide +kernel
theorem dX10_bestRule_53 : decode cX10_bestRule 53 = .ok (.ireturn, 1) := by decide +kernel
theorem dX10_worthOfBell_0 : decode cX10_worthOfBell 0 = .ok (.aload_n 0, 1) := by decide +kernel
theorem dX10_worthOfBell_1 : decode cX10_worthOfBell 1 = .ok (.getfield 22, 3) := by decide +kernel
theorem dX10_worthOfBell_4 : decode cX10_worthOfBell 4 = .ok (.iconst 0, 1) := by decide +kernel
theorem dX10_worthOfBell_5 : decode cX10_worthOfBell 5 = .ok (.invokevirtual 77, 3) := by decide +kernel
theorem dX10_worthOfBell_8 : decode cX10_worthOfBell 8 = .ok (.istore_n 2, 1) := by decide +kernel
theorem dX10_worthOfBell_9 : decode cX10_worthOfBell 9 = .ok (.aload_n 0, 1) := by decide +kernel
theorem dX10_worthOfBell_10 : decode cX10_worthOfBell 10 = .ok (.getfield 32, 3) := by decide +kernel
theorem tw_237 : (Jvm.Cond.fieldLinkNest "MarshBells$Trials" (56 : Nat) "MarshBells$Held" "overs" "[I" "MarshBells") ∈ lw_tbl := tk_1 (List.mem_of_getElem? (i := 237) rfl)
theorem fl_X10_56 : kFN RX10 56 3 12 0 := ⟨RX3, TX3, rfl, by decide, inWX3, tw_237⟩
theorem dX10_worthOfBell_13 : decode cX10_worthOfBell 13 = .ok (.getfield 56, 3) := by decide +kernel
theorem dX10_worthOfBell_16 : decode cX10_worthOfBell 16 = .ok (.iconst 0, 1) := by decide +kernel
theorem dX10_worthOfBell_17 : decode cX10_worthOfBell 17 = .ok (.aload_n 0, 1) := by decide +kernel
theorem dX10_worthOfBell_18 : decode cX10_worthOfBell 18 = .ok (.getfield 18, 3) := by decide +kernel
theorem dX10_worthOfBell_21 : decode cX10_worthOfBell 21 = .ok (.iconst 0, 1) := by decide +kernel
theorem dX10_worthOfBell_22 : decode cX10_worthOfBell 22 = .ok (.bipush 12, 2) := by decide +kernel
theorem tw_1088 : (Jvm.Cond.methodLink "MarshBells$Trials" (50 : Nat) ({ cls := "java/lang/System", name := "arraycopy", desc := "(Ljava/lang/Object;ILjava/lang/Object;II)V" } : Jvm.MethodName)) ∈ lw_tbl := tk_5 (List.mem_of_getElem? (i := 128) rfl)
theorem tw_567 : (Jvm.Cond.native ({ cls := "java/lang/System", name := "arraycopy", desc := "(Ljava/lang/Object;ILjava/lang/Object;II)V" } : Jvm.MethodName)) ∈ lw_tbl := tk_3 (List.mem_of_getElem? (i := 87) rfl)
theorem tw_566 : (Jvm.Cond.static ({ cls := "java/lang/System", name := "arraycopy", desc := "(Ljava/lang/Object;ILjava/lang/Object;II)V" } : Jvm.MethodName)) ∈ lw_tbl := tk_3 (List.mem_of_getElem? (i := 86) rfl)
theorem tw_24 : (Jvm.Cond.initialized "java/lang/System") ∈ lw_tbl := tk_1 (List.mem_of_getElem? (i := 24) rfl)
theorem lc_X10_50 : kLC RX10 50 := ⟨tw_1088, tw_567, tw_566, tw_24⟩
theorem dX10_worthOfBell_24 : decode cX10_worthOfBell 24 = .ok (.invokestatic 50, 3) := by decide +kernel
theorem dX10_worthOfBell_27 : decode cX10_worthOfBell 27 = .ok (.iconst 0, 1) := by decide +kernel
theorem dX10_worthOfBell_28 : decode cX10_worthOfBell 28 = .ok (.istore_n 3, 1) := by decide +kernel
theorem dX10_worthOfBell_29 : decode cX10_worthOfBell 29 = .ok (.iload_n 3, 1) := by decide +kernel
theorem dX10_worthOfBell_30 : decode cX10_worthOfBell 30 = .ok (.aload_n 0, 1) := by decide +kernel
theorem dX10_worthOfBell_31 : decode cX10_worthOfBell 31 = .ok (.invokevirtual 64, 3) := by decide +kernel
theorem dX10_worthOfBell_34 : decode cX10_worthOfBell 34 = .ok (.if_icmp .ge 28, 3) := by decide +kernel
theorem dX10_worthOfBell_62 : decode cX10_worthOfBell 62 = .ok (.aload_n 0, 1) := by decide +kernel
theorem dX10_worthOfBell_63 : decode cX10_worthOfBell 63 = .ok (.getfield 22, 3) := by decide +kernel
theorem dX10_worthOfBell_66 : decode cX10_worthOfBell 66 = .ok (.iconst 0, 1) := by decide +kernel
theorem dX10_worthOfBell_67 : decode cX10_worthOfBell 67 = .ok (.invokevirtual 77, 3) := by decide +kernel
theorem dX10_worthOfBell_70 : decode cX10_worthOfBell 70 = .ok (.istore_n 3, 1) := by decide +kernel
theorem dX10_worthOfBell_71 : decode cX10_worthOfBell 71 = .ok (.aload_n 0, 1) := by decide +kernel
theorem dX10_worthOfBell_72 : decode cX10_worthOfBell 72 = .ok (.getfield 18, 3) := by decide +kernel
theorem dX10_worthOfBell_75 : decode cX10_worthOfBell 75 = .ok (.iconst 0, 1) := by decide +kernel
theorem dX10_worthOfBell_76 : decode cX10_worthOfBell 76 = .ok (.aload_n 0, 1) := by decide +kernel
theorem dX10_worthOfBell_77 : decode cX10_worthOfBell 77 = .ok (.getfield 32, 3) := by decide +kernel
theorem dX10_worthOfBell_80 : decode cX10_worthOfBell 80 = .ok (.getfield 56, 3) := by decide +kernel
theorem dX10_worthOfBell_83 : decode cX10_worthOfBell 83 = .ok (.iconst 0, 1) := by decide +kernel
theorem dX10_worthOfBell_84 : decode cX10_worthOfBell 84 = .ok (.bipush 12, 2) := by decide +kernel
theorem dX10_worthOfBell_86 : decode cX10_worthOfBell 86 = .ok (.invokestatic 50, 3) := by decide +kernel
theorem dX10_worthOfBell_89 : decode cX10_worthOfBell 89 = .ok (.iload_n 2, 1) := by decide +kernel
theorem dX10_worthOfBell_90 : decode cX10_worthOfBell 90 = .ok (.iload_n 3, 1) := by decide +kernel
theorem dX10_worthOfBell_91 : decode cX10_worthOfBell 91 = .ok (.isub, 1) := by decide +kernel
theorem dX10_worthOfBell_92 : decode cX10_worthOfBell 92 = .ok (.ireturn, 1) := by decide +kernel
theorem dX9_gather_0 : decode cX9_gather 0 = .ok (.aload_n 0, 1) := by decide +kernel
theorem dX9_gather_1 : decode cX9_gather 1 = .ok (.getfield 25, 3) := by decide +kernel
theorem dX9_gather_4 : decode cX9_gather 4 = .ok (.iconst 0, 1) := by decide +kernel
theorem tw_692 : (Jvm.Cond.methodLinkNest "MarshBells$Stair" (29 : Nat) ({ cls := "MarshBells$Day", name := "runFrom", desc := "(I)V" } : Jvm.MethodName) "MarshBells") ∈ lw_tbl := tk_3 (List.mem_of_getElem? (i := 212) rfl)
theorem tw_695 : (Jvm.Cond.code ({ cls := "MarshBells$Day", name := "runFrom", desc := "(I)V" } : Jvm.MethodName) prog_3_method_2_code (3 : Nat) (Option.none : Option Jvm.ClassFile.FieldType)) ∈ lw_tbl := tk_3 (List.mem_of_getElem? (i := 215) rfl)
theorem tw_694 : (Jvm.Cond.instanceMethod ({ cls := "MarshBells$Day", name := "runFrom", desc := "(I)V" } : Jvm.MethodName)) ∈ lw_tbl := tk_3 (List.mem_of_getElem? (i := 214) rfl)
theorem se_X1_runFrom : Cond.selects RX1 yX1_runFrom yX1_runFrom ∈ lw_tbl := List.mem_append_left _ (List.mem_of_getElem? (i := 27) rfl)
theorem li_X9_29 : kLN RX9 29 RX1 yX1_runFrom "MarshBells" cX1_runFrom 3 none 1 := ⟨tw_692, tw_694, se_X1_runFrom, tw_695, tw_7, by decide +kernel⟩
theorem dX9_gather_5 : decode cX9_gather 5 = .ok (.invokevirtual 29, 3) := by decide +kernel
theorem dX9_gather_8 : decode cX9_gather 8 = .ok (.aload_n 0, 1) := by decide +kernel
theorem dX9_gather_9 : decode cX9_gather 9 = .ok (.iconst 0, 1) := by decide +kernel
theorem tw_470 : (Jvm.Cond.fieldLink "MarshBells$Stair" (35 : Nat) "MarshBells$Stair" "ways" "I") ∈ lw_tbl := tk_2 (List.mem_of_getElem? (i := 230) rfl)
theorem fl_X9_35 : kFL RX9 35 9 6 5 := ⟨RX9, TX9, rfl, by decide, inWX9, tw_470⟩
theorem ft_X9_5 : kFT 9 5 .int false RX9 := ⟨RX9, TX9, 6, tyX9, rfl, tyX9_ok, nmX9, rfl, by decide +kernel, rfl⟩
theorem dX9_gather_10 : decode cX9_gather 10 = .ok (.putfield 35, 3) := by decide +kernel
theorem dX9_gather_13 : decode cX9_gather 13 = .ok (.iconst 0, 1) := by decide +kernel
theorem dX9_gather_14 : decode cX9_gather 14 = .ok (.istore_n 1, 1) := by decide +kernel
theorem dX9_gather_15 : decode cX9_gather 15 = .ok (.iload_n 1, 1) := by decide +kernel
theorem dX9_gather_16 : decode cX9_gather 16 = .ok (.aload_n 0, 1) := by decide +kernel
theorem dX9_gather_17 : decode cX9_gather 17 = .ok (.getfield 25, 3) := by decide +kernel
theorem tw_316 : (Jvm.Cond.fieldLinkNest "MarshBells$Stair" (39 : Nat) "MarshBells$Day" "plan" "LMarshBells$Plan;" "MarshBells") ∈ lw_tbl := tk_2 (List.mem_of_getElem? (i := 76) rfl)
theorem fl_X9_39 : kFN RX9 39 1 10 7 := ⟨RX1, TX1, rfl, by decide, inWX1, tw_316⟩
theorem dX9_gather_20 : decode cX9_gather 20 = .ok (.getfield 39, 3) := by decide +kernel
theorem tw_165 : (Jvm.Cond.fieldLinkNest "MarshBells$Stair" (43 : Nat) "MarshBells$Plan" "lessonCount" "I" "MarshBells") ∈ lw_tbl := tk_1 (List.mem_of_getElem? (i := 165) rfl)
theorem fl_X9_43 : kFN RX9 43 7 5 2 := ⟨RX7, TX7, rfl, by decide, inWX7, tw_165⟩
theorem dX9_gather_23 : decode cX9_gather 23 = .ok (.getfield 43, 3) := by decide +kernel
theorem dX9_gather_26 : decode cX9_gather 26 = .ok (.if_icmp .ge 73, 3) := by decide +kernel
theorem dX9_gather_99 : decode cX9_gather 99 = .ok (.return_, 1) := by decide +kernel
theorem dX9_crossings_0 : decode cX9_crossings 0 = .ok (.iconst 0, 1) := by decide +kernel
theorem dX9_crossings_1 : decode cX9_crossings 1 = .ok (.istore_n 1, 1) := by decide +kernel
theorem dX9_crossings_2 : decode cX9_crossings 2 = .ok (.iconst 0, 1) := by decide +kernel
theorem dX9_crossings_3 : decode cX9_crossings 3 = .ok (.istore_n 2, 1) := by decide +kernel
theorem dX9_crossings_4 : decode cX9_crossings 4 = .ok (.iload_n 2, 1) := by decide +kernel
theorem dX9_crossings_5 : decode cX9_crossings 5 = .ok (.aload_n 0, 1) := by decide +kernel
theorem dX9_crossings_6 : decode cX9_crossings 6 = .ok (.getfield 35, 3) := by decide +kernel
theorem dX9_crossings_9 : decode cX9_crossings 9 = .ok (.if_icmp .ge 95, 3) := by decide +kernel
theorem dX9_crossings_104 : decode cX9_crossings 104 = .ok (.iload_n 1, 1) := by decide +kernel
theorem dX9_crossings_105 : decode cX9_crossings 105 = .ok (.ireturn, 1) := by decide +kernel
theorem dX9_busiestMinute_0 : decode cX9_busiestMinute 0 = .ok (.iconst (-1), 1) := by decide +kernel
theorem dX9_busiestMinute_1 : decode cX9_busiestMinute 1 = .ok (.istore_n 1, 1) := by decide +kernel
theorem dX9_busiestMinute_2 : decode cX9_busiestMinute 2 = .ok (.iconst 0, 1) := by decide +kernel
theorem dX9_busiestMinute_3 : decode cX9_busiestMinute 3 = .ok (.istore_n 2, 1) := by decide +kernel
theorem dX9_busiestMinute_4 : decode cX9_busiestMinute 4 = .ok (.iconst 0, 1) := by decide +kernel
theorem dX9_busiestMinute_5 : decode cX9_busiestMinute 5 = .ok (.istore_n 3, 1) := by decide +kernel
theorem dX9_busiestMinute_6 : decode cX9_busiestMinute 6 = .ok (.iload_n 3, 1) := by decide +kernel
theorem dX9_busiestMinute_7 : decode cX9_busiestMinute 7 = .ok (.aload_n 0, 1) := by decide +kernel
theorem dX9_busiestMinute_8 : decode cX9_busiestMinute 8 = .ok (.getfield 35, 3) := by decide +kernel
theorem dX9_busiestMinute_11 : decode cX9_busiestMinute 11 = .ok (.if_icmp .ge 53, 3) := by decide +kernel
theorem dX9_busiestMinute_64 : decode cX9_busiestMinute 64 = .ok (.iload_n 1, 1) := by decide +kernel
theorem dX9_busiestMinute_65 : decode cX9_busiestMinute 65 = .ok (.ireturn, 1) := by decide +kernel
theorem dX9_peopleIn_0 : decode cX9_peopleIn 0 = .ok (.iconst 0, 1) := by decide +kernel
theorem dX9_peopleIn_1 : decode cX9_peopleIn 1 = .ok (.istore_n 2, 1) := by decide +kernel
theorem dX9_peopleIn_2 : decode cX9_peopleIn 2 = .ok (.iconst 0, 1) := by decide +kernel
theorem dX9_peopleIn_3 : decode cX9_peopleIn 3 = .ok (.istore_n 3, 1) := by decide +kernel
theorem dX9_peopleIn_4 : decode cX9_peopleIn 4 = .ok (.iload_n 3, 1) := by decide +kernel
theorem dX9_peopleIn_5 : decode cX9_peopleIn 5 = .ok (.aload_n 0, 1) := by decide +kernel
theorem dX9_peopleIn_6 : decode cX9_peopleIn 6 = .ok (.getfield 35, 3) := by decide +kernel
theorem dX9_peopleIn_9 : decode cX9_peopleIn 9 = .ok (.if_icmp .ge 42, 3) := by decide +kernel
theorem dX9_peopleIn_51 : decode cX9_peopleIn 51 = .ok (.iload_n 2, 1) := by decide +kernel
theorem dX9_peopleIn_52 : decode cX9_peopleIn 52 = .ok (.ireturn, 1) := by decide +kernel
theorem dX3_takeBackAct_0 : decode cX3_takeBackAct 0 = .ok (.aload_n 0, 1) := by decide +kernel
theorem dX3_takeBackAct_1 : decode cX3_takeBackAct 1 = .ok (.getfield 39, 3) := by decide +kernel
theorem dX3_takeBackAct_4 : decode cX3_takeBackAct 4 = .ok (.iconst 1, 1) := by decide +kernel
theorem dX3_takeBackAct_5 : decode cX3_takeBackAct 5 = .ok (.if_icmp .ge 5, 3) := by decide +kernel
theorem dX3_takeBackAct_8 : decode cX3_takeBackAct 8 = .ok (.iconst (-1), 1) := by decide +kernel
theorem dX3_takeBackAct_9 : decode cX3_takeBackAct 9 = .ok (.ireturn, 1) := by decide +kernel
theorem dX3_keepAct_0 : decode cX3_keepAct 0 = .ok (.aload_n 0, 1) := by decide +kernel
theorem dX3_keepAct_1 : decode cX3_keepAct 1 = .ok (.getfield 39, 3) := by decide +kernel
theorem dX3_keepAct_4 : decode cX3_keepAct 4 = .ok (.bipush 40, 2) := by decide +kernel
theorem dX3_keepAct_6 : decode cX3_keepAct 6 = .ok (.if_icmp .lt 7, 3) := by decide +kernel
theorem dX3_keepAct_13 : decode cX3_keepAct 13 = .ok (.aload_n 0, 1) := by decide +kernel
theorem dX3_keepAct_14 : decode cX3_keepAct 14 = .ok (.getfield 24, 3) := by decide +kernel
theorem dX3_keepAct_17 : decode cX3_keepAct 17 = .ok (.aload_n 0, 1) := by decide +kernel
theorem dX3_keepAct_18 : decode cX3_keepAct 18 = .ok (.getfield 39, 3) := by decide +kernel
theorem dX3_keepAct_21 : decode cX3_keepAct 21 = .ok (.iload_n 1, 1) := by decide +kernel
theorem dX3_keepAct_22 : decode cX3_keepAct 22 = .ok (.iastore, 1) := by decide +kernel
theorem dX3_keepAct_23 : decode cX3_keepAct 23 = .ok (.aload_n 0, 1) := by decide +kernel
theorem dX3_keepAct_24 : decode cX3_keepAct 24 = .ok (.getfield 27, 3) := by decide +kernel
theorem dX3_keepAct_27 : decode cX3_keepAct 27 = .ok (.aload_n 0, 1) := by decide +kernel
theorem dX3_keepAct_28 : decode cX3_keepAct 28 = .ok (.getfield 39, 3) := by decide +kernel
theorem dX3_keepAct_31 : decode cX3_keepAct 31 = .ok (.iload_n 2, 1) := by decide +kernel
theorem dX3_keepAct_32 : decode cX3_keepAct 32 = .ok (.iastore, 1) := by decide +kernel
theorem dX3_keepAct_33 : decode cX3_keepAct 33 = .ok (.aload_n 0, 1) := by decide +kernel
theorem dX3_keepAct_34 : decode cX3_keepAct 34 = .ok (.getfield 30, 3) := by decide +kernel
theorem dX3_keepAct_37 : decode cX3_keepAct 37 = .ok (.aload_n 0, 1) := by decide +kernel
theorem dX3_keepAct_38 : decode cX3_keepAct 38 = .ok (.getfield 39, 3) := by decide +kernel
theorem dX3_keepAct_41 : decode cX3_keepAct 41 = .ok (.iload_n 3, 1) := by decide +kernel
theorem dX3_keepAct_42 : decode cX3_keepAct 42 = .ok (.iastore, 1) := by decide +kernel
theorem dX3_keepAct_43 : decode cX3_keepAct 43 = .ok (.aload_n 0, 1) := by decide +kernel
theorem dX3_keepAct_44 : decode cX3_keepAct 44 = .ok (.dup, 1) := by decide +kernel
theorem dX3_keepAct_45 : decode cX3_keepAct 45 = .ok (.getfield 39, 3) := by decide +kernel
theorem dX3_keepAct_48 : decode cX3_keepAct 48 = .ok (.iconst 1, 1) := by decide +kernel
theorem dX3_keepAct_49 : decode cX3_keepAct 49 = .ok (.iadd, 1) := by decide +kernel
theorem dX3_keepAct_50 : decode cX3_keepAct 50 = .ok (.putfield 39, 3) := by decide +kernel
theorem dX3_keepAct_53 : decode cX3_keepAct 53 = .ok (.return_, 1) := by decide +kernel
theorem dX3_start_0 : decode cX3_start 0 = .ok (.iconst 0, 1) := by decide +kernel
theorem dX3_start_1 : decode cX3_start 1 = .ok (.istore_n 2, 1) := by decide +kernel
theorem dX3_start_2 : decode cX3_start 2 = .ok (.iload_n 2, 1) := by decide +kernel
theorem dX3_start_3 : decode cX3_start 3 = .ok (.aload_n 1, 1) := by decide +kernel
theorem tw_161 : (Jvm.Cond.fieldLinkNest "MarshBells$Held" (49 : Nat) "MarshBells$Plan" "lessonCount" "I" "MarshBells") ∈ lw_tbl := tk_1 (List.mem_of_getElem? (i := 161) rfl)
theorem fl_X3_49 : kFN RX3 49 7 5 2 := ⟨RX7, TX7, rfl, by decide, inWX7, tw_161⟩
theorem dX3_start_4 : decode cX3_start 4 = .ok (.getfield 49, 3) := by decide +kernel
theorem dX3_start_7 : decode cX3_start 7 = .ok (.if_icmp .ge 56, 3) := by decide +kernel
theorem dX3_start_63 : decode cX3_start 63 = .ok (.aload_n 0, 1) := by decide +kernel
theorem dX3_start_64 : decode cX3_start 64 = .ok (.iconst 0, 1) := by decide +kernel
theorem dX3_start_65 : decode cX3_start 65 = .ok (.putfield 39, 3) := by decide +kernel
theorem dX3_start_68 : decode cX3_start 68 = .ok (.aload_n 0, 1) := by decide +kernel
theorem dX3_start_69 : decode cX3_start 69 = .ok (.iconst 0, 1) := by decide +kernel
theorem dX3_start_70 : decode cX3_start 70 = .ok (.putfield 43, 3) := by decide +kernel
theorem dX3_start_73 : decode cX3_start 73 = .ok (.aload_n 0, 1) := by decide +kernel
theorem dX3_start_74 : decode cX3_start 74 = .ok (.iconst (-1), 1) := by decide +kernel
theorem dX3_start_75 : decode cX3_start 75 = .ok (.putfield 46, 3) := by decide +kernel
theorem dX3_start_78 : decode cX3_start 78 = .ok (.return_, 1) := by decide +kernel
theorem dX3_copy_0 : decode cX3_copy 0 = .ok (.aload_n 1, 1) := by decide +kernel
theorem dX3_copy_1 : decode cX3_copy 1 = .ok (.getfield 9, 3) := by decide +kernel
theorem dX3_copy_4 : decode cX3_copy 4 = .ok (.iconst 0, 1) := by decide +kernel
theorem dX3_copy_5 : decode cX3_copy 5 = .ok (.aload_n 0, 1) := by decide +kernel
theorem dX3_copy_6 : decode cX3_copy 6 = .ok (.getfield 9, 3) := by decide +kernel
theorem dX3_copy_9 : decode cX3_copy 9 = .ok (.iconst 0, 1) := by decide +kernel
theorem dX3_copy_10 : decode cX3_copy 10 = .ok (.bipush 12, 2) := by decide +kernel
theorem tw_565 : (Jvm.Cond.methodLink "MarshBells$Held" (72 : Nat) ({ cls := "java/lang/System", name := "arraycopy", desc := "(Ljava/lang/Object;ILjava/lang/Object;II)V" } : Jvm.MethodName)) ∈ lw_tbl := tk_3 (List.mem_of_getElem? (i := 85) rfl)
theorem lc_X3_72 : kLC RX3 72 := ⟨tw_565, tw_567, tw_566, tw_24⟩
theorem dX3_copy_12 : decode cX3_copy 12 = .ok (.invokestatic 72, 3) := by decide +kernel
theorem dX3_copy_15 : decode cX3_copy 15 = .ok (.aload_n 1, 1) := by decide +kernel
theorem dX3_copy_16 : decode cX3_copy 16 = .ok (.getfield 15, 3) := by decide +kernel
theorem dX3_copy_19 : decode cX3_copy 19 = .ok (.iconst 0, 1) := by decide +kernel
theorem dX3_copy_20 : decode cX3_copy 20 = .ok (.aload_n 0, 1) := by decide +kernel
theorem dX3_copy_21 : decode cX3_copy 21 = .ok (.getfield 15, 3) := by decide +kernel
theorem dX3_copy_24 : decode cX3_copy 24 = .ok (.iconst 0, 1) := by decide +kernel
theorem dX3_copy_25 : decode cX3_copy 25 = .ok (.bipush 12, 2) := by decide +kernel
theorem dX3_copy_27 : decode cX3_copy 27 = .ok (.invokestatic 72, 3) := by decide +kernel
theorem dX3_copy_30 : decode cX3_copy 30 = .ok (.aload_n 1, 1) := by decide +kernel
theorem dX3_copy_31 : decode cX3_copy 31 = .ok (.getfield 18, 3) := by decide +kernel
theorem dX3_copy_34 : decode cX3_copy 34 = .ok (.iconst 0, 1) := by decide +kernel
theorem dX3_copy_35 : decode cX3_copy 35 = .ok (.aload_n 0, 1) := by decide +kernel
theorem dX3_copy_36 : decode cX3_copy 36 = .ok (.getfield 18, 3) := by decide +kernel
theorem dX3_copy_39 : decode cX3_copy 39 = .ok (.iconst 0, 1) := by decide +kernel
theorem dX3_copy_40 : decode cX3_copy 40 = .ok (.bipush 12, 2) := by decide +kernel
theorem dX3_copy_42 : decode cX3_copy 42 = .ok (.invokestatic 72, 3) := by decide +kernel
theorem dX3_copy_45 : decode cX3_copy 45 = .ok (.aload_n 1, 1) := by decide +kernel
theorem dX3_copy_46 : decode cX3_copy 46 = .ok (.getfield 21, 3) := by decide +kernel
theorem dX3_copy_49 : decode cX3_copy 49 = .ok (.iconst 0, 1) := by decide +kernel
theorem dX3_copy_50 : decode cX3_copy 50 = .ok (.aload_n 0, 1) := by decide +kernel
theorem dX3_copy_51 : decode cX3_copy 51 = .ok (.getfield 21, 3) := by decide +kernel
theorem dX3_copy_54 : decode cX3_copy 54 = .ok (.iconst 0, 1) := by decide +kernel
theorem dX3_copy_55 : decode cX3_copy 55 = .ok (.bipush 12, 2) := by decide +kernel
theorem dX3_copy_57 : decode cX3_copy 57 = .ok (.invokestatic 72, 3) := by decide +kernel
theorem dX3_copy_60 : decode cX3_copy 60 = .ok (.aload_n 1, 1) := by decide +kernel
theorem dX3_copy_61 : decode cX3_copy 61 = .ok (.getfield 24, 3) := by decide +kernel
theorem dX3_copy_64 : decode cX3_copy 64 = .ok (.iconst 0, 1) := by decide +kernel
theorem dX3_copy_65 : decode cX3_copy 65 = .ok (.aload_n 0, 1) := by decide +kernel
theorem dX3_copy_66 : decode cX3_copy 66 = .ok (.getfield 24, 3) := by decide +kernel
theorem dX3_copy_69 : decode cX3_copy 69 = .ok (.iconst 0, 1) := by decide +kernel
theorem dX3_copy_70 : decode cX3_copy 70 = .ok (.bipush 40, 2) := by decide +kernel
theorem dX3_copy_72 : decode cX3_copy 72 = .ok (.invokestatic 72, 3) := by decide +kernel
theorem dX3_copy_75 : decode cX3_copy 75 = .ok (.aload_n 1, 1) := by decide +kernel
theorem dX3_copy_76 : decode cX3_copy 76 = .ok (.getfield 27, 3) := by decide +kernel
theorem dX3_copy_79 : decode cX3_copy 79 = .ok (.iconst 0, 1) := by decide +kernel
theorem dX3_copy_80 : decode cX3_copy 80 = .ok (.aload_n 0, 1) := by decide +kernel
theorem dX3_copy_81 : decode cX3_copy 81 = .ok (.getfield 27, 3) := by decide +kernel
theorem dX3_copy_84 : decode cX3_copy 84 = .ok (.iconst 0, 1) := by decide +kernel
theorem dX3_copy_85 : decode cX3_copy 85 = .ok (.bipush 40, 2) := by decide +kernel
theorem dX3_copy_87 : decode cX3_copy 87 = .ok (.invokestatic 72, 3) := by decide +kernel
theorem dX3_copy_90 : decode cX3_copy 90 = .ok (.aload_n 1, 1) := by decide +kernel
theorem dX3_copy_91 : decode cX3_copy 91 = .ok (.getfield 30, 3) := by decide +kernel
theorem dX3_copy_94 : decode cX3_copy 94 = .ok (.iconst 0, 1) := by decide +kernel
theorem dX3_copy_95 : decode cX3_copy 95 = .ok (.aload_n 0, 1) := by decide +kernel
theorem dX3_copy_96 : decode cX3_copy 96 = .ok (.getfield 30, 3) := by decide +kernel
theorem dX3_copy_99 : decode cX3_copy 99 = .ok (.iconst 0, 1) := by decide +kernel
theorem dX3_copy_100 : decode cX3_copy 100 = .ok (.bipush 40, 2) := by decide +kernel
theorem dX3_copy_102 : decode cX3_copy 102 = .ok (.invokestatic 72, 3) := by decide +kernel
theorem dX3_copy_105 : decode cX3_copy 105 = .ok (.aload_n 1, 1) := by decide +kernel
theorem dX3_copy_106 : decode cX3_copy 106 = .ok (.getfield 33, 3) := by decide +kernel
theorem dX3_copy_109 : decode cX3_copy 109 = .ok (.iconst 0, 1) := by decide +kernel
theorem dX3_copy_110 : decode cX3_copy 110 = .ok (.aload_n 0, 1) := by decide +kernel
theorem dX3_copy_111 : decode cX3_copy 111 = .ok (.getfield 33, 3) := by decide +kernel
theorem dX3_copy_114 : decode cX3_copy 114 = .ok (.iconst 0, 1) := by decide +kernel
theorem dX3_copy_115 : decode cX3_copy 115 = .ok (.bipush 8, 2) := by decide +kernel
theorem dX3_copy_117 : decode cX3_copy 117 = .ok (.invokestatic 72, 3) := by decide +kernel
theorem dX3_copy_120 : decode cX3_copy 120 = .ok (.aload_n 1, 1) := by decide +kernel
theorem dX3_copy_121 : decode cX3_copy 121 = .ok (.getfield 36, 3) := by decide +kernel
theorem dX3_copy_124 : decode cX3_copy 124 = .ok (.iconst 0, 1) := by decide +kernel
theorem dX3_copy_125 : decode cX3_copy 125 = .ok (.aload_n 0, 1) := by decide +kernel
theorem dX3_copy_126 : decode cX3_copy 126 = .ok (.getfield 36, 3) := by decide +kernel
theorem dX3_copy_129 : decode cX3_copy 129 = .ok (.iconst 0, 1) := by decide +kernel
theorem dX3_copy_130 : decode cX3_copy 130 = .ok (.bipush 8, 2) := by decide +kernel
theorem dX3_copy_132 : decode cX3_copy 132 = .ok (.invokestatic 72, 3) := by decide +kernel
theorem dX3_copy_135 : decode cX3_copy 135 = .ok (.aload_n 0, 1) := by decide +kernel
theorem dX3_copy_136 : decode cX3_copy 136 = .ok (.aload_n 1, 1) := by decide +kernel
theorem dX3_copy_137 : decode cX3_copy 137 = .ok (.getfield 39, 3) := by decide +kernel
theorem dX3_copy_140 : decode cX3_copy 140 = .ok (.putfield 39, 3) := by decide +kernel
theorem dX3_copy_143 : decode cX3_copy 143 = .ok (.aload_n 0, 1) := by decide +kernel
theorem dX3_copy_144 : decode cX3_copy 144 = .ok (.aload_n 1, 1) := by decide +kernel
theorem dX3_copy_145 : decode cX3_copy 145 = .ok (.getfield 43, 3) := by decide +kernel
theorem dX3_copy_148 : decode cX3_copy 148 = .ok (.putfield 43, 3) := by decide +kernel
theorem dX3_copy_151 : decode cX3_copy 151 = .ok (.aload_n 0, 1) := by decide +kernel
theorem dX3_copy_152 : decode cX3_copy 152 = .ok (.aload_n 1, 1) := by decide +kernel
theorem dX3_copy_153 : decode cX3_copy 153 = .ok (.getfield 46, 3) := by decide +kernel
theorem dX3_copy_156 : decode cX3_copy 156 = .ok (.putfield 46, 3) := by decide +kernel
theorem dX3_copy_159 : decode cX3_copy 159 = .ok (.return_, 1) := by decide +kernel
theorem dX8_clear_0 : decode cX8_clear 0 = .ok (.aload_n 0, 1) := by decide +kernel
theorem dX8_clear_1 : decode cX8_clear 1 = .ok (.iconst 0, 1) := by decide +kernel
theorem tw_51 : (Jvm.Cond.fieldLink "MarshBells$Rules" (21 : Nat) "MarshBells$Rules" "size" "I") ∈ lw_tbl := tk_1 (List.mem_of_getElem? (i := 51) rfl)
theorem fl_X8_21 : kFL RX8 21 8 5 3 := ⟨RX8, TX8, rfl, by decide, inWX8, tw_51⟩
theorem ft_X8_3 : kFT 8 3 .int false RX8 := ⟨RX8, TX8, 5, tyX8, rfl, tyX8_ok, nmX8, rfl, by decide +kernel, rfl⟩
theorem dX8_clear_2 : decode cX8_clear 2 = .ok (.putfield 21, 3) := by decide +kernel
theorem dX8_clear_5 : decode cX8_clear 5 = .ok (.aload_n 0, 1) := by decide +kernel
theorem dX8_clear_6 : decode cX8_clear 6 = .ok (.iconst 0, 1) := by decide +kernel
theorem tw_55 : (Jvm.Cond.fieldLink "MarshBells$Rules" (25 : Nat) "MarshBells$Rules" "used" "I") ∈ lw_tbl := tk_1 (List.mem_of_getElem? (i := 55) rfl)
theorem fl_X8_25 : kFL RX8 25 8 5 4 := ⟨RX8, TX8, rfl, by decide, inWX8, tw_55⟩
theorem ft_X8_4 : kFT 8 4 .int false RX8 := ⟨RX8, TX8, 5, tyX8, rfl, tyX8_ok, nmX8, rfl, by decide +kernel, rfl⟩
theorem dX8_clear_7 : decode cX8_clear 7 = .ok (.putfield 25, 3) := by decide +kernel
theorem dX8_clear_10 : decode cX8_clear 10 = .ok (.return_, 1) := by decide +kernel
theorem dX7_clear_0 : decode cX7_clear 0 = .ok (.aload_n 0, 1) := by decide +kernel
theorem dX7_clear_1 : decode cX7_clear 1 = .ok (.getfield 20, 3) := by decide +kernel
theorem tw_807 : (Jvm.Cond.methodLinkNest "MarshBells$Plan" (32 : Nat) ({ cls := "MarshBells$Rules", name := "clear", desc := "()V" } : Jvm.MethodName) "MarshBells") ∈ lw_tbl := tk_4 (List.mem_of_getElem? (i := 87) rfl)
theorem tw_810 : (Jvm.Cond.code ({ cls := "MarshBells$Rules", name := "clear", desc := "()V" } : Jvm.MethodName) prog_10_method_2_code (1 : Nat) (Option.none : Option Jvm.ClassFile.FieldType)) ∈ lw_tbl := tk_4 (List.mem_of_getElem? (i := 90) rfl)
theorem tw_809 : (Jvm.Cond.instanceMethod ({ cls := "MarshBells$Rules", name := "clear", desc := "()V" } : Jvm.MethodName)) ∈ lw_tbl := tk_4 (List.mem_of_getElem? (i := 89) rfl)
theorem se_X8_clear : Cond.selects RX8 yX8_clear yX8_clear ∈ lw_tbl := List.mem_append_left _ (List.mem_of_getElem? (i := 35) rfl)
theorem li_X7_32 : kLN RX7 32 RX8 yX8_clear "MarshBells" cX8_clear 1 none 0 := ⟨tw_807, tw_809, se_X8_clear, tw_810, tw_3, by decide +kernel⟩
theorem dX7_clear_4 : decode cX7_clear 4 = .ok (.invokevirtual 32, 3) := by decide +kernel
theorem dX7_clear_7 : decode cX7_clear 7 = .ok (.aload_n 0, 1) := by decide +kernel
theorem dX7_clear_8 : decode cX7_clear 8 = .ok (.iconst 0, 1) := by decide +kernel
theorem tw_164 : (Jvm.Cond.fieldLink "MarshBells$Plan" (35 : Nat) "MarshBells$Plan" "lessonCount" "I") ∈ lw_tbl := tk_1 (List.mem_of_getElem? (i := 164) rfl)
theorem fl_X7_35 : kFL RX7 35 7 5 2 := ⟨RX7, TX7, rfl, by decide, inWX7, tw_164⟩
theorem ft_X7_2 : kFT 7 2 .int false RX7 := ⟨RX7, TX7, 5, tyX7, rfl, tyX7_ok, nmX7, rfl, by decide +kernel, rfl⟩
theorem dX7_clear_9 : decode cX7_clear 9 = .ok (.putfield 35, 3) := by decide +kernel
theorem dX7_clear_12 : decode cX7_clear 12 = .ok (.aload_n 0, 1) := by decide +kernel
theorem dX7_clear_13 : decode cX7_clear 13 = .ok (.iconst 1, 1) := by decide +kernel
theorem dX7_clear_14 : decode cX7_clear 14 = .ok (.putfield 25, 3) := by decide +kernel
theorem dX7_clear_17 : decode cX7_clear 17 = .ok (.aload_n 0, 1) := by decide +kernel
theorem dX7_clear_18 : decode cX7_clear 18 = .ok (.bipush 99, 2) := by decide +kernel
theorem dX7_clear_20 : decode cX7_clear 20 = .ok (.putfield 29, 3) := by decide +kernel
theorem dX7_clear_23 : decode cX7_clear 23 = .ok (.return_, 1) := by decide +kernel
theorem dX6_advance_0 : decode cX6_advance 0 = .ok (.aload_n 0, 1) := by decide +kernel
theorem tw_198 : (Jvm.Cond.fieldLink "MarshBells$Parser" (50 : Nat) "MarshBells$Parser" "kind" "I") ∈ lw_tbl := tk_1 (List.mem_of_getElem? (i := 198) rfl)
theorem fl_X6_50 : kFL RX6 50 6 11 4 := ⟨RX6, TX6, rfl, by decide, inWX6, tw_198⟩
theorem dX6_advance_1 : decode cX6_advance 1 = .ok (.getfield 50, 3) := by decide +kernel
theorem dX6_advance_4 : decode cX6_advance 4 = .ok (.iconst 5, 1) := by decide +kernel
theorem dX6_advance_5 : decode cX6_advance 5 = .ok (.if_icmp .ne 4, 3) := by decide +kernel
theorem dX6_advance_9 : decode cX6_advance 9 = .ok (.aload_n 0, 1) := by decide +kernel
theorem tw_197 : (Jvm.Cond.fieldLink "MarshBells$Parser" (34 : Nat) "MarshBells$Parser" "next" "I") ∈ lw_tbl := tk_1 (List.mem_of_getElem? (i := 197) rfl)
theorem fl_X6_34 : kFL RX6 34 6 11 3 := ⟨RX6, TX6, rfl, by decide, inWX6, tw_197⟩
theorem dX6_advance_10 : decode cX6_advance 10 = .ok (.getfield 34, 3) := by decide +kernel
theorem dX6_advance_13 : decode cX6_advance 13 = .ok (.aload_n 0, 1) := by decide +kernel
theorem tw_196 : (Jvm.Cond.fieldLink "MarshBells$Parser" (30 : Nat) "MarshBells$Parser" "length" "I") ∈ lw_tbl := tk_1 (List.mem_of_getElem? (i := 196) rfl)
theorem fl_X6_30 : kFL RX6 30 6 11 2 := ⟨RX6, TX6, rfl, by decide, inWX6, tw_196⟩
theorem dX6_advance_14 : decode cX6_advance 14 = .ok (.getfield 30, 3) := by decide +kernel
theorem dX6_advance_17 : decode cX6_advance 17 = .ok (.if_icmp .ge 44, 3) := by decide +kernel
theorem dX6_advance_61 : decode cX6_advance 61 = .ok (.aload_n 0, 1) := by decide +kernel
theorem dX6_advance_62 : decode cX6_advance 62 = .ok (.aload_n 0, 1) := by decide +kernel
theorem dX6_advance_63 : decode cX6_advance 63 = .ok (.getfield 34, 3) := by decide +kernel
theorem tw_199 : (Jvm.Cond.fieldLink "MarshBells$Parser" (59 : Nat) "MarshBells$Parser" "place" "I") ∈ lw_tbl := tk_1 (List.mem_of_getElem? (i := 199) rfl)
theorem fl_X6_59 : kFL RX6 59 6 11 5 := ⟨RX6, TX6, rfl, by decide, inWX6, tw_199⟩
theorem ft_X6_5 : kFT 6 5 .int false RX6 := ⟨RX6, TX6, 11, tyX6, rfl, tyX6_ok, nmX6, rfl, by decide +kernel, rfl⟩
theorem dX6_advance_66 : decode cX6_advance 66 = .ok (.putfield 59, 3) := by decide +kernel
theorem dX6_advance_69 : decode cX6_advance 69 = .ok (.aload_n 0, 1) := by decide +kernel
theorem dX6_advance_70 : decode cX6_advance 70 = .ok (.iconst 0, 1) := by decide +kernel
theorem tw_200 : (Jvm.Cond.fieldLink "MarshBells$Parser" (62 : Nat) "MarshBells$Parser" "number" "I") ∈ lw_tbl := tk_1 (List.mem_of_getElem? (i := 200) rfl)
theorem fl_X6_62 : kFL RX6 62 6 11 6 := ⟨RX6, TX6, rfl, by decide, inWX6, tw_200⟩
theorem ft_X6_6 : kFT 6 6 .int false RX6 := ⟨RX6, TX6, 11, tyX6, rfl, tyX6_ok, nmX6, rfl, by decide +kernel, rfl⟩
theorem dX6_advance_71 : decode cX6_advance 71 = .ok (.putfield 62, 3) := by decide +kernel
theorem dX6_advance_74 : decode cX6_advance 74 = .ok (.aload_n 0, 1) := by decide +kernel
theorem dX6_advance_75 : decode cX6_advance 75 = .ok (.getfield 34, 3) := by decide +kernel
theorem dX6_advance_78 : decode cX6_advance 78 = .ok (.aload_n 0, 1) := by decide +kernel
theorem dX6_advance_79 : decode cX6_advance 79 = .ok (.getfield 30, 3) := by decide +kernel
theorem dX6_advance_82 : decode cX6_advance 82 = .ok (.if_icmp .lt 9, 3) := by decide +kernel
theorem dX6_advance_85 : decode cX6_advance 85 = .ok (.aload_n 0, 1) := by decide +kernel
theorem dX6_advance_86 : decode cX6_advance 86 = .ok (.iconst 0, 1) := by decide +kernel
theorem ft_X6_4 : kFT 6 4 .int false RX6 := ⟨RX6, TX6, 11, tyX6, rfl, tyX6_ok, nmX6, rfl, by decide +kernel, rfl⟩
theorem dX6_advance_87 : decode cX6_advance 87 = .ok (.putfield 50, 3) := by decide +kernel
theorem dX6_advance_90 : decode cX6_advance 90 = .ok (.return_, 1) := by decide +kernel
theorem dX6_read_0 : decode cX6_read 0 = .ok (.aload_n 0, 1) := by decide +kernel
theorem dX6_read_1 : decode cX6_read 1 = .ok (.aload_n 2, 1) := by decide +kernel
theorem dX6_read_2 : decode cX6_read 2 = .ok (.putfield 15, 3) := by decide +kernel
theorem dX6_read_5 : decode cX6_read 5 = .ok (.aload_n 0, 1) := by decide +kernel
theorem dX6_read_6 : decode cX6_read 6 = .ok (.getfield 15, 3) := by decide +kernel
theorem tw_803 : (Jvm.Cond.methodLinkNest "MarshBells$Parser" (19 : Nat) ({ cls := "MarshBells$Plan", name := "clear", desc := "()V" } : Jvm.MethodName) "MarshBells") ∈ lw_tbl := tk_4 (List.mem_of_getElem? (i := 83) rfl)
theorem tw_806 : (Jvm.Cond.code ({ cls := "MarshBells$Plan", name := "clear", desc := "()V" } : Jvm.MethodName) prog_9_method_2_code (1 : Nat) (Option.none : Option Jvm.ClassFile.FieldType)) ∈ lw_tbl := tk_4 (List.mem_of_getElem? (i := 86) rfl)
theorem tw_805 : (Jvm.Cond.instanceMethod ({ cls := "MarshBells$Plan", name := "clear", desc := "()V" } : Jvm.MethodName)) ∈ lw_tbl := tk_4 (List.mem_of_getElem? (i := 85) rfl)
theorem se_X7_clear : Cond.selects RX7 yX7_clear yX7_clear ∈ lw_tbl := List.mem_append_left _ (List.mem_of_getElem? (i := 34) rfl)
theorem li_X6_19 : kLN RX6 19 RX7 yX7_clear "MarshBells" cX7_clear 1 none 0 := ⟨tw_803, tw_805, se_X7_clear, tw_806, tw_2, by decide +kernel⟩
theorem dX6_read_9 : decode cX6_read 9 = .ok (.invokevirtual 19, 3) := by decide +kernel
theorem dX6_read_12 : decode cX6_read 12 = .ok (.aload_n 0, 1) := by decide +kernel
theorem dX6_read_13 : decode cX6_read 13 = .ok (.iload_n 1, 1) := by decide +kernel
theorem dX6_read_14 : decode cX6_read 14 = .ok (.aload_n 0, 1) := by decide +kernel
theorem dX6_read_15 : decode cX6_read 15 = .ok (.getfield 9, 3) := by decide +kernel
theorem dX6_read_18 : decode cX6_read 18 = .ok (.arraylength, 1) := by decide +kernel
theorem tw_811 : (Jvm.Cond.methodLink "MarshBells$Parser" (24 : Nat) ({ cls := "java/lang/Math", name := "min", desc := "(II)I" } : Jvm.MethodName)) ∈ lw_tbl := tk_4 (List.mem_of_getElem? (i := 91) rfl)
theorem tw_650 : (Jvm.Cond.static ({ cls := "java/lang/Math", name := "min", desc := "(II)I" } : Jvm.MethodName)) ∈ lw_tbl := tk_3 (List.mem_of_getElem? (i := 170) rfl)
theorem tw_18 : (Jvm.Cond.initialized "java/lang/Math") ∈ lw_tbl := tk_1 (List.mem_of_getElem? (i := 18) rfl)
theorem tw_651 : (Jvm.Cond.code ({ cls := "java/lang/Math", name := "min", desc := "(II)I" } : Jvm.MethodName) prog_21_method_69_code (2 : Nat) (Option.some Jvm.ClassFile.FieldType.int)) ∈ lw_tbl := tk_3 (List.mem_of_getElem? (i := 171) rfl)
theorem lm_X6_24 : kLM RX6 24 Lib.Math.min.name Lib.Math.min.code := ⟨tw_811, tw_650, tw_18, tw_651⟩
theorem dX6_read_19 : decode cX6_read 19 = .ok (.invokestatic 24, 3) := by decide +kernel
theorem ft_X6_2 : kFT 6 2 .int false RX6 := ⟨RX6, TX6, 11, tyX6, rfl, tyX6_ok, nmX6, rfl, by decide +kernel, rfl⟩
theorem dX6_read_22 : decode cX6_read 22 = .ok (.putfield 30, 3) := by decide +kernel
theorem dX6_read_25 : decode cX6_read 25 = .ok (.aload_n 0, 1) := by decide +kernel
theorem dX6_read_26 : decode cX6_read 26 = .ok (.iconst 0, 1) := by decide +kernel
theorem ft_X6_3 : kFT 6 3 .int false RX6 := ⟨RX6, TX6, 11, tyX6, rfl, tyX6_ok, nmX6, rfl, by decide +kernel, rfl⟩
theorem dX6_read_27 : decode cX6_read 27 = .ok (.putfield 34, 3) := by decide +kernel
theorem dX6_read_30 : decode cX6_read 30 = .ok (.aload_n 0, 1) := by decide +kernel
theorem dX6_read_31 : decode cX6_read 31 = .ok (.iconst 0, 1) := by decide +kernel
theorem tw_201 : (Jvm.Cond.fieldLink "MarshBells$Parser" (37 : Nat) "MarshBells$Parser" "fault" "I") ∈ lw_tbl := tk_1 (List.mem_of_getElem? (i := 201) rfl)
theorem fl_X6_37 : kFL RX6 37 6 11 7 := ⟨RX6, TX6, rfl, by decide, inWX6, tw_201⟩
theorem ft_X6_7 : kFT 6 7 .int false RX6 := ⟨RX6, TX6, 11, tyX6, rfl, tyX6_ok, nmX6, rfl, by decide +kernel, rfl⟩
theorem dX6_read_32 : decode cX6_read 32 = .ok (.putfield 37, 3) := by decide +kernel
theorem dX6_read_35 : decode cX6_read 35 = .ok (.aload_n 0, 1) := by decide +kernel
theorem dX6_read_36 : decode cX6_read 36 = .ok (.iconst (-1), 1) := by decide +kernel
theorem tw_203 : (Jvm.Cond.fieldLink "MarshBells$Parser" (40 : Nat) "MarshBells$Parser" "faultPlace" "I") ∈ lw_tbl := tk_1 (List.mem_of_getElem? (i := 203) rfl)
theorem fl_X6_40 : kFL RX6 40 6 11 8 := ⟨RX6, TX6, rfl, by decide, inWX6, tw_203⟩
theorem ft_X6_8 : kFT 6 8 .int false RX6 := ⟨RX6, TX6, 11, tyX6, rfl, tyX6_ok, nmX6, rfl, by decide +kernel, rfl⟩
theorem dX6_read_37 : decode cX6_read 37 = .ok (.putfield 40, 3) := by decide +kernel
theorem dX6_read_40 : decode cX6_read 40 = .ok (.aload_n 0, 1) := by decide +kernel
theorem dX6_read_41 : decode cX6_read 41 = .ok (.iconst 0, 1) := by decide +kernel
theorem tw_205 : (Jvm.Cond.fieldLink "MarshBells$Parser" (43 : Nat) "MarshBells$Parser" "walkTold" "Z") ∈ lw_tbl := tk_1 (List.mem_of_getElem? (i := 205) rfl)
theorem fl_X6_43 : kFL RX6 43 6 11 9 := ⟨RX6, TX6, rfl, by decide, inWX6, tw_205⟩
theorem ft_X6_9 : kFT 6 9 .boolean false RX6 := ⟨RX6, TX6, 11, tyX6, rfl, tyX6_ok, nmX6, rfl, by decide +kernel, rfl⟩
theorem dX6_read_42 : decode cX6_read 42 = .ok (.putfield 43, 3) := by decide +kernel
theorem dX6_read_45 : decode cX6_read 45 = .ok (.aload_n 0, 1) := by decide +kernel
theorem dX6_read_46 : decode cX6_read 46 = .ok (.iconst 0, 1) := by decide +kernel
theorem tw_206 : (Jvm.Cond.fieldLink "MarshBells$Parser" (47 : Nat) "MarshBells$Parser" "stairTold" "Z") ∈ lw_tbl := tk_1 (List.mem_of_getElem? (i := 206) rfl)
theorem fl_X6_47 : kFL RX6 47 6 11 10 := ⟨RX6, TX6, rfl, by decide, inWX6, tw_206⟩
theorem ft_X6_10 : kFT 6 10 .boolean false RX6 := ⟨RX6, TX6, 11, tyX6, rfl, tyX6_ok, nmX6, rfl, by decide +kernel, rfl⟩
theorem dX6_read_47 : decode cX6_read 47 = .ok (.putfield 47, 3) := by decide +kernel
theorem dX6_read_50 : decode cX6_read 50 = .ok (.aload_n 0, 1) := by decide +kernel
theorem dX6_read_51 : decode cX6_read 51 = .ok (.iconst 0, 1) := by decide +kernel
theorem dX6_read_52 : decode cX6_read 52 = .ok (.putfield 50, 3) := by decide +kernel
theorem dX6_read_55 : decode cX6_read 55 = .ok (.aload_n 0, 1) := by decide +kernel
theorem tw_812 : (Jvm.Cond.methodLink "MarshBells$Parser" (53 : Nat) ({ cls := "MarshBells$Parser", name := "advance", desc := "()V" } : Jvm.MethodName)) ∈ lw_tbl := tk_4 (List.mem_of_getElem? (i := 92) rfl)
theorem tw_815 : (Jvm.Cond.code ({ cls := "MarshBells$Parser", name := "advance", desc := "()V" } : Jvm.MethodName) prog_8_method_4_code (1 : Nat) (Option.none : Option Jvm.ClassFile.FieldType)) ∈ lw_tbl := tk_4 (List.mem_of_getElem? (i := 95) rfl)
theorem tw_814 : (Jvm.Cond.instanceMethod ({ cls := "MarshBells$Parser", name := "advance", desc := "()V" } : Jvm.MethodName)) ∈ lw_tbl := tk_4 (List.mem_of_getElem? (i := 94) rfl)
theorem se_X6_advance : Cond.selects RX6 yX6_advance yX6_advance ∈ lw_tbl := List.mem_append_left _ (List.mem_of_getElem? (i := 36) rfl)
theorem li_X6_53 : kLV RX6 53 RX6 yX6_advance cX6_advance 1 none 0 := ⟨tw_812, tw_814, se_X6_advance, tw_815, tw_5, by decide +kernel⟩
theorem dX6_read_56 : decode cX6_read 56 = .ok (.invokevirtual 53, 3) := by decide +kernel
theorem dX6_read_59 : decode cX6_read 59 = .ok (.iconst 0, 1) := by decide +kernel
theorem dX6_read_60 : decode cX6_read 60 = .ok (.istore_n 3, 1) := by decide +kernel
theorem dX6_read_61 : decode cX6_read 61 = .ok (.iload_n 3, 1) := by decide +kernel
theorem dX6_read_62 : decode cX6_read 62 = .ok (.sipush 700, 3) := by decide +kernel
theorem dX6_read_65 : decode cX6_read 65 = .ok (.if_icmp .gt 28, 3) := by decide +kernel
theorem dX6_read_68 : decode cX6_read 68 = .ok (.aload_n 0, 1) := by decide +kernel
theorem dX6_read_69 : decode cX6_read 69 = .ok (.getfield 50, 3) := by decide +kernel
theorem dX6_read_72 : decode cX6_read 72 = .ok (.ifCond .eq 21, 3) := by decide +kernel
theorem dX6_read_93 : decode cX6_read 93 = .ok (.return_, 1) := by decide +kernel
set_option maxHeartbeats 4000000 in
set_option maxRecDepth 100000 in
theorem c_X11_needWhat (l : Launch) (hst : l.stackTraces = false) (G : kG) (sz : Nat) (n0 : Int32) (n1 : Int32) : kMX l yX11_needWhat cX11_needWhat 2 none { frames := 6, cells := 1, slots := 6, locals := 110 } G [.int n0, .int n1] [] sz (kQv G (S := Unit) (fun (_ : Unit) => ¬ n0 < 0 ∧ n0 < n1) (fun _ => [])) (kXC G (S := Nat) (fun E u => (u = 0 ∧ E = "java/util/NoSuchElementException" ∧ n0 < 0) ∨ (u = 1 ∧ E = "java/util/NoSuchElementException" ∧ ¬ n0 < 0 ∧ ¬ n0 < n1)) (fun u => match u with | 0 => [] | _ => [])) := by
  refine kMX.of (by decide) (Nat.le_of_ble_eq_true rfl) ?_
  intro p e s m below meth c A ls H C hr hlk hno hP hD hS hl
  have C : kC G p s m c cX11_needWhat 2 RX11 A := C
  have hx := C.1
  have hb := C.2.1
  have hl : lv_has ls 2 [(0, .int n0), (1, .int n1)] := hl
  refine lv_iload_n hx hb dX11_needWhat_0 rfl (lv_at hl 0 rfl) ?_
  refine lv_if_lt (x := n0) (tgt := 9) hx hb dX11_needWhat_1 (by decide) (fun c_1 => ?_) (fun c_1 => ?_)
  ·
    exact k_throw hst ⟨by decide +kernel, by decide +kernel⟩ th_X11_219_221 hno hlk C hl.1 hP hD hS dX11_needWhat_9 dX11_needWhat_12 dX11_needWhat_13 dX11_needWhat_16 (Nat.lt_of_lt_of_le (by decide) (Nat.le_of_ble_eq_true rfl : 6 ≤ _)) (Nat.le_of_ble_eq_true rfl) ⟨Nat.le_of_ble_eq_true rfl, Nat.le_of_ble_eq_true rfl⟩ 0 (Or.inl ⟨rfl, rfl, c_1⟩) [] rfl rfl (Nat.le_of_ble_eq_true rfl) (Nat.le_of_ble_eq_true rfl)
  ·
    refine lv_iload_n hx hb dX11_needWhat_4 rfl (lv_at hl 0 rfl) ?_
    refine lv_iload_n hx hb dX11_needWhat_5 rfl (lv_at hl 1 rfl) ?_
    refine lv_icmp_lt (x := n0) (y := n1) (tgt := 17) hx hb dX11_needWhat_6 (by decide) (fun c_2 => ?_) (fun c_2 => ?_)
    ·
      exact vx_ret (k_vret C hr hlk hP hD hS () (⟨c_1, c_2⟩) [] rfl rfl (Nat.le_of_ble_eq_true rfl) (Nat.le_of_ble_eq_true rfl) dX11_needWhat_17)
    ·
      exact k_throw hst ⟨by decide +kernel, by decide +kernel⟩ th_X11_219_221 hno hlk C hl.1 hP hD hS dX11_needWhat_9 dX11_needWhat_12 dX11_needWhat_13 dX11_needWhat_16 (Nat.lt_of_lt_of_le (by decide) (Nat.le_of_ble_eq_true rfl : 6 ≤ _)) (Nat.le_of_ble_eq_true rfl) ⟨Nat.le_of_ble_eq_true rfl, Nat.le_of_ble_eq_true rfl⟩ 1 (Or.inr (⟨rfl, rfl, c_1, c_2⟩)) [] rfl rfl (Nat.le_of_ble_eq_true rfl) (Nat.le_of_ble_eq_true rfl)
set_option maxHeartbeats 4000000 in
set_option maxRecDepth 100000 in
theorem c_X11_needWithin (l : Launch) (hst : l.stackTraces = false) (G : kG) (sz : Nat) (n0 : Int32) (n1 : Int32) (n2 : Int32) : kMX l yX11_needWithin cX11_needWithin 3 none { frames := 6, cells := 1, slots := 6, locals := 110 } G [.int n0, .int n1, .int n2] [] sz (kQv G (S := Unit) (fun (_ : Unit) => ¬ n0 < n1 ∧ n0 ≤ n2) (fun _ => [])) (kXC G (S := Nat) (fun E u => (u = 0 ∧ E = "java/lang/IllegalArgumentException" ∧ n0 < n1) ∨ (u = 1 ∧ E = "java/lang/IllegalArgumentException" ∧ ¬ n0 < n1 ∧ ¬ n0 ≤ n2)) (fun u => match u with | 0 => [] | _ => [])) := by
  refine kMX.of (by decide) (Nat.le_of_ble_eq_true rfl) ?_
  intro p e s m below meth c A ls H C hr hlk hno hP hD hS hl
  have C : kC G p s m c cX11_needWithin 3 RX11 A := C
  have hx := C.1
  have hb := C.2.1
  have hl : lv_has ls 3 [(0, .int n0), (1, .int n1), (2, .int n2)] := hl
  refine lv_iload_n hx hb dX11_needWithin_0 rfl (lv_at hl 0 rfl) ?_
  refine lv_iload_n hx hb dX11_needWithin_1 rfl (lv_at hl 1 rfl) ?_
  refine lv_icmp_lt (x := n0) (y := n1) (tgt := 10) hx hb dX11_needWithin_2 (by decide) (fun c_1 => ?_) (fun c_1 => ?_)
  ·
    exact k_throw hst ⟨by decide +kernel, by decide +kernel⟩ th_X11_105_107 hno hlk C hl.1 hP hD hS dX11_needWithin_10 dX11_needWithin_13 dX11_needWithin_14 dX11_needWithin_17 (Nat.lt_of_lt_of_le (by decide) (Nat.le_of_ble_eq_true rfl : 6 ≤ _)) (Nat.le_of_ble_eq_true rfl) ⟨Nat.le_of_ble_eq_true rfl, Nat.le_of_ble_eq_true rfl⟩ 0 (Or.inl ⟨rfl, rfl, c_1⟩) [] rfl rfl (Nat.le_of_ble_eq_true rfl) (Nat.le_of_ble_eq_true rfl)
  ·
    refine lv_iload_n hx hb dX11_needWithin_5 rfl (lv_at hl 0 rfl) ?_
    refine lv_iload_n hx hb dX11_needWithin_6 rfl (lv_at hl 2 rfl) ?_
    refine lv_icmp_le (x := n0) (y := n2) (tgt := 18) hx hb dX11_needWithin_7 (by decide) (fun c_2 => ?_) (fun c_2 => ?_)
    ·
      exact vx_ret (k_vret C hr hlk hP hD hS () (⟨c_1, c_2⟩) [] rfl rfl (Nat.le_of_ble_eq_true rfl) (Nat.le_of_ble_eq_true rfl) dX11_needWithin_18)
    ·
      exact k_throw hst ⟨by decide +kernel, by decide +kernel⟩ th_X11_105_107 hno hlk C hl.1 hP hD hS dX11_needWithin_10 dX11_needWithin_13 dX11_needWithin_14 dX11_needWithin_17 (Nat.lt_of_lt_of_le (by decide) (Nat.le_of_ble_eq_true rfl : 6 ≤ _)) (Nat.le_of_ble_eq_true rfl) ⟨Nat.le_of_ble_eq_true rfl, Nat.le_of_ble_eq_true rfl⟩ 1 (Or.inr (⟨rfl, rfl, c_1, c_2⟩)) [] rfl rfl (Nat.le_of_ble_eq_true rfl) (Nat.le_of_ble_eq_true rfl)
set_option maxHeartbeats 4000000 in
set_option maxRecDepth 100000 in
theorem c_X11_needLesson (l : Launch) (hst : l.stackTraces = false) (G : kG) (sz : Nat) (h0 : Nat) (n0 : Int32) (Fh0 : Nat → Value) (ap : Nat) (Fap : Nat → Value) (e_h0_3 : Fh0 3 = .ref ap) (e_ap_2 : Fap 2 = .int 0) : kMX l yX11_needLesson cX11_needLesson 2 none { frames := 6, cells := 1, slots := 6, locals := 110 } G [.ref h0, .int n0] [(h0, .inr (11, ofL 17 Fh0)), (ap, .inr (7, ofL 5 Fap))] sz (kQv G (S := Unit) (fun (_ : Unit) => False) (fun _ => [])) (kXC G (S := Nat) (fun E u => (u = 0 ∧ E = "java/util/NoSuchElementException" ∧ n0 < 0) ∨ (u = 1 ∧ E = "java/util/NoSuchElementException" ∧ ¬ n0 < 0)) (fun u => match u with | 0 => [(h0, .inr (11, ofL 17 Fh0)), (ap, .inr (7, ofL 5 Fap))] | _ => [(h0, .inr (11, ofL 17 Fh0)), (ap, .inr (7, ofL 5 Fap))])) := by
  refine kMX.of (by decide) (Nat.le_of_ble_eq_true rfl) ?_
  intro p e s m below meth c A ls H C hr hlk hno hP hD hS hl
  have C : kC G p s m c cX11_needLesson 2 RX11 A := C
  have hx := C.1
  have hb := C.2.1
  have hl : lv_has ls 2 [(0, .ref h0), (1, .int n0)] := hl
  refine lv_iload_n hx hb dX11_needLesson_0 rfl (lv_at hl 1 rfl) ?_
  refine lv_if_lt (x := n0) (tgt := 15) hx hb dX11_needLesson_1 (by decide) (fun c_1 => ?_) (fun c_1 => ?_)
  ·
    exact k_throw hst ⟨by decide +kernel, by decide +kernel⟩ th_X11_219_221 hno hlk C hl.1 hP hD hS dX11_needLesson_15 dX11_needLesson_18 dX11_needLesson_19 dX11_needLesson_22 (Nat.lt_of_lt_of_le (by decide) (Nat.le_of_ble_eq_true rfl : 6 ≤ _)) (Nat.le_of_ble_eq_true rfl) ⟨Nat.le_of_ble_eq_true rfl, Nat.le_of_ble_eq_true rfl⟩ 0 (Or.inl ⟨rfl, rfl, c_1⟩) [0, 1] rfl rfl (Nat.le_of_ble_eq_true rfl) (Nat.le_of_ble_eq_true rfl)
  ·
    refine lv_iload_n hx hb dX11_needLesson_4 rfl (lv_at hl 1 rfl) ?_
    refine lv_aload_n hx hb dX11_needLesson_5 rfl (lv_at hl 0 rfl) ?_
    refine k_get (v := .ref ap) fl_X11_22 C hP 0 rfl e_h0_3 dX11_needLesson_6 ?_
    refine k_getN (v := .int 0) fl_X11_125 C hP 1 rfl e_ap_2 dX11_needLesson_9 ?_
    refine lv_icmp_lt (x := n0) (y := 0) (tgt := 23) hx hb dX11_needLesson_12 (by decide) (fun c_2 => ?_) (fun c_2 => ?_)
    · exact absurd c_2 (c_1)
    exact k_throw hst ⟨by decide +kernel, by decide +kernel⟩ th_X11_219_221 hno hlk C hl.1 hP hD hS dX11_needLesson_15 dX11_needLesson_18 dX11_needLesson_19 dX11_needLesson_22 (Nat.lt_of_lt_of_le (by decide) (Nat.le_of_ble_eq_true rfl : 6 ≤ _)) (Nat.le_of_ble_eq_true rfl) ⟨Nat.le_of_ble_eq_true rfl, Nat.le_of_ble_eq_true rfl⟩ 1 (Or.inr (⟨rfl, rfl, c_1⟩)) [0, 1] rfl rfl (Nat.le_of_ble_eq_true rfl) (Nat.le_of_ble_eq_true rfl)
set_option maxHeartbeats 4000000 in
set_option maxRecDepth 100000 in
theorem c_X11_isRuleOrNone (l : Launch) (G : kG) (sz : Nat) (h0 : Nat) (n0 : Int32) (Fh0 : Nat → Value) (ap : Nat) (Fap : Nat → Value) (ar : Nat) (Far : Nat → Value) (e_h0_3 : Fh0 3 = .ref ap) (e_ap_1 : Fap 1 = .ref ar) (e_ar_3 : Far 3 = .int 0) : kM l yX11_isRuleOrNone cX11_isRuleOrNone 2 (some .boolean) { frames := 6, cells := 0, slots := 0, locals := 110 } G [.ref h0, .int n0] [(h0, .inr (11, ofL 17 Fh0)), (ap, .inr (7, ofL 5 Fap)), (ar, .inr (8, ofL 5 Far))] sz (kQi G (S := Nat) (fun r u => (u = 0 ∧ r = 0 ∧ n0 < (-1)) ∨ (u = 1 ∧ r = 0 ∧ ¬ n0 < (-1) ∧ 0 ≤ n0) ∨ (u = 2 ∧ r = 1 ∧ ¬ n0 < (-1) ∧ ¬ 0 ≤ n0)) (fun u => match u with | 0 => [(h0, .inr (11, ofL 17 Fh0)), (ap, .inr (7, ofL 5 Fap)), (ar, .inr (8, ofL 5 Far))] | 1 => [(h0, .inr (11, ofL 17 Fh0)), (ap, .inr (7, ofL 5 Fap)), (ar, .inr (8, ofL 5 Far))] | _ => [(h0, .inr (11, ofL 17 Fh0)), (ap, .inr (7, ofL 5 Fap)), (ar, .inr (8, ofL 5 Far))])) := by
  refine kM.of (by decide) (Nat.le_of_ble_eq_true rfl) ?_
  intro p e s m below meth c A ls H C hr hlk hnm hP hD hS hl
  have C : kC G p s m c cX11_isRuleOrNone 2 RX11 A := C
  have hx := C.1
  have hb := C.2.1
  have hl : lv_has ls 2 [(0, .ref h0), (1, .int n0)] := hl
  refine lv_iload_n hx hb dX11_isRuleOrNone_0 rfl (lv_at hl 1 rfl) ?_
  refine lv_iconst (v := -1) hx hb dX11_isRuleOrNone_1 (by decide) ?_
  refine lv_icmp_lt (x := n0) (y := -1) (tgt := 23) hx hb dX11_isRuleOrNone_2 (by decide) (fun c_1 => ?_) (fun c_1 => ?_)
  ·
    refine lv_iconst (v := 0) hx hb dX11_isRuleOrNone_23 (by decide) ?_
    exact k_zret C hr hlk rfl hP hD hS 0 (Or.inl ⟨rfl, rfl, c_1⟩) [0, 1, 2] rfl rfl (Nat.le_of_ble_eq_true rfl) (Nat.le_of_ble_eq_true rfl) dX11_isRuleOrNone_24
  ·
    refine lv_iload_n hx hb dX11_isRuleOrNone_5 rfl (lv_at hl 1 rfl) ?_
    refine lv_aload_n hx hb dX11_isRuleOrNone_6 rfl (lv_at hl 0 rfl) ?_
    refine k_get (v := .ref ap) fl_X11_22 C hP 0 rfl e_h0_3 dX11_isRuleOrNone_7 ?_
    refine k_getN (v := .ref ar) fl_X11_128 C hP 1 rfl e_ap_1 dX11_isRuleOrNone_10 ?_
    refine k_getN (v := .int 0) fl_X11_132 C hP 2 rfl e_ar_3 dX11_isRuleOrNone_13 ?_
    refine lv_icmp_ge (x := n0) (y := 0) (tgt := 23) hx hb dX11_isRuleOrNone_16 (by decide) (fun c_2 => ?_) (fun c_2 => ?_)
    ·
      refine lv_iconst (v := 0) hx hb dX11_isRuleOrNone_23 (by decide) ?_
      exact k_zret C hr hlk rfl hP hD hS 1 (Or.inr (Or.inl ⟨rfl, rfl, c_1, c_2⟩)) [0, 1, 2] rfl rfl (Nat.le_of_ble_eq_true rfl) (Nat.le_of_ble_eq_true rfl) dX11_isRuleOrNone_24
    ·
      refine lv_iconst (v := 1) hx hb dX11_isRuleOrNone_19 (by decide) ?_
      refine lv_goto (tgt := 24) hx hb dX11_isRuleOrNone_20 (by decide) ?_
      exact k_zret C hr hlk rfl hP hD hS 2 (Or.inr (Or.inr (⟨rfl, rfl, c_1, c_2⟩))) [0, 1, 2] rfl rfl (Nat.le_of_ble_eq_true rfl) (Nat.le_of_ble_eq_true rfl) dX11_isRuleOrNone_24
set_option maxHeartbeats 4000000 in
set_option maxRecDepth 100000 in
theorem c_X1_runFrom (l : Launch) (G : kG) (sz : Nat) (h0 : Nat) (Fh0 : Nat → Value) (ap : Nat) (Fap : Nat → Value) (e_h0_7 : Fh0 7 = .ref ap) (e_ap_2 : Fap 2 = .int 0) : kM l yX1_runFrom cX1_runFrom 3 none { frames := 6, cells := 0, slots := 0, locals := 110 } G [.ref h0, .int 0] [(h0, .inr (1, ofL 10 Fh0)), (ap, .inr (7, ofL 5 Fap))] sz (kQv G (S := Unit) (fun (_ : Unit) => True) (fun _ => [(h0, .inr (1, ofL 10 Fh0)), (ap, .inr (7, ofL 5 Fap))])) := by
  refine kM.of (by decide) (Nat.le_of_ble_eq_true rfl) ?_
  intro p e s m below meth c A ls H C hr hlk hnm hP hD hS hl
  have C : kC G p s m c cX1_runFrom 3 RX1 A := C
  have hx := C.1
  have hb := C.2.1
  have hl : lv_has ls 3 [(0, .ref h0), (1, .int 0)] := hl
  refine lv_iload_n hx hb dX1_runFrom_0 rfl (lv_at hl 1 rfl) ?_
  refine lv_istore_n (lv' := [(2, .int 0), (0, .ref h0), (1, .int 0)]) hx hb dX1_runFrom_1 rfl hl (by decide) rfl (fun ls hl => ?_)
  refine lv_iload_n hx hb dX1_runFrom_2 rfl (lv_at hl 0 rfl) ?_
  refine lv_aload_n hx hb dX1_runFrom_3 rfl (lv_at hl 1 rfl) ?_
  refine k_get (v := .ref ap) fl_X1_37 C hP 0 rfl e_h0_7 dX1_runFrom_4 ?_
  refine k_getN (v := .int 0) fl_X1_45 C hP 1 rfl e_ap_2 dX1_runFrom_7 ?_
  refine lv_icmp_ge (x := 0) (y := 0) (tgt := 24) hx hb dX1_runFrom_10 (by decide) (fun c_1 => ?_) (fun c_1 => ?_)
  rotate_left
  · exact absurd (by decide) c_1
  exact k_vret C hr hlk hP hD hS () (trivial) [0, 1] rfl rfl (Nat.le_of_ble_eq_true rfl) (Nat.le_of_ble_eq_true rfl) dX1_runFrom_24
set_option maxHeartbeats 4000000 in
set_option maxRecDepth 100000 in
theorem c_X1_lost (l : Launch) (G : kG) (sz : Nat) (h0 : Nat) (Fh0 : Nat → Value) (ap : Nat) (Fap : Nat → Value) (e_h0_7 : Fh0 7 = .ref ap) (e_ap_2 : Fap 2 = .int 0) : kM l yX1_lost cX1_lost 3 (some .int) { frames := 6, cells := 0, slots := 0, locals := 110 } G [.ref h0] [(h0, .inr (1, ofL 10 Fh0)), (ap, .inr (7, ofL 5 Fap))] sz (kQi G (S := Unit) (fun r (_ : Unit) => r = 0) (fun _ => [(h0, .inr (1, ofL 10 Fh0)), (ap, .inr (7, ofL 5 Fap))])) := by
  refine kM.of (by decide) (Nat.le_of_ble_eq_true rfl) ?_
  intro p e s m below meth c A ls H C hr hlk hnm hP hD hS hl
  have C : kC G p s m c cX1_lost 3 RX1 A := C
  have hx := C.1
  have hb := C.2.1
  have hl : lv_has ls 3 [(0, .ref h0)] := hl
  refine lv_iconst (v := 0) hx hb dX1_lost_0 (by decide) ?_
  refine lv_istore_n (lv' := [(1, .int 0), (0, .ref h0)]) hx hb dX1_lost_1 rfl hl (by decide) rfl (fun ls hl => ?_)
  refine lv_iconst (v := 0) hx hb dX1_lost_2 (by decide) ?_
  refine lv_istore_n (lv' := [(2, .int 0), (1, .int 0), (0, .ref h0)]) hx hb dX1_lost_3 rfl hl (by decide) rfl (fun ls hl => ?_)
  refine lv_iload_n hx hb dX1_lost_4 rfl (lv_at hl 0 rfl) ?_
  refine lv_aload_n hx hb dX1_lost_5 rfl (lv_at hl 2 rfl) ?_
  refine k_get (v := .ref ap) fl_X1_37 C hP 0 rfl e_h0_7 dX1_lost_6 ?_
  refine k_getN (v := .int 0) fl_X1_45 C hP 1 rfl e_ap_2 dX1_lost_9 ?_
  refine lv_icmp_ge (x := 0) (y := 0) (tgt := 42) hx hb dX1_lost_12 (by decide) (fun c_1 => ?_) (fun c_1 => ?_)
  rotate_left
  · exact absurd (by decide) c_1
  refine lv_iload_n hx hb dX1_lost_42 rfl (lv_at hl 1 rfl) ?_
  exact k_iret C hr hlk hP hD hS () (rfl) [0, 1] rfl rfl (Nat.le_of_ble_eq_true rfl) (Nat.le_of_ble_eq_true rfl) dX1_lost_43
set_option maxHeartbeats 4000000 in
set_option maxRecDepth 100000 in
theorem c_X1_lateOnes (l : Launch) (G : kG) (sz : Nat) (h0 : Nat) (Fh0 : Nat → Value) (ap : Nat) (Fap : Nat → Value) (e_h0_7 : Fh0 7 = .ref ap) (e_ap_2 : Fap 2 = .int 0) : kM l yX1_lateOnes cX1_lateOnes 3 (some .int) { frames := 6, cells := 0, slots := 0, locals := 110 } G [.ref h0] [(h0, .inr (1, ofL 10 Fh0)), (ap, .inr (7, ofL 5 Fap))] sz (kQi G (S := Unit) (fun r (_ : Unit) => r = 0) (fun _ => [(h0, .inr (1, ofL 10 Fh0)), (ap, .inr (7, ofL 5 Fap))])) := by
  refine kM.of (by decide) (Nat.le_of_ble_eq_true rfl) ?_
  intro p e s m below meth c A ls H C hr hlk hnm hP hD hS hl
  have C : kC G p s m c cX1_lateOnes 3 RX1 A := C
  have hx := C.1
  have hb := C.2.1
  have hl : lv_has ls 3 [(0, .ref h0)] := hl
  refine lv_iconst (v := 0) hx hb dX1_lateOnes_0 (by decide) ?_
  refine lv_istore_n (lv' := [(1, .int 0), (0, .ref h0)]) hx hb dX1_lateOnes_1 rfl hl (by decide) rfl (fun ls hl => ?_)
  refine lv_iconst (v := 0) hx hb dX1_lateOnes_2 (by decide) ?_
  refine lv_istore_n (lv' := [(2, .int 0), (1, .int 0), (0, .ref h0)]) hx hb dX1_lateOnes_3 rfl hl (by decide) rfl (fun ls hl => ?_)
  refine lv_iload_n hx hb dX1_lateOnes_4 rfl (lv_at hl 0 rfl) ?_
  refine lv_aload_n hx hb dX1_lateOnes_5 rfl (lv_at hl 2 rfl) ?_
  refine k_get (v := .ref ap) fl_X1_37 C hP 0 rfl e_h0_7 dX1_lateOnes_6 ?_
  refine k_getN (v := .int 0) fl_X1_45 C hP 1 rfl e_ap_2 dX1_lateOnes_9 ?_
  refine lv_icmp_ge (x := 0) (y := 0) (tgt := 37) hx hb dX1_lateOnes_12 (by decide) (fun c_1 => ?_) (fun c_1 => ?_)
  rotate_left
  · exact absurd (by decide) c_1
  refine lv_iload_n hx hb dX1_lateOnes_37 rfl (lv_at hl 1 rfl) ?_
  exact k_iret C hr hlk hP hD hS () (rfl) [0, 1] rfl rfl (Nat.le_of_ble_eq_true rfl) (Nat.le_of_ble_eq_true rfl) dX1_lateOnes_38
set_option maxHeartbeats 4000000 in
set_option maxRecDepth 100000 in
theorem c_X1_latest (l : Launch) (G : kG) (sz : Nat) (h0 : Nat) (Fh0 : Nat → Value) (ap : Nat) (Fap : Nat → Value) (e_h0_7 : Fh0 7 = .ref ap) (e_ap_2 : Fap 2 = .int 0) : kM l yX1_latest cX1_latest 3 (some .int) { frames := 6, cells := 0, slots := 0, locals := 110 } G [.ref h0] [(h0, .inr (1, ofL 10 Fh0)), (ap, .inr (7, ofL 5 Fap))] sz (kQi G (S := Unit) (fun r (_ : Unit) => r = 0) (fun _ => [(h0, .inr (1, ofL 10 Fh0)), (ap, .inr (7, ofL 5 Fap))])) := by
  refine kM.of (by decide) (Nat.le_of_ble_eq_true rfl) ?_
  intro p e s m below meth c A ls H C hr hlk hnm hP hD hS hl
  have C : kC G p s m c cX1_latest 3 RX1 A := C
  have hx := C.1
  have hb := C.2.1
  have hl : lv_has ls 3 [(0, .ref h0)] := hl
  refine lv_iconst (v := 0) hx hb dX1_latest_0 (by decide) ?_
  refine lv_istore_n (lv' := [(1, .int 0), (0, .ref h0)]) hx hb dX1_latest_1 rfl hl (by decide) rfl (fun ls hl => ?_)
  refine lv_iconst (v := 0) hx hb dX1_latest_2 (by decide) ?_
  refine lv_istore_n (lv' := [(2, .int 0), (1, .int 0), (0, .ref h0)]) hx hb dX1_latest_3 rfl hl (by decide) rfl (fun ls hl => ?_)
  refine lv_iload_n hx hb dX1_latest_4 rfl (lv_at hl 0 rfl) ?_
  refine lv_aload_n hx hb dX1_latest_5 rfl (lv_at hl 2 rfl) ?_
  refine k_get (v := .ref ap) fl_X1_37 C hP 0 rfl e_h0_7 dX1_latest_6 ?_
  refine k_getN (v := .int 0) fl_X1_45 C hP 1 rfl e_ap_2 dX1_latest_9 ?_
  refine lv_icmp_ge (x := 0) (y := 0) (tgt := 31) hx hb dX1_latest_12 (by decide) (fun c_1 => ?_) (fun c_1 => ?_)
  rotate_left
  · exact absurd (by decide) c_1
  refine lv_iload_n hx hb dX1_latest_31 rfl (lv_at hl 1 rfl) ?_
  exact k_iret C hr hlk hP hD hS () (rfl) [0, 1] rfl rfl (Nat.le_of_ble_eq_true rfl) (Nat.le_of_ble_eq_true rfl) dX1_latest_32
set_option maxHeartbeats 4000000 in
set_option maxRecDepth 100000 in
theorem c_X1_begunLater (l : Launch) (G : kG) (sz : Nat) (h0 : Nat) (Fh0 : Nat → Value) (ap : Nat) (Fap : Nat → Value) (e_h0_7 : Fh0 7 = .ref ap) (e_ap_2 : Fap 2 = .int 0) : kM l yX1_begunLater cX1_begunLater 3 (some .int) { frames := 6, cells := 0, slots := 0, locals := 110 } G [.ref h0] [(h0, .inr (1, ofL 10 Fh0)), (ap, .inr (7, ofL 5 Fap))] sz (kQi G (S := Unit) (fun r (_ : Unit) => r = 0) (fun _ => [(h0, .inr (1, ofL 10 Fh0)), (ap, .inr (7, ofL 5 Fap))])) := by
  refine kM.of (by decide) (Nat.le_of_ble_eq_true rfl) ?_
  intro p e s m below meth c A ls H C hr hlk hnm hP hD hS hl
  have C : kC G p s m c cX1_begunLater 3 RX1 A := C
  have hx := C.1
  have hb := C.2.1
  have hl : lv_has ls 3 [(0, .ref h0)] := hl
  refine lv_iconst (v := 0) hx hb dX1_begunLater_0 (by decide) ?_
  refine lv_istore_n (lv' := [(1, .int 0), (0, .ref h0)]) hx hb dX1_begunLater_1 rfl hl (by decide) rfl (fun ls hl => ?_)
  refine lv_iconst (v := 0) hx hb dX1_begunLater_2 (by decide) ?_
  refine lv_istore_n (lv' := [(2, .int 0), (1, .int 0), (0, .ref h0)]) hx hb dX1_begunLater_3 rfl hl (by decide) rfl (fun ls hl => ?_)
  refine lv_iload_n hx hb dX1_begunLater_4 rfl (lv_at hl 0 rfl) ?_
  refine lv_aload_n hx hb dX1_begunLater_5 rfl (lv_at hl 2 rfl) ?_
  refine k_get (v := .ref ap) fl_X1_37 C hP 0 rfl e_h0_7 dX1_begunLater_6 ?_
  refine k_getN (v := .int 0) fl_X1_45 C hP 1 rfl e_ap_2 dX1_begunLater_9 ?_
  refine lv_icmp_ge (x := 0) (y := 0) (tgt := 50) hx hb dX1_begunLater_12 (by decide) (fun c_1 => ?_) (fun c_1 => ?_)
  rotate_left
  · exact absurd (by decide) c_1
  refine lv_iload_n hx hb dX1_begunLater_50 rfl (lv_at hl 1 rfl) ?_
  exact k_iret C hr hlk hP hD hS () (rfl) [0, 1] rfl rfl (Nat.le_of_ble_eq_true rfl) (Nat.le_of_ble_eq_true rfl) dX1_begunLater_51
set_option maxHeartbeats 4000000 in
set_option maxRecDepth 100000 in
theorem c_X1_clashes (l : Launch) (G : kG) (sz : Nat) (h0 : Nat) (Fh0 : Nat → Value) (ap : Nat) (Fap : Nat → Value) (e_h0_7 : Fh0 7 = .ref ap) (e_ap_2 : Fap 2 = .int 0) : kM l yX1_clashes cX1_clashes 4 (some .int) { frames := 6, cells := 0, slots := 0, locals := 110 } G [.ref h0] [(h0, .inr (1, ofL 10 Fh0)), (ap, .inr (7, ofL 5 Fap))] sz (kQi G (S := Unit) (fun r (_ : Unit) => r = 0) (fun _ => [(h0, .inr (1, ofL 10 Fh0)), (ap, .inr (7, ofL 5 Fap))])) := by
  refine kM.of (by decide) (Nat.le_of_ble_eq_true rfl) ?_
  intro p e s m below meth c A ls H C hr hlk hnm hP hD hS hl
  have C : kC G p s m c cX1_clashes 4 RX1 A := C
  have hx := C.1
  have hb := C.2.1
  have hl : lv_has ls 4 [(0, .ref h0)] := hl
  refine lv_iconst (v := 0) hx hb dX1_clashes_0 (by decide) ?_
  refine lv_istore_n (lv' := [(1, .int 0), (0, .ref h0)]) hx hb dX1_clashes_1 rfl hl (by decide) rfl (fun ls hl => ?_)
  refine lv_iconst (v := 0) hx hb dX1_clashes_2 (by decide) ?_
  refine lv_istore_n (lv' := [(2, .int 0), (1, .int 0), (0, .ref h0)]) hx hb dX1_clashes_3 rfl hl (by decide) rfl (fun ls hl => ?_)
  refine lv_iload_n hx hb dX1_clashes_4 rfl (lv_at hl 0 rfl) ?_
  refine lv_aload_n hx hb dX1_clashes_5 rfl (lv_at hl 2 rfl) ?_
  refine k_get (v := .ref ap) fl_X1_37 C hP 0 rfl e_h0_7 dX1_clashes_6 ?_
  refine k_getN (v := .int 0) fl_X1_45 C hP 1 rfl e_ap_2 dX1_clashes_9 ?_
  refine lv_icmp_ge (x := 0) (y := 0) (tgt := 60) hx hb dX1_clashes_12 (by decide) (fun c_1 => ?_) (fun c_1 => ?_)
  rotate_left
  · exact absurd (by decide) c_1
  refine lv_iload_n hx hb dX1_clashes_60 rfl (lv_at hl 1 rfl) ?_
  exact k_iret C hr hlk hP hD hS () (rfl) [0, 1] rfl rfl (Nat.le_of_ble_eq_true rfl) (Nat.le_of_ble_eq_true rfl) dX1_clashes_61
set_option maxHeartbeats 4000000 in
set_option maxRecDepth 100000 in
theorem c_X1_firstClash (l : Launch) (G : kG) (sz : Nat) (h0 : Nat) (Fh0 : Nat → Value) (ap : Nat) (Fap : Nat → Value) (e_h0_7 : Fh0 7 = .ref ap) (e_ap_2 : Fap 2 = .int 0) : kM l yX1_firstClash cX1_firstClash 5 (some .int) { frames := 6, cells := 0, slots := 0, locals := 110 } G [.ref h0] [(h0, .inr (1, ofL 10 Fh0)), (ap, .inr (7, ofL 5 Fap))] sz (kQi G (S := Unit) (fun r (_ : Unit) => r = -1) (fun _ => [(h0, .inr (1, ofL 10 Fh0)), (ap, .inr (7, ofL 5 Fap))])) := by
  refine kM.of (by decide) (Nat.le_of_ble_eq_true rfl) ?_
  intro p e s m below meth c A ls H C hr hlk hnm hP hD hS hl
  have C : kC G p s m c cX1_firstClash 5 RX1 A := C
  have hx := C.1
  have hb := C.2.1
  have hl : lv_has ls 5 [(0, .ref h0)] := hl
  refine lv_iconst (v := -1) hx hb dX1_firstClash_0 (by decide) ?_
  refine lv_istore_n (lv' := [(1, .int (-1)), (0, .ref h0)]) hx hb dX1_firstClash_1 rfl hl (by decide) rfl (fun ls hl => ?_)
  refine lv_iconst (v := 0) hx hb dX1_firstClash_2 (by decide) ?_
  refine lv_istore_n (lv' := [(2, .int 0), (1, .int (-1)), (0, .ref h0)]) hx hb dX1_firstClash_3 rfl hl (by decide) rfl (fun ls hl => ?_)
  refine lv_iload_n hx hb dX1_firstClash_4 rfl (lv_at hl 0 rfl) ?_
  refine lv_aload_n hx hb dX1_firstClash_5 rfl (lv_at hl 2 rfl) ?_
  refine k_get (v := .ref ap) fl_X1_37 C hP 0 rfl e_h0_7 dX1_firstClash_6 ?_
  refine k_getN (v := .int 0) fl_X1_45 C hP 1 rfl e_ap_2 dX1_firstClash_9 ?_
  refine lv_icmp_ge (x := 0) (y := 0) (tgt := 70) hx hb dX1_firstClash_12 (by decide) (fun c_1 => ?_) (fun c_1 => ?_)
  rotate_left
  · exact absurd (by decide) c_1
  refine lv_iload_n hx hb dX1_firstClash_70 rfl (lv_at hl 1 rfl) ?_
  exact k_iret C hr hlk hP hD hS () (rfl) [0, 1] rfl rfl (Nat.le_of_ble_eq_true rfl) (Nat.le_of_ble_eq_true rfl) dX1_firstClash_71
set_option maxHeartbeats 4000000 in
set_option maxRecDepth 100000 in
theorem c_X1_idleMinutes (l : Launch) (G : kG) (sz : Nat) (h0 : Nat) (Fh0 : Nat → Value) (ap : Nat) (Fap : Nat → Value) (e_h0_7 : Fh0 7 = .ref ap) (e_ap_2 : Fap 2 = .int 0) : kM l yX1_idleMinutes cX1_idleMinutes 7 (some .int) { frames := 6, cells := 0, slots := 0, locals := 110 } G [.ref h0] [(h0, .inr (1, ofL 10 Fh0)), (ap, .inr (7, ofL 5 Fap))] sz (kQi G (S := Unit) (fun r (_ : Unit) => r = 0) (fun _ => [(h0, .inr (1, ofL 10 Fh0)), (ap, .inr (7, ofL 5 Fap))])) := by
  refine kM.of (by decide) (Nat.le_of_ble_eq_true rfl) ?_
  intro p e s m below meth c A ls H C hr hlk hnm hP hD hS hl
  have C : kC G p s m c cX1_idleMinutes 7 RX1 A := C
  have hx := C.1
  have hb := C.2.1
  have hl : lv_has ls 7 [(0, .ref h0)] := hl
  refine lv_iconst (v := 0) hx hb dX1_idleMinutes_0 (by decide) ?_
  refine lv_istore_n (lv' := [(1, .int 0), (0, .ref h0)]) hx hb dX1_idleMinutes_1 rfl hl (by decide) rfl (fun ls hl => ?_)
  refine lv_iconst (v := 0) hx hb dX1_idleMinutes_2 (by decide) ?_
  refine lv_istore_n (lv' := [(2, .int 0), (1, .int 0), (0, .ref h0)]) hx hb dX1_idleMinutes_3 rfl hl (by decide) rfl (fun ls hl => ?_)
  refine lv_iload_n hx hb dX1_idleMinutes_4 rfl (lv_at hl 0 rfl) ?_
  refine lv_aload_n hx hb dX1_idleMinutes_5 rfl (lv_at hl 2 rfl) ?_
  refine k_get (v := .ref ap) fl_X1_37 C hP 0 rfl e_h0_7 dX1_idleMinutes_6 ?_
  refine k_getN (v := .int 0) fl_X1_45 C hP 1 rfl e_ap_2 dX1_idleMinutes_9 ?_
  refine lv_icmp_ge (x := 0) (y := 0) (tgt := 115) hx hb dX1_idleMinutes_12 (by decide) (fun c_1 => ?_) (fun c_1 => ?_)
  rotate_left
  · exact absurd (by decide) c_1
  refine lv_iload_n hx hb dX1_idleMinutes_115 rfl (lv_at hl 1 rfl) ?_
  exact k_iret C hr hlk hP hD hS () (rfl) [0, 1] rfl rfl (Nat.le_of_ble_eq_true rfl) (Nat.le_of_ble_eq_true rfl) dX1_idleMinutes_116
set_option maxHeartbeats 4000000 in
set_option maxRecDepth 100000 in
theorem c_X1_lostFrom (l : Launch) (G : kG) (sz : Nat) (h0 : Nat) (Fh0 : Nat → Value) (ap : Nat) (Fap : Nat → Value) (e_h0_7 : Fh0 7 = .ref ap) (e_ap_2 : Fap 2 = .int 0) : kM l yX1_lostFrom cX1_lostFrom 3 (some .int) { frames := 7, cells := 0, slots := 0, locals := 132 } G [.ref h0, .int 0] [(h0, .inr (1, ofL 10 Fh0)), (ap, .inr (7, ofL 5 Fap))] sz (kQi G (S := Unit) (fun r (_ : Unit) => r = 0) (fun _ => [(h0, .inr (1, ofL 10 Fh0)), (ap, .inr (7, ofL 5 Fap))])) := by
  refine kM.of (by decide) (Nat.le_of_ble_eq_true rfl) ?_
  intro p e s m below meth c A ls H C hr hlk hnm hP hD hS hl
  have C : kC G p s m c cX1_lostFrom 3 RX1 A := C
  have hx := C.1
  have hb := C.2.1
  have hl : lv_has ls 3 [(0, .ref h0), (1, .int 0)] := hl
  refine lv_iload_n hx hb dX1_lostFrom_0 rfl (lv_at hl 1 rfl) ?_
  refine lv_istore_n (lv' := [(2, .int 0), (0, .ref h0), (1, .int 0)]) hx hb dX1_lostFrom_1 rfl hl (by decide) rfl (fun ls hl => ?_)
  refine lv_iload_n hx hb dX1_lostFrom_2 rfl (lv_at hl 0 rfl) ?_
  refine lv_aload_n hx hb dX1_lostFrom_3 rfl (lv_at hl 1 rfl) ?_
  refine k_get (v := .ref ap) fl_X1_37 C hP 0 rfl e_h0_7 dX1_lostFrom_4 ?_
  refine k_getN (v := .int 0) fl_X1_45 C hP 1 rfl e_ap_2 dX1_lostFrom_7 ?_
  refine lv_icmp_ge (x := 0) (y := 0) (tgt := 24) hx hb dX1_lostFrom_10 (by decide) (fun c_1 => ?_) (fun c_1 => ?_)
  rotate_left
  · exact absurd (by decide) c_1
  refine lv_aload_n hx hb dX1_lostFrom_24 rfl (lv_at hl 1 rfl) ?_
  refine k_callVi (wr := []) (rest := []) li_X1_54 C (c_X1_lost l G H.size h0 Fh0 ap Fap e_h0_7 e_ap_2) (kR rfl) hP hD hS [0, 1] [] rfl rfl rfl rfl (by decide) 0 1 rfl rfl rfl hl.1 rfl (Nat.le_of_ble_eq_true rfl) dX1_lostFrom_25 (fun rr3 uu4 H locs hw2 hP hD hS => ?_)
  obtain rfl : rr3 = 0 := hw2
  have hP : va_P G.1 vwCl [(h0, .inr (1, ofL 10 Fh0)), (ap, .inr (7, ofL 5 Fap))] H := hP
  have hD : va_D A [(h0, .inr (1, ofL 10 Fh0)), (ap, .inr (7, ofL 5 Fap))] := hD
  exact k_iret C hr hlk hP hD hS () (rfl) [0, 1] rfl rfl (Nat.le_of_ble_eq_true rfl) (Nat.le_of_ble_eq_true rfl) dX1_lostFrom_28
set_option maxHeartbeats 4000000 in
set_option maxRecDepth 100000 in
theorem c_X1_onBits (l : Launch) (G : kG) (sz : Nat) (h0 : Nat) (n0 : Int32) (Fh0 : Nat → Value) (ap : Nat) (Fap : Nat → Value) (e_h0_7 : Fh0 7 = .ref ap) (e_ap_2 : Fap 2 = .int 0) : kM l yX1_onBits cX1_onBits 4 (some .int) { frames := 6, cells := 0, slots := 0, locals := 110 } G [.ref h0, .int n0] [(h0, .inr (1, ofL 10 Fh0)), (ap, .inr (7, ofL 5 Fap))] sz (kQi G (S := Unit) (fun r (_ : Unit) => r = 0) (fun _ => [(h0, .inr (1, ofL 10 Fh0)), (ap, .inr (7, ofL 5 Fap))])) := by
  refine kM.of (by decide) (Nat.le_of_ble_eq_true rfl) ?_
  intro p e s m below meth c A ls H C hr hlk hnm hP hD hS hl
  have C : kC G p s m c cX1_onBits 4 RX1 A := C
  have hx := C.1
  have hb := C.2.1
  have hl : lv_has ls 4 [(0, .ref h0), (1, .int n0)] := hl
  refine lv_iconst (v := 0) hx hb dX1_onBits_0 (by decide) ?_
  refine lv_istore_n (lv' := [(2, .int 0), (0, .ref h0), (1, .int n0)]) hx hb dX1_onBits_1 rfl hl (by decide) rfl (fun ls hl => ?_)
  refine lv_iconst (v := 0) hx hb dX1_onBits_2 (by decide) ?_
  refine lv_istore_n (lv' := [(3, .int 0), (2, .int 0), (0, .ref h0), (1, .int n0)]) hx hb dX1_onBits_3 rfl hl (by decide) rfl (fun ls hl => ?_)
  refine lv_iload_n hx hb dX1_onBits_4 rfl (lv_at hl 0 rfl) ?_
  refine lv_aload_n hx hb dX1_onBits_5 rfl (lv_at hl 2 rfl) ?_
  refine k_get (v := .ref ap) fl_X1_37 C hP 0 rfl e_h0_7 dX1_onBits_6 ?_
  refine k_getN (v := .int 0) fl_X1_45 C hP 1 rfl e_ap_2 dX1_onBits_9 ?_
  refine lv_icmp_ge (x := 0) (y := 0) (tgt := 47) hx hb dX1_onBits_12 (by decide) (fun c_1 => ?_) (fun c_1 => ?_)
  rotate_left
  · exact absurd (by decide) c_1
  refine lv_iload_n hx hb dX1_onBits_47 rfl (lv_at hl 1 rfl) ?_
  exact k_iret C hr hlk hP hD hS () (rfl) [0, 1] rfl rfl (Nat.le_of_ble_eq_true rfl) (Nat.le_of_ble_eq_true rfl) dX1_onBits_48
set_option maxHeartbeats 4000000 in
set_option maxRecDepth 100000 in
theorem c_X4_clear (l : Launch) (G : kG) (sz : Nat) (h0 : Nat) (Fh0 : Nat → Value) : kM l yX4_clear cX4_clear 1 none { frames := 6, cells := 0, slots := 0, locals := 110 } G [.ref h0] [(h0, .inr (4, ofL 3 Fh0))] sz (kQv G (S := Unit) (fun (_ : Unit) => True) (fun _ => [(h0, .inr (4, ofL 3 (updV Fh0 0 (.int 0))))])) := by
  refine kM.of (by decide) (Nat.le_of_ble_eq_true rfl) ?_
  intro p e s m below meth c A ls H C hr hlk hnm hP hD hS hl
  have C : kC G p s m c cX4_clear 1 RX4 A := C
  have hx := C.1
  have hb := C.2.1
  have hl : lv_has ls 1 [(0, .ref h0)] := hl
  refine lv_aload_n hx hb dX4_clear_0 rfl (lv_at hl 0 rfl) ?_
  refine lv_iconst (v := 0) hx hb dX4_clear_1 (by decide) ?_
  refine k_put fl_X4_9 ft_X4_0 C hP hD hS 0 rfl rfl rfl dX4_clear_2 (fun H locs hP hD hS => ?_)
  have hP : va_P G.1 vwCl [(h0, .inr (4, ofL 3 (updV Fh0 0 (.int 0))))] H := hP
  have hD : va_D A [(h0, .inr (4, ofL 3 (updV Fh0 0 (.int 0))))] := hD
  exact k_vret C hr hlk hP hD hS () (trivial) [0] rfl rfl (Nat.le_of_ble_eq_true rfl) (Nat.le_of_ble_eq_true rfl) dX4_clear_5
set_option maxHeartbeats 4000000 in
set_option maxRecDepth 100000 in
theorem c_X4_told0 (l : Launch) (G : kG) (sz : Nat) (h0 : Nat) (n0 : Int32) (Fh0 : Nat → Value) (e_h0_0 : Fh0 0 = .int 0) : kM l yX4_told cX4_told 2 (some .int) { frames := 6, cells := 0, slots := 0, locals := 110 } G [.ref h0, .int n0] [(h0, .inr (4, ofL 3 Fh0))] sz (kQi G (S := Unit) (fun r (_ : Unit) => r = -1) (fun _ => [(h0, .inr (4, ofL 3 Fh0))])) := by
  refine kM.of (by decide) (Nat.le_of_ble_eq_true rfl) ?_
  intro p e s m below meth c A ls H C hr hlk hnm hP hD hS hl
  have C : kC G p s m c cX4_told 2 RX4 A := C
  have hx := C.1
  have hb := C.2.1
  have hl : lv_has ls 2 [(0, .ref h0), (1, .int n0)] := hl
  refine lv_aload_n hx hb dX4_told_0 rfl (lv_at hl 0 rfl) ?_
  refine k_get (v := .int 0) fl_X4_9 C hP 0 rfl e_h0_0 dX4_told_1 ?_
  refine lv_if_ne (x := 0) (tgt := 9) hx hb dX4_told_4 (by decide) (fun c_1 => ?_) (fun c_1 => ?_)
  · exact absurd (by decide) c_1
  refine lv_iconst (v := -1) hx hb dX4_told_7 (by decide) ?_
  exact k_iret C hr hlk hP hD hS () (rfl) [0] rfl rfl (Nat.le_of_ble_eq_true rfl) (Nat.le_of_ble_eq_true rfl) dX4_told_8
set_option maxHeartbeats 4000000 in
set_option maxRecDepth 100000 in
theorem c_X4_told1 (l : Launch) (G : kG) (sz : Nat) (h0 : Nat) (Fh0 : Nat → Value) (n1 : Int32) (e_h0_0 : Fh0 0 = .int 1) (e_h0_1 : Fh0 1 = .int n1) : kM l yX4_told cX4_told 2 (some .int) { frames := 6, cells := 0, slots := 0, locals := 110 } G [.ref h0, .int 0] [(h0, .inr (4, ofL 3 Fh0))] sz (kQi G (S := Unit) (fun r (_ : Unit) => r = n1) (fun _ => [(h0, .inr (4, ofL 3 Fh0))])) := by
  refine kM.of (by decide) (Nat.le_of_ble_eq_true rfl) ?_
  intro p e s m below meth c A ls H C hr hlk hnm hP hD hS hl
  have C : kC G p s m c cX4_told 2 RX4 A := C
  have hx := C.1
  have hb := C.2.1
  have hl : lv_has ls 2 [(0, .ref h0), (1, .int 0)] := hl
  refine lv_aload_n hx hb dX4_told_0 rfl (lv_at hl 0 rfl) ?_
  refine k_get (v := .int 1) fl_X4_9 C hP 0 rfl e_h0_0 dX4_told_1 ?_
  refine lv_if_ne (x := 1) (tgt := 9) hx hb dX4_told_4 (by decide) (fun c_1 => ?_) (fun c_1 => ?_)
  rotate_left
  · exact absurd c_1 (by decide)
  refine lv_iload_n hx hb dX4_told_9 rfl (lv_at hl 1 rfl) ?_
  refine lv_if_ne (x := 0) (tgt := 20) hx hb dX4_told_10 (by decide) (fun c_2 => ?_) (fun c_2 => ?_)
  · exact absurd (by decide) c_2
  refine lv_aload_n hx hb dX4_told_13 rfl (lv_at hl 0 rfl) ?_
  refine k_get (v := .int n1) fl_X4_19 C hP 0 rfl e_h0_1 dX4_told_14 ?_
  refine lv_goto (tgt := 24) hx hb dX4_told_17 (by decide) ?_
  exact k_iret C hr hlk hP hD hS () (rfl) [0] rfl rfl (Nat.le_of_ble_eq_true rfl) (Nat.le_of_ble_eq_true rfl) dX4_told_24
set_option maxHeartbeats 4000000 in
set_option maxRecDepth 100000 in
theorem c_X4_offer (l : Launch) (G : kG) (sz : Nat) (h0 : Nat) (n0 : Int32) (n1 : Int32) (Fh0 : Nat → Value) (e_h0_0 : Fh0 0 = .int 0) : kM l yX4_offer cX4_offer 3 none { frames := 6, cells := 0, slots := 0, locals := 110 } G [.ref h0, .int n0, .int n1] [(h0, .inr (4, ofL 3 Fh0))] sz (kQv G (S := Unit) (fun (_ : Unit) => True) (fun _ => [(h0, .inr (4, ofL 3 (updV (updV (updV Fh0 0 (.int 1)) 1 (.int n0)) 2 (.int n1))))])) := by
  refine kM.of (by decide) (Nat.le_of_ble_eq_true rfl) ?_
  intro p e s m below meth c A ls H C hr hlk hnm hP hD hS hl
  have C : kC G p s m c cX4_offer 3 RX4 A := C
  have hx := C.1
  have hb := C.2.1
  have hl : lv_has ls 3 [(0, .ref h0), (1, .int n0), (2, .int n1)] := hl
  refine lv_aload_n hx hb dX4_offer_0 rfl (lv_at hl 0 rfl) ?_
  refine k_get (v := .int 0) fl_X4_9 C hP 0 rfl e_h0_0 dX4_offer_1 ?_
  refine lv_if_eq (x := 0) (tgt := 31) hx hb dX4_offer_4 (by decide) (fun c_1 => ?_) (fun c_1 => ?_)
  rotate_left
  · exact absurd (by decide) c_1
  refine lv_aload_n hx hb dX4_offer_31 rfl (lv_at hl 0 rfl) ?_
  refine lv_iconst (v := 1) hx hb dX4_offer_32 (by decide) ?_
  refine k_put fl_X4_9 ft_X4_0 C hP hD hS 0 rfl rfl rfl dX4_offer_33 (fun H locs hP hD hS => ?_)
  have hP : va_P G.1 vwCl [(h0, .inr (4, ofL 3 (updV Fh0 0 (.int 1))))] H := hP
  have hD : va_D A [(h0, .inr (4, ofL 3 (updV Fh0 0 (.int 1))))] := hD
  refine lv_aload_n hx hb dX4_offer_36 rfl (lv_at hl 0 rfl) ?_
  refine lv_iload_n hx hb dX4_offer_37 rfl (lv_at hl 1 rfl) ?_
  refine k_put fl_X4_19 ft_X4_1 C hP hD hS 0 rfl rfl rfl dX4_offer_38 (fun H locs hP hD hS => ?_)
  have hP : va_P G.1 vwCl [(h0, .inr (4, ofL 3 (updV (updV Fh0 0 (.int 1)) 1 (.int n0))))] H := hP
  have hD : va_D A [(h0, .inr (4, ofL 3 (updV (updV Fh0 0 (.int 1)) 1 (.int n0))))] := hD
  refine lv_aload_n hx hb dX4_offer_41 rfl (lv_at hl 0 rfl) ?_
  refine lv_iload_n hx hb dX4_offer_42 rfl (lv_at hl 2 rfl) ?_
  refine k_put fl_X4_15 ft_X4_2 C hP hD hS 0 rfl rfl rfl dX4_offer_43 (fun H locs hP hD hS => ?_)
  have hP : va_P G.1 vwCl [(h0, .inr (4, ofL 3 (updV (updV (updV Fh0 0 (.int 1)) 1 (.int n0)) 2 (.int n1))))] H := hP
  have hD : va_D A [(h0, .inr (4, ofL 3 (updV (updV (updV Fh0 0 (.int 1)) 1 (.int n0)) 2 (.int n1))))] := hD
  exact k_vret C hr hlk hP hD hS () (trivial) [0] rfl rfl (Nat.le_of_ble_eq_true rfl) (Nat.le_of_ble_eq_true rfl) dX4_offer_46
set_option maxHeartbeats 4000000 in
set_option maxRecDepth 100000 in
theorem c_X10_lessonCount (l : Launch) (G : kG) (sz : Nat) (h0 : Nat) (Fh0 : Nat → Value) (ad : Nat) (Fad : Nat → Value) (ap : Nat) (Fap : Nat → Value) (e_h0_0 : Fh0 0 = .ref ad) (e_ad_7 : Fad 7 = .ref ap) (e_ap_2 : Fap 2 = .int 0) : kM l yX10_lessonCount cX10_lessonCount 1 (some .int) { frames := 6, cells := 0, slots := 0, locals := 110 } G [.ref h0] [(h0, .inr (10, ofL 7 Fh0)), (ad, .inr (1, ofL 10 Fad)), (ap, .inr (7, ofL 5 Fap))] sz (kQi G (S := Unit) (fun r (_ : Unit) => r = 0) (fun _ => [(h0, .inr (10, ofL 7 Fh0)), (ad, .inr (1, ofL 10 Fad)), (ap, .inr (7, ofL 5 Fap))])) := by
  refine kM.of (by decide) (Nat.le_of_ble_eq_true rfl) ?_
  intro p e s m below meth c A ls H C hr hlk hnm hP hD hS hl
  have C : kC G p s m c cX10_lessonCount 1 RX10 A := C
  have hx := C.1
  have hb := C.2.1
  have hl : lv_has ls 1 [(0, .ref h0)] := hl
  refine lv_aload_n hx hb dX10_lessonCount_0 rfl (lv_at hl 0 rfl) ?_
  refine k_get (v := .ref ad) fl_X10_22 C hP 0 rfl e_h0_0 dX10_lessonCount_1 ?_
  refine k_getN (v := .ref ap) fl_X10_33 C hP 1 rfl e_ad_7 dX10_lessonCount_4 ?_
  refine k_getN (v := .int 0) fl_X10_37 C hP 2 rfl e_ap_2 dX10_lessonCount_7 ?_
  exact k_iret C hr hlk hP hD hS () (rfl) [0, 1, 2] rfl rfl (Nat.le_of_ble_eq_true rfl) (Nat.le_of_ble_eq_true rfl) dX10_lessonCount_10
set_option maxHeartbeats 4000000 in
set_option maxRecDepth 100000 in
theorem c_X10_withoutOne (l : Launch) (G : kG) (sz : Nat) (h0 : Nat) (Fh0 : Nat → Value) (ad : Nat) (al : Nat) (Fad : Nat → Value) (ap : Nat) (Fap : Nat → Value) (Fal : Nat → Value) (e_h0_0 : Fh0 0 = .ref ad) (e_h0_2 : Fh0 2 = .ref al) (e_ad_7 : Fad 7 = .ref ap) (e_ap_2 : Fap 2 = .int 0) : kM l yX10_withoutOne cX10_withoutOne 2 (some .int) { frames := 7, cells := 0, slots := 0, locals := 131 } G [.ref h0] [(h0, .inr (10, ofL 7 Fh0)), (ad, .inr (1, ofL 10 Fad)), (ap, .inr (7, ofL 5 Fap)), (al, .inr (4, ofL 3 Fal))] sz (kQi G (S := Unit) (fun r (_ : Unit) => r = -1) (fun _ => [(h0, .inr (10, ofL 7 Fh0)), (ad, .inr (1, ofL 10 Fad)), (ap, .inr (7, ofL 5 Fap)), (al, .inr (4, ofL 3 (updV Fal 0 (.int 0))))])) := by
  refine kM.of (by decide) (Nat.le_of_ble_eq_true rfl) ?_
  intro p e s m below meth c A ls H C hr hlk hnm hP hD hS hl
  have C : kC G p s m c cX10_withoutOne 2 RX10 A := C
  have hx := C.1
  have hb := C.2.1
  have hl : lv_has ls 2 [(0, .ref h0)] := hl
  refine lv_aload_n hx hb dX10_withoutOne_0 rfl (lv_at hl 0 rfl) ?_
  refine k_get (v := .ref al) fl_X10_12 C hP 0 rfl e_h0_2 dX10_withoutOne_1 ?_
  refine k_callNv (wr := [(h0, .inr (10, ofL 7 Fh0)), (ad, .inr (1, ofL 10 Fad)), (ap, .inr (7, ofL 5 Fap))]) (rest := []) li_X10_81 C (c_X4_clear l G H.size al Fal) (kR rfl) hP hD hS [3] [0, 1, 2] rfl rfl rfl rfl (by decide) 0 4 rfl rfl rfl hl.1 rfl (Nat.le_of_ble_eq_true rfl) dX10_withoutOne_4 (fun uu3 H locs hw1 hP hD hS => ?_)
  have hP : va_P G.1 vwCl [(h0, .inr (10, ofL 7 Fh0)), (ad, .inr (1, ofL 10 Fad)), (ap, .inr (7, ofL 5 Fap)), (al, .inr (4, ofL 3 (updV Fal 0 (.int 0))))] H := hP
  have hD : va_D A [(h0, .inr (10, ofL 7 Fh0)), (ad, .inr (1, ofL 10 Fad)), (ap, .inr (7, ofL 5 Fap)), (al, .inr (4, ofL 3 (updV Fal 0 (.int 0))))] := hD
  refine lv_iconst (v := 0) hx hb dX10_withoutOne_7 (by decide) ?_
  refine lv_istore_n (lv' := [(1, .int 0), (0, .ref h0)]) hx hb dX10_withoutOne_8 rfl hl (by decide) rfl (fun ls hl => ?_)
  refine lv_iload_n hx hb dX10_withoutOne_9 rfl (lv_at hl 0 rfl) ?_
  refine lv_aload_n hx hb dX10_withoutOne_10 rfl (lv_at hl 1 rfl) ?_
  refine k_callVi (wr := [(al, .inr (4, ofL 3 (updV Fal 0 (.int 0))))]) (rest := [.int 0]) li_X10_64 C (c_X10_lessonCount l G H.size h0 Fh0 ad Fad ap Fap e_h0_0 e_ad_7 e_ap_2) (kR rfl) hP hD hS [0, 1, 2] [3] rfl rfl rfl rfl (by decide) 0 10 rfl rfl rfl hl.1 rfl (Nat.le_of_ble_eq_true rfl) dX10_withoutOne_11 (fun rr5 uu6 H locs hw4 hP hD hS => ?_)
  obtain rfl : rr5 = 0 := hw4
  have hP : va_P G.1 vwCl [(al, .inr (4, ofL 3 (updV Fal 0 (.int 0)))), (h0, .inr (10, ofL 7 Fh0)), (ad, .inr (1, ofL 10 Fad)), (ap, .inr (7, ofL 5 Fap))] H := hP
  have hD : va_D A [(al, .inr (4, ofL 3 (updV Fal 0 (.int 0)))), (h0, .inr (10, ofL 7 Fh0)), (ad, .inr (1, ofL 10 Fad)), (ap, .inr (7, ofL 5 Fap))] := hD
  refine lv_icmp_ge (x := 0) (y := 0) (tgt := 37) hx hb dX10_withoutOne_14 (by decide) (fun c_7 => ?_) (fun c_7 => ?_)
  rotate_left
  · exact absurd (by decide) c_7
  refine lv_aload_n hx hb dX10_withoutOne_37 rfl (lv_at hl 1 rfl) ?_
  refine k_get (v := .ref al) fl_X10_12 C hP 1 rfl e_h0_2 dX10_withoutOne_38 ?_
  refine lv_iconst (v := 0) hx hb dX10_withoutOne_41 (by decide) ?_
  refine k_callNi (wr := [(h0, .inr (10, ofL 7 Fh0)), (ad, .inr (1, ofL 10 Fad)), (ap, .inr (7, ofL 5 Fap))]) (rest := []) li_X10_97 C (c_X4_told0 l G H.size al 0 (updV Fal 0 (.int 0)) rfl) (kR rfl) hP hD hS [0] [1, 2, 3] rfl rfl rfl rfl (by decide) 0 4 rfl rfl rfl hl.1 rfl (Nat.le_of_ble_eq_true rfl) dX10_withoutOne_42 (fun rr9 uu10 H locs hw8 hP hD hS => ?_)
  obtain rfl : rr9 = -1 := hw8
  have hP : va_P G.1 vwCl [(h0, .inr (10, ofL 7 Fh0)), (ad, .inr (1, ofL 10 Fad)), (ap, .inr (7, ofL 5 Fap)), (al, .inr (4, ofL 3 (updV Fal 0 (.int 0))))] H := hP
  have hD : va_D A [(h0, .inr (10, ofL 7 Fh0)), (ad, .inr (1, ofL 10 Fad)), (ap, .inr (7, ofL 5 Fap)), (al, .inr (4, ofL 3 (updV Fal 0 (.int 0))))] := hD
  exact k_iret C hr hlk hP hD hS () (rfl) [0, 1, 2, 3] rfl rfl (Nat.le_of_ble_eq_true rfl) (Nat.le_of_ble_eq_true rfl) dX10_withoutOne_45
set_option maxHeartbeats 4000000 in
set_option maxRecDepth 100000 in
theorem c_X10_withoutTwo (l : Launch) (G : kG) (sz : Nat) (h0 : Nat) (n0 : Int32) (Fh0 : Nat → Value) (ad : Nat) (al : Nat) (Fad : Nat → Value) (ap : Nat) (Fap : Nat → Value) (Fal : Nat → Value) (e_h0_0 : Fh0 0 = .ref ad) (e_h0_2 : Fh0 2 = .ref al) (e_ad_7 : Fad 7 = .ref ap) (e_ap_2 : Fap 2 = .int 0) : kM l yX10_withoutTwo cX10_withoutTwo 4 (some .int) { frames := 7, cells := 0, slots := 0, locals := 131 } G [.ref h0, .int n0] [(h0, .inr (10, ofL 7 Fh0)), (ad, .inr (1, ofL 10 Fad)), (ap, .inr (7, ofL 5 Fap)), (al, .inr (4, ofL 3 Fal))] sz (kQi G (S := Unit) (fun r (_ : Unit) => r = -1) (fun _ => [(h0, .inr (10, ofL 7 Fh0)), (ad, .inr (1, ofL 10 Fad)), (ap, .inr (7, ofL 5 Fap)), (al, .inr (4, ofL 3 (updV Fal 0 (.int 0))))])) := by
  refine kM.of (by decide) (Nat.le_of_ble_eq_true rfl) ?_
  intro p e s m below meth c A ls H C hr hlk hnm hP hD hS hl
  have C : kC G p s m c cX10_withoutTwo 4 RX10 A := C
  have hx := C.1
  have hb := C.2.1
  have hl : lv_has ls 4 [(0, .ref h0), (1, .int n0)] := hl
  refine lv_aload_n hx hb dX10_withoutTwo_0 rfl (lv_at hl 0 rfl) ?_
  refine k_get (v := .ref al) fl_X10_12 C hP 0 rfl e_h0_2 dX10_withoutTwo_1 ?_
  refine k_callNv (wr := [(h0, .inr (10, ofL 7 Fh0)), (ad, .inr (1, ofL 10 Fad)), (ap, .inr (7, ofL 5 Fap))]) (rest := []) li_X10_81 C (c_X4_clear l G H.size al Fal) (kR rfl) hP hD hS [3] [0, 1, 2] rfl rfl rfl rfl (by decide) 0 4 rfl rfl rfl hl.1 rfl (Nat.le_of_ble_eq_true rfl) dX10_withoutTwo_4 (fun uu3 H locs hw1 hP hD hS => ?_)
  have hP : va_P G.1 vwCl [(h0, .inr (10, ofL 7 Fh0)), (ad, .inr (1, ofL 10 Fad)), (ap, .inr (7, ofL 5 Fap)), (al, .inr (4, ofL 3 (updV Fal 0 (.int 0))))] H := hP
  have hD : va_D A [(h0, .inr (10, ofL 7 Fh0)), (ad, .inr (1, ofL 10 Fad)), (ap, .inr (7, ofL 5 Fap)), (al, .inr (4, ofL 3 (updV Fal 0 (.int 0))))] := hD
  refine lv_iconst (v := 0) hx hb dX10_withoutTwo_7 (by decide) ?_
  refine lv_istore_n (lv' := [(2, .int 0), (0, .ref h0), (1, .int n0)]) hx hb dX10_withoutTwo_8 rfl hl (by decide) rfl (fun ls hl => ?_)
  refine lv_iload_n hx hb dX10_withoutTwo_9 rfl (lv_at hl 0 rfl) ?_
  refine lv_aload_n hx hb dX10_withoutTwo_10 rfl (lv_at hl 1 rfl) ?_
  refine k_callVi (wr := [(al, .inr (4, ofL 3 (updV Fal 0 (.int 0))))]) (rest := [.int 0]) li_X10_64 C (c_X10_lessonCount l G H.size h0 Fh0 ad Fad ap Fap e_h0_0 e_ad_7 e_ap_2) (kR rfl) hP hD hS [0, 1, 2] [3] rfl rfl rfl rfl (by decide) 0 10 rfl rfl rfl hl.1 rfl (Nat.le_of_ble_eq_true rfl) dX10_withoutTwo_11 (fun rr5 uu6 H locs hw4 hP hD hS => ?_)
  obtain rfl : rr5 = 0 := hw4
  have hP : va_P G.1 vwCl [(al, .inr (4, ofL 3 (updV Fal 0 (.int 0)))), (h0, .inr (10, ofL 7 Fh0)), (ad, .inr (1, ofL 10 Fad)), (ap, .inr (7, ofL 5 Fap))] H := hP
  have hD : va_D A [(al, .inr (4, ofL 3 (updV Fal 0 (.int 0)))), (h0, .inr (10, ofL 7 Fh0)), (ad, .inr (1, ofL 10 Fad)), (ap, .inr (7, ofL 5 Fap))] := hD
  refine lv_icmp_ge (x := 0) (y := 0) (tgt := 60) hx hb dX10_withoutTwo_14 (by decide) (fun c_7 => ?_) (fun c_7 => ?_)
  rotate_left
  · exact absurd (by decide) c_7
  refine lv_aload_n hx hb dX10_withoutTwo_60 rfl (lv_at hl 1 rfl) ?_
  refine k_get (v := .ref al) fl_X10_12 C hP 1 rfl e_h0_2 dX10_withoutTwo_61 ?_
  refine lv_iload_n hx hb dX10_withoutTwo_64 rfl (lv_at hl 2 rfl) ?_
  refine k_callNi (wr := [(h0, .inr (10, ofL 7 Fh0)), (ad, .inr (1, ofL 10 Fad)), (ap, .inr (7, ofL 5 Fap))]) (rest := []) li_X10_97 C (c_X4_told0 l G H.size al n0 (updV Fal 0 (.int 0)) rfl) (kR rfl) hP hD hS [0] [1, 2, 3] rfl rfl rfl rfl (by decide) 0 4 rfl rfl rfl hl.1 rfl (Nat.le_of_ble_eq_true rfl) dX10_withoutTwo_65 (fun rr9 uu10 H locs hw8 hP hD hS => ?_)
  obtain rfl : rr9 = -1 := hw8
  have hP : va_P G.1 vwCl [(h0, .inr (10, ofL 7 Fh0)), (ad, .inr (1, ofL 10 Fad)), (ap, .inr (7, ofL 5 Fap)), (al, .inr (4, ofL 3 (updV Fal 0 (.int 0))))] H := hP
  have hD : va_D A [(h0, .inr (10, ofL 7 Fh0)), (ad, .inr (1, ofL 10 Fad)), (ap, .inr (7, ofL 5 Fap)), (al, .inr (4, ofL 3 (updV Fal 0 (.int 0))))] := hD
  exact k_iret C hr hlk hP hD hS () (rfl) [0, 1, 2, 3] rfl rfl (Nat.le_of_ble_eq_true rfl) (Nat.le_of_ble_eq_true rfl) dX10_withoutTwo_68
set_option maxHeartbeats 4000000 in
set_option maxRecDepth 100000 in
theorem c_X10_swapped (l : Launch) (G : kG) (sz : Nat) (h0 : Nat) (n0 : Int32) (Fh0 : Nat → Value) (ad : Nat) (al : Nat) (Fad : Nat → Value) (ap : Nat) (Fap : Nat → Value) (Fal : Nat → Value) (e_h0_0 : Fh0 0 = .ref ad) (e_h0_2 : Fh0 2 = .ref al) (e_ad_7 : Fad 7 = .ref ap) (e_ap_2 : Fap 2 = .int 0) : kM l yX10_swapped cX10_swapped 5 (some .int) { frames := 8, cells := 0, slots := 0, locals := 154 } G [.ref h0, .int n0] [(h0, .inr (10, ofL 7 Fh0)), (ad, .inr (1, ofL 10 Fad)), (ap, .inr (7, ofL 5 Fap)), (al, .inr (4, ofL 3 Fal))] sz (kQi G (S := Unit) (fun r (_ : Unit) => r = -1) (fun _ => [(al, .inr (4, ofL 3 (updV Fal 0 (.int 0)))), (h0, .inr (10, ofL 7 Fh0)), (ad, .inr (1, ofL 10 Fad)), (ap, .inr (7, ofL 5 Fap))])) := by
  refine kM.of (by decide) (Nat.le_of_ble_eq_true rfl) ?_
  intro p e s m below meth c A ls H C hr hlk hnm hP hD hS hl
  have C : kC G p s m c cX10_swapped 5 RX10 A := C
  have hx := C.1
  have hb := C.2.1
  have hl : lv_has ls 5 [(0, .ref h0), (1, .int n0)] := hl
  refine lv_aload_n hx hb dX10_swapped_0 rfl (lv_at hl 0 rfl) ?_
  refine k_get (v := .ref ad) fl_X10_22 C hP 0 rfl e_h0_0 dX10_swapped_1 ?_
  refine lv_iconst (v := 0) hx hb dX10_swapped_4 (by decide) ?_
  refine k_callNi (wr := [(h0, .inr (10, ofL 7 Fh0)), (al, .inr (4, ofL 3 Fal))]) (rest := []) li_X10_77 C (c_X1_lostFrom l G H.size ad Fad ap Fap e_ad_7 e_ap_2) (kR rfl) hP hD hS [1, 2] [0, 3] rfl rfl rfl rfl (by decide) 0 1 rfl rfl rfl hl.1 rfl (Nat.le_of_ble_eq_true rfl) dX10_swapped_5 (fun rr2 uu3 H locs hw1 hP hD hS => ?_)
  obtain rfl : rr2 = 0 := hw1
  have hP : va_P G.1 vwCl [(h0, .inr (10, ofL 7 Fh0)), (al, .inr (4, ofL 3 Fal)), (ad, .inr (1, ofL 10 Fad)), (ap, .inr (7, ofL 5 Fap))] H := hP
  have hD : va_D A [(h0, .inr (10, ofL 7 Fh0)), (al, .inr (4, ofL 3 Fal)), (ad, .inr (1, ofL 10 Fad)), (ap, .inr (7, ofL 5 Fap))] := hD
  refine lv_istore_n (lv' := [(2, .int 0), (0, .ref h0), (1, .int n0)]) hx hb dX10_swapped_8 rfl hl (by decide) rfl (fun ls hl => ?_)
  refine lv_aload_n hx hb dX10_swapped_9 rfl (lv_at hl 1 rfl) ?_
  refine k_get (v := .ref al) fl_X10_12 C hP 0 rfl e_h0_2 dX10_swapped_10 ?_
  refine k_callNv (wr := [(h0, .inr (10, ofL 7 Fh0)), (ad, .inr (1, ofL 10 Fad)), (ap, .inr (7, ofL 5 Fap))]) (rest := []) li_X10_81 C (c_X4_clear l G H.size al Fal) (kR rfl) hP hD hS [1] [0, 2, 3] rfl rfl rfl rfl (by decide) 0 4 rfl rfl rfl hl.1 rfl (Nat.le_of_ble_eq_true rfl) dX10_swapped_13 (fun uu6 H locs hw4 hP hD hS => ?_)
  have hP : va_P G.1 vwCl [(h0, .inr (10, ofL 7 Fh0)), (ad, .inr (1, ofL 10 Fad)), (ap, .inr (7, ofL 5 Fap)), (al, .inr (4, ofL 3 (updV Fal 0 (.int 0))))] H := hP
  have hD : va_D A [(h0, .inr (10, ofL 7 Fh0)), (ad, .inr (1, ofL 10 Fad)), (ap, .inr (7, ofL 5 Fap)), (al, .inr (4, ofL 3 (updV Fal 0 (.int 0))))] := hD
  refine lv_iconst (v := 0) hx hb dX10_swapped_16 (by decide) ?_
  refine lv_istore_n (lv' := [(3, .int 0), (2, .int 0), (0, .ref h0), (1, .int n0)]) hx hb dX10_swapped_17 rfl hl (by decide) rfl (fun ls hl => ?_)
  refine lv_iload_n hx hb dX10_swapped_18 rfl (lv_at hl 0 rfl) ?_
  refine lv_aload_n hx hb dX10_swapped_19 rfl (lv_at hl 2 rfl) ?_
  refine k_callVi (wr := [(al, .inr (4, ofL 3 (updV Fal 0 (.int 0))))]) (rest := [.int 0]) li_X10_64 C (c_X10_lessonCount l G H.size h0 Fh0 ad Fad ap Fap e_h0_0 e_ad_7 e_ap_2) (kR rfl) hP hD hS [0, 1, 2] [3] rfl rfl rfl rfl (by decide) 0 10 rfl rfl rfl hl.1 rfl (Nat.le_of_ble_eq_true rfl) dX10_swapped_20 (fun rr8 uu9 H locs hw7 hP hD hS => ?_)
  obtain rfl : rr8 = 0 := hw7
  have hP : va_P G.1 vwCl [(al, .inr (4, ofL 3 (updV Fal 0 (.int 0)))), (h0, .inr (10, ofL 7 Fh0)), (ad, .inr (1, ofL 10 Fad)), (ap, .inr (7, ofL 5 Fap))] H := hP
  have hD : va_D A [(al, .inr (4, ofL 3 (updV Fal 0 (.int 0)))), (h0, .inr (10, ofL 7 Fh0)), (ad, .inr (1, ofL 10 Fad)), (ap, .inr (7, ofL 5 Fap))] := hD
  refine lv_icmp_ge (x := 0) (y := 0) (tgt := 88) hx hb dX10_swapped_23 (by decide) (fun c_10 => ?_) (fun c_10 => ?_)
  rotate_left
  · exact absurd (by decide) c_10
  refine lv_aload_n hx hb dX10_swapped_88 rfl (lv_at hl 2 rfl) ?_
  refine k_get (v := .ref al) fl_X10_12 C hP 1 rfl e_h0_2 dX10_swapped_89 ?_
  refine k_getN (v := .int 0) fl_X10_90 C hP 0 rfl rfl dX10_swapped_92 ?_
  refine lv_if_eq (x := 0) (tgt := 120) hx hb dX10_swapped_95 (by decide) (fun c_11 => ?_) (fun c_11 => ?_)
  rotate_left
  · exact absurd (by decide) c_11
  refine lv_iconst (v := -1) hx hb dX10_swapped_120 (by decide) ?_
  exact k_iret C hr hlk hP hD hS () (rfl) [0, 1, 2, 3] rfl rfl (Nat.le_of_ble_eq_true rfl) (Nat.le_of_ble_eq_true rfl) dX10_swapped_121
set_option maxHeartbeats 4000000 in
set_option maxRecDepth 100000 in
theorem c_X10_leastByPause (l : Launch) (G : kG) (sz : Nat) (h0 : Nat) (n0 : Int32) (n1 : Int32) (Fh0 : Nat → Value) (ad : Nat) (al : Nat) (Fad : Nat → Value) (ap : Nat) (Fap : Nat → Value) (Fal : Nat → Value) (e_h0_0 : Fh0 0 = .ref ad) (e_h0_2 : Fh0 2 = .ref al) (e_ad_7 : Fad 7 = .ref ap) (e_ap_2 : Fap 2 = .int 0) : kM l yX10_leastByPause cX10_leastByPause 5 (some .int) { frames := 7, cells := 0, slots := 0, locals := 131 } G [.ref h0, .int n0, .int n1] [(h0, .inr (10, ofL 7 Fh0)), (ad, .inr (1, ofL 10 Fad)), (ap, .inr (7, ofL 5 Fap)), (al, .inr (4, ofL 3 Fal))] sz (kQi G (S := Unit) (fun r (_ : Unit) => r = -1) (fun _ => [(h0, .inr (10, ofL 7 Fh0)), (ad, .inr (1, ofL 10 Fad)), (ap, .inr (7, ofL 5 Fap)), (al, .inr (4, ofL 3 (updV Fal 0 (.int 0))))])) := by
  refine kM.of (by decide) (Nat.le_of_ble_eq_true rfl) ?_
  intro p e s m below meth c A ls H C hr hlk hnm hP hD hS hl
  have C : kC G p s m c cX10_leastByPause 5 RX10 A := C
  have hx := C.1
  have hb := C.2.1
  have hl : lv_has ls 5 [(0, .ref h0), (1, .int n0), (2, .int n1)] := hl
  refine lv_aload_n hx hb dX10_leastByPause_0 rfl (lv_at hl 0 rfl) ?_
  refine k_get (v := .ref al) fl_X10_12 C hP 0 rfl e_h0_2 dX10_leastByPause_1 ?_
  refine k_callNv (wr := [(h0, .inr (10, ofL 7 Fh0)), (ad, .inr (1, ofL 10 Fad)), (ap, .inr (7, ofL 5 Fap))]) (rest := []) li_X10_81 C (c_X4_clear l G H.size al Fal) (kR rfl) hP hD hS [3] [0, 1, 2] rfl rfl rfl rfl (by decide) 0 4 rfl rfl rfl hl.1 rfl (Nat.le_of_ble_eq_true rfl) dX10_leastByPause_4 (fun uu3 H locs hw1 hP hD hS => ?_)
  have hP : va_P G.1 vwCl [(h0, .inr (10, ofL 7 Fh0)), (ad, .inr (1, ofL 10 Fad)), (ap, .inr (7, ofL 5 Fap)), (al, .inr (4, ofL 3 (updV Fal 0 (.int 0))))] H := hP
  have hD : va_D A [(h0, .inr (10, ofL 7 Fh0)), (ad, .inr (1, ofL 10 Fad)), (ap, .inr (7, ofL 5 Fap)), (al, .inr (4, ofL 3 (updV Fal 0 (.int 0))))] := hD
  refine lv_iconst (v := 0) hx hb dX10_leastByPause_7 (by decide) ?_
  refine lv_istore_n (lv' := [(3, .int 0), (0, .ref h0), (1, .int n0), (2, .int n1)]) hx hb dX10_leastByPause_8 rfl hl (by decide) rfl (fun ls hl => ?_)
  refine lv_iload_n hx hb dX10_leastByPause_9 rfl (lv_at hl 0 rfl) ?_
  refine lv_aload_n hx hb dX10_leastByPause_10 rfl (lv_at hl 1 rfl) ?_
  refine k_callVi (wr := [(al, .inr (4, ofL 3 (updV Fal 0 (.int 0))))]) (rest := [.int 0]) li_X10_64 C (c_X10_lessonCount l G H.size h0 Fh0 ad Fad ap Fap e_h0_0 e_ad_7 e_ap_2) (kR rfl) hP hD hS [0, 1, 2] [3] rfl rfl rfl rfl (by decide) 0 10 rfl rfl rfl hl.1 rfl (Nat.le_of_ble_eq_true rfl) dX10_leastByPause_11 (fun rr5 uu6 H locs hw4 hP hD hS => ?_)
  obtain rfl : rr5 = 0 := hw4
  have hP : va_P G.1 vwCl [(al, .inr (4, ofL 3 (updV Fal 0 (.int 0)))), (h0, .inr (10, ofL 7 Fh0)), (ad, .inr (1, ofL 10 Fad)), (ap, .inr (7, ofL 5 Fap))] H := hP
  have hD : va_D A [(al, .inr (4, ofL 3 (updV Fal 0 (.int 0)))), (h0, .inr (10, ofL 7 Fh0)), (ad, .inr (1, ofL 10 Fad)), (ap, .inr (7, ofL 5 Fap))] := hD
  refine lv_icmp_ge (x := 0) (y := 0) (tgt := 72) hx hb dX10_leastByPause_14 (by decide) (fun c_7 => ?_) (fun c_7 => ?_)
  rotate_left
  · exact absurd (by decide) c_7
  refine lv_aload_n hx hb dX10_leastByPause_72 rfl (lv_at hl 1 rfl) ?_
  refine k_get (v := .ref al) fl_X10_12 C hP 1 rfl e_h0_2 dX10_leastByPause_73 ?_
  refine lv_iload_n hx hb dX10_leastByPause_76 rfl (lv_at hl 3 rfl) ?_
  refine k_callNi (wr := [(h0, .inr (10, ofL 7 Fh0)), (ad, .inr (1, ofL 10 Fad)), (ap, .inr (7, ofL 5 Fap))]) (rest := []) li_X10_97 C (c_X4_told0 l G H.size al n1 (updV Fal 0 (.int 0)) rfl) (kR rfl) hP hD hS [0] [1, 2, 3] rfl rfl rfl rfl (by decide) 0 4 rfl rfl rfl hl.1 rfl (Nat.le_of_ble_eq_true rfl) dX10_leastByPause_77 (fun rr9 uu10 H locs hw8 hP hD hS => ?_)
  obtain rfl : rr9 = -1 := hw8
  have hP : va_P G.1 vwCl [(h0, .inr (10, ofL 7 Fh0)), (ad, .inr (1, ofL 10 Fad)), (ap, .inr (7, ofL 5 Fap)), (al, .inr (4, ofL 3 (updV Fal 0 (.int 0))))] H := hP
  have hD : va_D A [(h0, .inr (10, ofL 7 Fh0)), (ad, .inr (1, ofL 10 Fad)), (ap, .inr (7, ofL 5 Fap)), (al, .inr (4, ofL 3 (updV Fal 0 (.int 0))))] := hD
  exact k_iret C hr hlk hP hD hS () (rfl) [0, 1, 2, 3] rfl rfl (Nat.le_of_ble_eq_true rfl) (Nat.le_of_ble_eq_true rfl) dX10_leastByPause_80
set_option maxHeartbeats 4000000 in
set_option maxRecDepth 100000 in
theorem c_X10_findBeginners (l : Launch) (G : kG) (sz : Nat) (h0 : Nat) (Fh0 : Nat → Value) (ad : Nat) (Fad : Nat → Value) (ap : Nat) (Fap : Nat → Value) (e_h0_0 : Fh0 0 = .ref ad) (e_ad_7 : Fad 7 = .ref ap) (e_ap_2 : Fap 2 = .int 0) : kM l yX10_findBeginners cX10_findBeginners 4 none { frames := 7, cells := 0, slots := 0, locals := 130 } G [.ref h0] [(h0, .inr (10, ofL 7 Fh0)), (ad, .inr (1, ofL 10 Fad)), (ap, .inr (7, ofL 5 Fap))] sz (kQv G (S := Unit) (fun (_ : Unit) => True) (fun _ => [(h0, .inr (10, ofL 7 (updV (updV (updV Fh0 4 (.int 0)) 5 (.int (-1))) 6 (.int (-1))))), (ad, .inr (1, ofL 10 Fad)), (ap, .inr (7, ofL 5 Fap))])) := by
  refine kM.of (by decide) (Nat.le_of_ble_eq_true rfl) ?_
  intro p e s m below meth c A ls H C hr hlk hnm hP hD hS hl
  have C : kC G p s m c cX10_findBeginners 4 RX10 A := C
  have hx := C.1
  have hb := C.2.1
  have hl : lv_has ls 4 [(0, .ref h0)] := hl
  refine lv_aload_n hx hb dX10_findBeginners_0 rfl (lv_at hl 0 rfl) ?_
  refine lv_iconst (v := 0) hx hb dX10_findBeginners_1 (by decide) ?_
  refine k_put fl_X10_134 ft_X10_4 C hP hD hS 0 rfl rfl rfl dX10_findBeginners_2 (fun H locs hP hD hS => ?_)
  have hP : va_P G.1 vwCl [(h0, .inr (10, ofL 7 (updV Fh0 4 (.int 0)))), (ad, .inr (1, ofL 10 Fad)), (ap, .inr (7, ofL 5 Fap))] H := hP
  have hD : va_D A [(h0, .inr (10, ofL 7 (updV Fh0 4 (.int 0)))), (ad, .inr (1, ofL 10 Fad)), (ap, .inr (7, ofL 5 Fap))] := hD
  refine lv_aload_n hx hb dX10_findBeginners_5 rfl (lv_at hl 0 rfl) ?_
  refine lv_iconst (v := -1) hx hb dX10_findBeginners_6 (by decide) ?_
  refine k_put fl_X10_137 ft_X10_5 C hP hD hS 0 rfl rfl rfl dX10_findBeginners_7 (fun H locs hP hD hS => ?_)
  have hP : va_P G.1 vwCl [(h0, .inr (10, ofL 7 (updV (updV Fh0 4 (.int 0)) 5 (.int (-1))))), (ad, .inr (1, ofL 10 Fad)), (ap, .inr (7, ofL 5 Fap))] H := hP
  have hD : va_D A [(h0, .inr (10, ofL 7 (updV (updV Fh0 4 (.int 0)) 5 (.int (-1))))), (ad, .inr (1, ofL 10 Fad)), (ap, .inr (7, ofL 5 Fap))] := hD
  refine lv_aload_n hx hb dX10_findBeginners_10 rfl (lv_at hl 0 rfl) ?_
  refine lv_iconst (v := -1) hx hb dX10_findBeginners_11 (by decide) ?_
  refine k_put fl_X10_140 ft_X10_6 C hP hD hS 0 rfl rfl rfl dX10_findBeginners_12 (fun H locs hP hD hS => ?_)
  have hP : va_P G.1 vwCl [(h0, .inr (10, ofL 7 (updV (updV (updV Fh0 4 (.int 0)) 5 (.int (-1))) 6 (.int (-1))))), (ad, .inr (1, ofL 10 Fad)), (ap, .inr (7, ofL 5 Fap))] H := hP
  have hD : va_D A [(h0, .inr (10, ofL 7 (updV (updV (updV Fh0 4 (.int 0)) 5 (.int (-1))) 6 (.int (-1))))), (ad, .inr (1, ofL 10 Fad)), (ap, .inr (7, ofL 5 Fap))] := hD
  refine lv_iconst (v := 0) hx hb dX10_findBeginners_15 (by decide) ?_
  refine lv_istore_n (lv' := [(1, .int 0), (0, .ref h0)]) hx hb dX10_findBeginners_16 rfl hl (by decide) rfl (fun ls hl => ?_)
  refine lv_iload_n hx hb dX10_findBeginners_17 rfl (lv_at hl 0 rfl) ?_
  refine lv_aload_n hx hb dX10_findBeginners_18 rfl (lv_at hl 1 rfl) ?_
  refine k_callVi (wr := []) (rest := [.int 0]) li_X10_64 C (c_X10_lessonCount l G H.size h0 (updV (updV (updV Fh0 4 (.int 0)) 5 (.int (-1))) 6 (.int (-1))) ad Fad ap Fap e_h0_0 e_ad_7 e_ap_2) (kR rfl) hP hD hS [0, 1, 2] [] rfl rfl rfl rfl (by decide) 0 10 rfl rfl rfl hl.1 rfl (Nat.le_of_ble_eq_true rfl) dX10_findBeginners_19 (fun rr2 uu3 H locs hw1 hP hD hS => ?_)
  obtain rfl : rr2 = 0 := hw1
  have hP : va_P G.1 vwCl [(h0, .inr (10, ofL 7 (updV (updV (updV Fh0 4 (.int 0)) 5 (.int (-1))) 6 (.int (-1))))), (ad, .inr (1, ofL 10 Fad)), (ap, .inr (7, ofL 5 Fap))] H := hP
  have hD : va_D A [(h0, .inr (10, ofL 7 (updV (updV (updV Fh0 4 (.int 0)) 5 (.int (-1))) 6 (.int (-1))))), (ad, .inr (1, ofL 10 Fad)), (ap, .inr (7, ofL 5 Fap))] := hD
  refine lv_icmp_ge (x := 0) (y := 0) (tgt := 104) hx hb dX10_findBeginners_22 (by decide) (fun c_4 => ?_) (fun c_4 => ?_)
  rotate_left
  · exact absurd (by decide) c_4
  exact k_vret C hr hlk hP hD hS () (trivial) [0, 1, 2] rfl rfl (Nat.le_of_ble_eq_true rfl) (Nat.le_of_ble_eq_true rfl) dX10_findBeginners_104
set_option maxHeartbeats 4000000 in
set_option maxRecDepth 100000 in
theorem c_X10_lostByRule (l : Launch) (G : kG) (sz : Nat) (h0 : Nat) (n0 : Int32) (Fh0 : Nat → Value) (ad : Nat) (ah : Nat) (Fad : Nat → Value) (ap : Nat) (Fap : Nat → Value) (Fah : Nat → Value) (n1 : Int32) (e_h0_0 : Fh0 0 = .ref ad) (e_h0_1 : Fh0 1 = .ref ah) (e_ad_7 : Fad 7 = .ref ap) (e_ap_2 : Fap 2 = .int 0) (e_ah_11 : Fah 11 = .int n1) : kM l yX10_lostByRule cX10_lostByRule 4 (some .int) { frames := 8, cells := 0, slots := 0, locals := 154 } G [.ref h0, .int n0] [(h0, .inr (10, ofL 7 Fh0)), (ad, .inr (1, ofL 10 Fad)), (ap, .inr (7, ofL 5 Fap)), (ah, .inr (3, ofL 12 Fah))] sz (kQi G (S := Unit) (fun r (_ : Unit) => r = 0) (fun _ => [(h0, .inr (10, ofL 7 Fh0)), (ah, .inr (3, ofL 12 (updV (updV Fah 11 (.int n0)) 11 (.int n1)))), (ad, .inr (1, ofL 10 Fad)), (ap, .inr (7, ofL 5 Fap))])) := by
  refine kM.of (by decide) (Nat.le_of_ble_eq_true rfl) ?_
  intro p e s m below meth c A ls H C hr hlk hnm hP hD hS hl
  have C : kC G p s m c cX10_lostByRule 4 RX10 A := C
  have hx := C.1
  have hb := C.2.1
  have hl : lv_has ls 4 [(0, .ref h0), (1, .int n0)] := hl
  refine lv_aload_n hx hb dX10_lostByRule_0 rfl (lv_at hl 0 rfl) ?_
  refine k_get (v := .ref ah) fl_X10_32 C hP 0 rfl e_h0_1 dX10_lostByRule_1 ?_
  refine k_getN (v := .int n1) fl_X10_114 C hP 3 rfl e_ah_11 dX10_lostByRule_4 ?_
  refine lv_istore_n (lv' := [(2, .int n1), (0, .ref h0), (1, .int n0)]) hx hb dX10_lostByRule_7 rfl hl (by decide) rfl (fun ls hl => ?_)
  refine lv_aload_n hx hb dX10_lostByRule_8 rfl (lv_at hl 1 rfl) ?_
  refine k_get (v := .ref ah) fl_X10_32 C hP 0 rfl e_h0_1 dX10_lostByRule_9 ?_
  refine lv_iload_n hx hb dX10_lostByRule_12 rfl (lv_at hl 2 rfl) ?_
  refine k_putN fl_X10_114 ft_X3_11 C hP hD hS 3 rfl rfl rfl dX10_lostByRule_13 (fun H locs hP hD hS => ?_)
  have hP : va_P G.1 vwCl [(h0, .inr (10, ofL 7 Fh0)), (ad, .inr (1, ofL 10 Fad)), (ap, .inr (7, ofL 5 Fap)), (ah, .inr (3, ofL 12 (updV Fah 11 (.int n0))))] H := hP
  have hD : va_D A [(h0, .inr (10, ofL 7 Fh0)), (ad, .inr (1, ofL 10 Fad)), (ap, .inr (7, ofL 5 Fap)), (ah, .inr (3, ofL 12 (updV Fah 11 (.int n0))))] := hD
  refine lv_aload_n hx hb dX10_lostByRule_16 rfl (lv_at hl 1 rfl) ?_
  refine k_get (v := .ref ad) fl_X10_22 C hP 0 rfl e_h0_0 dX10_lostByRule_17 ?_
  refine lv_iconst (v := 0) hx hb dX10_lostByRule_20 (by decide) ?_
  refine k_callNi (wr := [(h0, .inr (10, ofL 7 Fh0)), (ah, .inr (3, ofL 12 (updV Fah 11 (.int n0))))]) (rest := []) li_X10_77 C (c_X1_lostFrom l G H.size ad Fad ap Fap e_ad_7 e_ap_2) (kR rfl) hP hD hS [1, 2] [0, 3] rfl rfl rfl rfl (by decide) 0 1 rfl rfl rfl hl.1 rfl (Nat.le_of_ble_eq_true rfl) dX10_lostByRule_21 (fun rr2 uu3 H locs hw1 hP hD hS => ?_)
  obtain rfl : rr2 = 0 := hw1
  have hP : va_P G.1 vwCl [(h0, .inr (10, ofL 7 Fh0)), (ah, .inr (3, ofL 12 (updV Fah 11 (.int n0)))), (ad, .inr (1, ofL 10 Fad)), (ap, .inr (7, ofL 5 Fap))] H := hP
  have hD : va_D A [(h0, .inr (10, ofL 7 Fh0)), (ah, .inr (3, ofL 12 (updV Fah 11 (.int n0)))), (ad, .inr (1, ofL 10 Fad)), (ap, .inr (7, ofL 5 Fap))] := hD
  refine lv_istore_n (lv' := [(3, .int 0), (2, .int n1), (0, .ref h0), (1, .int n0)]) hx hb dX10_lostByRule_24 rfl hl (by decide) rfl (fun ls hl => ?_)
  refine lv_aload_n hx hb dX10_lostByRule_25 rfl (lv_at hl 2 rfl) ?_
  refine k_get (v := .ref ah) fl_X10_32 C hP 0 rfl e_h0_1 dX10_lostByRule_26 ?_
  refine lv_iload_n hx hb dX10_lostByRule_29 rfl (lv_at hl 1 rfl) ?_
  refine k_putN fl_X10_114 ft_X3_11 C hP hD hS 1 rfl rfl rfl dX10_lostByRule_30 (fun H locs hP hD hS => ?_)
  have hP : va_P G.1 vwCl [(h0, .inr (10, ofL 7 Fh0)), (ah, .inr (3, ofL 12 (updV (updV Fah 11 (.int n0)) 11 (.int n1)))), (ad, .inr (1, ofL 10 Fad)), (ap, .inr (7, ofL 5 Fap))] H := hP
  have hD : va_D A [(h0, .inr (10, ofL 7 Fh0)), (ah, .inr (3, ofL 12 (updV (updV Fah 11 (.int n0)) 11 (.int n1)))), (ad, .inr (1, ofL 10 Fad)), (ap, .inr (7, ofL 5 Fap))] := hD
  refine lv_iload_n hx hb dX10_lostByRule_33 rfl (lv_at hl 0 rfl) ?_
  exact k_iret C hr hlk hP hD hS () (rfl) [0, 1, 2, 3] rfl rfl (Nat.le_of_ble_eq_true rfl) (Nat.le_of_ble_eq_true rfl) dX10_lostByRule_34
set_option maxHeartbeats 4000000 in
set_option maxRecDepth 100000 in
theorem c_X10_bestRule (l : Launch) (G : kG) (sz : Nat) (h0 : Nat) (Fh0 : Nat → Value) (ad : Nat) (ah : Nat) (al : Nat) (Fad : Nat → Value) (ap : Nat) (Fap : Nat → Value) (ar : Nat) (Fah : Nat → Value) (n1 : Int32) (Fal : Nat → Value) (Far : Nat → Value) (e_h0_0 : Fh0 0 = .ref ad) (e_h0_1 : Fh0 1 = .ref ah) (e_h0_2 : Fh0 2 = .ref al) (e_ad_7 : Fad 7 = .ref ap) (e_ap_1 : Fap 1 = .ref ar) (e_ap_2 : Fap 2 = .int 0) (e_ah_11 : Fah 11 = .int n1) (e_ar_3 : Far 3 = .int 0) : kM l yX10_bestRule cX10_bestRule 2 (some .int) { frames := 9, cells := 0, slots := 0, locals := 177 } G [.ref h0] [(h0, .inr (10, ofL 7 Fh0)), (ad, .inr (1, ofL 10 Fad)), (ap, .inr (7, ofL 5 Fap)), (ah, .inr (3, ofL 12 Fah)), (al, .inr (4, ofL 3 Fal)), (ar, .inr (8, ofL 5 Far))] sz (kQi G (S := Unit) (fun r (_ : Unit) => r = -1) (fun _ => [(ar, .inr (8, ofL 5 Far)), (h0, .inr (10, ofL 7 Fh0)), (ah, .inr (3, ofL 12 (updV (updV Fah 11 (.int (-1))) 11 (.int n1)))), (ad, .inr (1, ofL 10 Fad)), (ap, .inr (7, ofL 5 Fap)), (al, .inr (4, ofL 3 (updV (updV (updV (updV Fal 0 (.int 0)) 0 (.int 1)) 1 (.int (-1))) 2 (.int 0))))])) := by
  refine kM.of (by decide) (Nat.le_of_ble_eq_true rfl) ?_
  intro p e s m below meth c A ls H C hr hlk hnm hP hD hS hl
  have C : kC G p s m c cX10_bestRule 2 RX10 A := C
  have hx := C.1
  have hb := C.2.1
  have hl : lv_has ls 2 [(0, .ref h0)] := hl
  refine lv_aload_n hx hb dX10_bestRule_0 rfl (lv_at hl 0 rfl) ?_
  refine k_get (v := .ref al) fl_X10_12 C hP 0 rfl e_h0_2 dX10_bestRule_1 ?_
  refine k_callNv (wr := [(h0, .inr (10, ofL 7 Fh0)), (ad, .inr (1, ofL 10 Fad)), (ap, .inr (7, ofL 5 Fap)), (ah, .inr (3, ofL 12 Fah)), (ar, .inr (8, ofL 5 Far))]) (rest := []) li_X10_81 C (c_X4_clear l G H.size al Fal) (kR rfl) hP hD hS [4] [0, 1, 2, 3, 5] rfl rfl rfl rfl (by decide) 0 4 rfl rfl rfl hl.1 rfl (Nat.le_of_ble_eq_true rfl) dX10_bestRule_4 (fun uu3 H locs hw1 hP hD hS => ?_)
  have hP : va_P G.1 vwCl [(h0, .inr (10, ofL 7 Fh0)), (ad, .inr (1, ofL 10 Fad)), (ap, .inr (7, ofL 5 Fap)), (ah, .inr (3, ofL 12 Fah)), (ar, .inr (8, ofL 5 Far)), (al, .inr (4, ofL 3 (updV Fal 0 (.int 0))))] H := hP
  have hD : va_D A [(h0, .inr (10, ofL 7 Fh0)), (ad, .inr (1, ofL 10 Fad)), (ap, .inr (7, ofL 5 Fap)), (ah, .inr (3, ofL 12 Fah)), (ar, .inr (8, ofL 5 Far)), (al, .inr (4, ofL 3 (updV Fal 0 (.int 0))))] := hD
  refine lv_iconst (v := -1) hx hb dX10_bestRule_7 (by decide) ?_
  refine lv_istore_n (lv' := [(1, .int (-1)), (0, .ref h0)]) hx hb dX10_bestRule_8 rfl hl (by decide) rfl (fun ls hl => ?_)
  refine lv_iload_n hx hb dX10_bestRule_9 rfl (lv_at hl 0 rfl) ?_
  refine lv_aload_n hx hb dX10_bestRule_10 rfl (lv_at hl 1 rfl) ?_
  refine k_get (v := .ref ad) fl_X10_22 C hP 0 rfl e_h0_0 dX10_bestRule_11 ?_
  refine k_getN (v := .ref ap) fl_X10_33 C hP 1 rfl e_ad_7 dX10_bestRule_14 ?_
  refine k_getN (v := .ref ar) fl_X10_117 C hP 2 rfl e_ap_1 dX10_bestRule_17 ?_
  refine k_getN (v := .int 0) fl_X10_121 C hP 4 rfl e_ar_3 dX10_bestRule_20 ?_
  refine lv_icmp_ge (x := -1) (y := 0) (tgt := 45) hx hb dX10_bestRule_23 (by decide) (fun c_4 => ?_) (fun c_4 => ?_)
  · exact absurd c_4 (by decide)
  refine lv_aload_n hx hb dX10_bestRule_26 rfl (lv_at hl 1 rfl) ?_
  refine k_get (v := .ref al) fl_X10_12 C hP 0 rfl e_h0_2 dX10_bestRule_27 ?_
  refine lv_iload_n hx hb dX10_bestRule_30 rfl (lv_at hl 0 rfl) ?_
  refine lv_aload_n hx hb dX10_bestRule_31 rfl (lv_at hl 1 rfl) ?_
  refine lv_iload_n hx hb dX10_bestRule_32 rfl (lv_at hl 0 rfl) ?_
  refine k_callVi (wr := [(ar, .inr (8, ofL 5 Far)), (al, .inr (4, ofL 3 (updV Fal 0 (.int 0))))]) (rest := [.int (-1), .ref al]) li_X10_126 C (c_X10_lostByRule l G H.size h0 (-1) Fh0 ad ah Fad ap Fap Fah n1 e_h0_0 e_h0_1 e_ad_7 e_ap_2 e_ah_11) (kR rfl) hP hD hS [0, 1, 2, 3] [4, 5] rfl rfl rfl rfl (by decide) 0 10 rfl rfl rfl hl.1 rfl (Nat.le_of_ble_eq_true rfl) dX10_bestRule_33 (fun rr6 uu7 H locs hw5 hP hD hS => ?_)
  obtain rfl : rr6 = 0 := hw5
  have hP : va_P G.1 vwCl [(ar, .inr (8, ofL 5 Far)), (al, .inr (4, ofL 3 (updV Fal 0 (.int 0)))), (h0, .inr (10, ofL 7 Fh0)), (ah, .inr (3, ofL 12 (updV (updV Fah 11 (.int (-1))) 11 (.int n1)))), (ad, .inr (1, ofL 10 Fad)), (ap, .inr (7, ofL 5 Fap))] H := hP
  have hD : va_D A [(ar, .inr (8, ofL 5 Far)), (al, .inr (4, ofL 3 (updV Fal 0 (.int 0)))), (h0, .inr (10, ofL 7 Fh0)), (ah, .inr (3, ofL 12 (updV (updV Fah 11 (.int (-1))) 11 (.int n1)))), (ad, .inr (1, ofL 10 Fad)), (ap, .inr (7, ofL 5 Fap))] := hD
  refine k_callNv (wr := [(ar, .inr (8, ofL 5 Far)), (h0, .inr (10, ofL 7 Fh0)), (ah, .inr (3, ofL 12 (updV (updV Fah 11 (.int (-1))) 11 (.int n1)))), (ad, .inr (1, ofL 10 Fad)), (ap, .inr (7, ofL 5 Fap))]) (rest := []) li_X10_87 C (c_X4_offer l G H.size al (-1) 0 (updV Fal 0 (.int 0)) rfl) (kR rfl) hP hD hS [1] [0, 2, 3, 4, 5] rfl rfl rfl rfl (by decide) 0 4 rfl rfl rfl hl.1 rfl (Nat.le_of_ble_eq_true rfl) dX10_bestRule_36 (fun uu10 H locs hw8 hP hD hS => ?_)
  have hP : va_P G.1 vwCl [(ar, .inr (8, ofL 5 Far)), (h0, .inr (10, ofL 7 Fh0)), (ah, .inr (3, ofL 12 (updV (updV Fah 11 (.int (-1))) 11 (.int n1)))), (ad, .inr (1, ofL 10 Fad)), (ap, .inr (7, ofL 5 Fap)), (al, .inr (4, ofL 3 (updV (updV (updV (updV Fal 0 (.int 0)) 0 (.int 1)) 1 (.int (-1))) 2 (.int 0))))] H := hP
  have hD : va_D A [(ar, .inr (8, ofL 5 Far)), (h0, .inr (10, ofL 7 Fh0)), (ah, .inr (3, ofL 12 (updV (updV Fah 11 (.int (-1))) 11 (.int n1)))), (ad, .inr (1, ofL 10 Fad)), (ap, .inr (7, ofL 5 Fap)), (al, .inr (4, ofL 3 (updV (updV (updV (updV Fal 0 (.int 0)) 0 (.int 1)) 1 (.int (-1))) 2 (.int 0))))] := hD
  refine lv_iinc (v := 0) (lv' := [(1, .int 0), (0, .ref h0)]) hx hb dX10_bestRule_39 hl (k := 0) rfl (by decide) (by decide) rfl (fun ls hl => ?_)
  refine lv_goto (tgt := 9) hx hb dX10_bestRule_42 (by decide) ?_
  refine lv_iload_n hx hb dX10_bestRule_9 rfl (lv_at hl 0 rfl) ?_
  refine lv_aload_n hx hb dX10_bestRule_10 rfl (lv_at hl 1 rfl) ?_
  refine k_get (v := .ref ad) fl_X10_22 C hP 1 rfl e_h0_0 dX10_bestRule_11 ?_
  refine k_getN (v := .ref ap) fl_X10_33 C hP 3 rfl e_ad_7 dX10_bestRule_14 ?_
  refine k_getN (v := .ref ar) fl_X10_117 C hP 4 rfl e_ap_1 dX10_bestRule_17 ?_
  refine k_getN (v := .int 0) fl_X10_121 C hP 0 rfl e_ar_3 dX10_bestRule_20 ?_
  refine lv_icmp_ge (x := 0) (y := 0) (tgt := 45) hx hb dX10_bestRule_23 (by decide) (fun c_11 => ?_) (fun c_11 => ?_)
  rotate_left
  · exact absurd (by decide) c_11
  refine lv_aload_n hx hb dX10_bestRule_45 rfl (lv_at hl 1 rfl) ?_
  refine k_get (v := .ref al) fl_X10_12 C hP 1 rfl e_h0_2 dX10_bestRule_46 ?_
  refine lv_iconst (v := 0) hx hb dX10_bestRule_49 (by decide) ?_
  refine k_callNi (wr := [(ar, .inr (8, ofL 5 Far)), (h0, .inr (10, ofL 7 Fh0)), (ah, .inr (3, ofL 12 (updV (updV Fah 11 (.int (-1))) 11 (.int n1)))), (ad, .inr (1, ofL 10 Fad)), (ap, .inr (7, ofL 5 Fap))]) (rest := []) li_X10_97 C (c_X4_told1 l G H.size al (updV (updV (updV (updV Fal 0 (.int 0)) 0 (.int 1)) 1 (.int (-1))) 2 (.int 0)) (-1) rfl rfl) (kR rfl) hP hD hS [5] [0, 1, 2, 3, 4] rfl rfl rfl rfl (by decide) 0 4 rfl rfl rfl hl.1 rfl (Nat.le_of_ble_eq_true rfl) dX10_bestRule_50 (fun rr13 uu14 H locs hw12 hP hD hS => ?_)
  obtain rfl : rr13 = -1 := hw12
  have hP : va_P G.1 vwCl [(ar, .inr (8, ofL 5 Far)), (h0, .inr (10, ofL 7 Fh0)), (ah, .inr (3, ofL 12 (updV (updV Fah 11 (.int (-1))) 11 (.int n1)))), (ad, .inr (1, ofL 10 Fad)), (ap, .inr (7, ofL 5 Fap)), (al, .inr (4, ofL 3 (updV (updV (updV (updV Fal 0 (.int 0)) 0 (.int 1)) 1 (.int (-1))) 2 (.int 0))))] H := hP
  have hD : va_D A [(ar, .inr (8, ofL 5 Far)), (h0, .inr (10, ofL 7 Fh0)), (ah, .inr (3, ofL 12 (updV (updV Fah 11 (.int (-1))) 11 (.int n1)))), (ad, .inr (1, ofL 10 Fad)), (ap, .inr (7, ofL 5 Fap)), (al, .inr (4, ofL 3 (updV (updV (updV (updV Fal 0 (.int 0)) 0 (.int 1)) 1 (.int (-1))) 2 (.int 0))))] := hD
  exact k_iret C hr hlk hP hD hS () (rfl) [0, 1, 2, 3, 4, 5] rfl rfl (Nat.le_of_ble_eq_true rfl) (Nat.le_of_ble_eq_true rfl) dX10_bestRule_53
set_option maxHeartbeats 4000000 in
set_option maxRecDepth 100000 in
theorem c_X10_worthOfBell (l : Launch) (G : kG) (sz : Nat) (h0 : Nat) (n0 : Int32) (Fh0 : Nat → Value) (ad : Nat) (ah : Nat) (as : Nat) (Fad : Nat → Value) (ap : Nat) (Fap : Nat → Value) (Fah : Nat → Value) (ao : Nat) (f0 : Nat → Int32) (f1 : Nat → Int32) (e_h0_0 : Fh0 0 = .ref ad) (e_h0_1 : Fh0 1 = .ref ah) (e_h0_3 : Fh0 3 = .ref as) (e_ad_7 : Fad 7 = .ref ap) (e_ap_2 : Fap 2 = .int 0) (e_ah_0 : Fah 0 = .ref ao) : kM l yX10_worthOfBell cX10_worthOfBell 4 (some .int) { frames := 8, cells := 0, slots := 0, locals := 154 } G [.ref h0, .int n0] [(h0, .inr (10, ofL 7 Fh0)), (ad, .inr (1, ofL 10 Fad)), (ap, .inr (7, ofL 5 Fap)), (ah, .inr (3, ofL 12 Fah)), (ao, .inl (G.2.1, 12, .inl f0)), (as, .inl (G.2.1, 12, .inl f1))] sz (kQi G (S := Unit) (fun r (_ : Unit) => r = 0) (fun _ => [(ah, .inr (3, ofL 12 Fah)), (ao, .inl (G.2.1, 12, .inl (va_cpy (va_cpy f0 f1 0 0 12) f0 0 0 12))), (as, .inl (G.2.1, 12, .inl (va_cpy f0 f1 0 0 12))), (h0, .inr (10, ofL 7 Fh0)), (ad, .inr (1, ofL 10 Fad)), (ap, .inr (7, ofL 5 Fap))])) := by
  refine kM.of (by decide) (Nat.le_of_ble_eq_true rfl) ?_
  intro p e s m below meth c A ls H C hr hlk hnm hP hD hS hl
  have C : kC G p s m c cX10_worthOfBell 4 RX10 A := C
  have hx := C.1
  have hb := C.2.1
  have hl : lv_has ls 4 [(0, .ref h0), (1, .int n0)] := hl
  refine lv_aload_n hx hb dX10_worthOfBell_0 rfl (lv_at hl 0 rfl) ?_
  refine k_get (v := .ref ad) fl_X10_22 C hP 0 rfl e_h0_0 dX10_worthOfBell_1 ?_
  refine lv_iconst (v := 0) hx hb dX10_worthOfBell_4 (by decide) ?_
  refine k_callNi (wr := [(h0, .inr (10, ofL 7 Fh0)), (ah, .inr (3, ofL 12 Fah)), (ao, .inl (G.2.1, 12, .inl f0)), (as, .inl (G.2.1, 12, .inl f1))]) (rest := []) li_X10_77 C (c_X1_lostFrom l G H.size ad Fad ap Fap e_ad_7 e_ap_2) (kR rfl) hP hD hS [1, 2] [0, 3, 4, 5] rfl rfl rfl rfl (by decide) 0 1 rfl rfl rfl hl.1 rfl (Nat.le_of_ble_eq_true rfl) dX10_worthOfBell_5 (fun rr2 uu3 H locs hw1 hP hD hS => ?_)
  obtain rfl : rr2 = 0 := hw1
  have hP : va_P G.1 vwCl [(h0, .inr (10, ofL 7 Fh0)), (ah, .inr (3, ofL 12 Fah)), (ao, .inl (G.2.1, 12, .inl f0)), (as, .inl (G.2.1, 12, .inl f1)), (ad, .inr (1, ofL 10 Fad)), (ap, .inr (7, ofL 5 Fap))] H := hP
  have hD : va_D A [(h0, .inr (10, ofL 7 Fh0)), (ah, .inr (3, ofL 12 Fah)), (ao, .inl (G.2.1, 12, .inl f0)), (as, .inl (G.2.1, 12, .inl f1)), (ad, .inr (1, ofL 10 Fad)), (ap, .inr (7, ofL 5 Fap))] := hD
  refine lv_istore_n (lv' := [(2, .int 0), (0, .ref h0), (1, .int n0)]) hx hb dX10_worthOfBell_8 rfl hl (by decide) rfl (fun ls hl => ?_)
  refine lv_aload_n hx hb dX10_worthOfBell_9 rfl (lv_at hl 1 rfl) ?_
  refine k_get (v := .ref ah) fl_X10_32 C hP 0 rfl e_h0_1 dX10_worthOfBell_10 ?_
  refine k_getN (v := .ref ao) fl_X10_56 C hP 1 rfl e_ah_0 dX10_worthOfBell_13 ?_
  refine lv_iconst (v := 0) hx hb dX10_worthOfBell_16 (by decide) ?_
  refine lv_aload_n hx hb dX10_worthOfBell_17 rfl (lv_at hl 1 rfl) ?_
  refine k_get (v := .ref as) fl_X10_18 C hP 0 rfl e_h0_3 dX10_worthOfBell_18 ?_
  refine lv_iconst (v := 0) hx hb dX10_worthOfBell_21 (by decide) ?_
  refine lv_bipush (v := 12) hx hb dX10_worthOfBell_22 (by decide) ?_
  refine k_copy lc_X10_50 C hl.1 hP hD hS 2 3 rfl rfl (by decide) (by decide) (by decide) (by decide) (by decide) (Nat.le_of_ble_eq_true rfl) (by decide) dX10_worthOfBell_24 (fun H locs hP hD hS => ?_)
  have hP : va_P G.1 vwCl [(h0, .inr (10, ofL 7 Fh0)), (ah, .inr (3, ofL 12 Fah)), (ao, .inl (G.2.1, 12, .inl f0)), (as, .inl (G.2.1, 12, .inl (va_cpy f0 f1 0 0 12))), (ad, .inr (1, ofL 10 Fad)), (ap, .inr (7, ofL 5 Fap))] H := hP
  have hD : va_D A [(h0, .inr (10, ofL 7 Fh0)), (ah, .inr (3, ofL 12 Fah)), (ao, .inl (G.2.1, 12, .inl f0)), (as, .inl (G.2.1, 12, .inl (va_cpy f0 f1 0 0 12))), (ad, .inr (1, ofL 10 Fad)), (ap, .inr (7, ofL 5 Fap))] := hD
  refine lv_iconst (v := 0) hx hb dX10_worthOfBell_27 (by decide) ?_
  refine lv_istore_n (lv' := [(3, .int 0), (2, .int 0), (0, .ref h0), (1, .int n0)]) hx hb dX10_worthOfBell_28 rfl hl (by decide) rfl (fun ls hl => ?_)
  refine lv_iload_n hx hb dX10_worthOfBell_29 rfl (lv_at hl 0 rfl) ?_
  refine lv_aload_n hx hb dX10_worthOfBell_30 rfl (lv_at hl 2 rfl) ?_
  refine k_callVi (wr := [(ah, .inr (3, ofL 12 Fah)), (ao, .inl (G.2.1, 12, .inl f0)), (as, .inl (G.2.1, 12, .inl (va_cpy f0 f1 0 0 12)))]) (rest := [.int 0]) li_X10_64 C (c_X10_lessonCount l G H.size h0 Fh0 ad Fad ap Fap e_h0_0 e_ad_7 e_ap_2) (kR rfl) hP hD hS [0, 4, 5] [1, 2, 3] rfl rfl rfl rfl (by decide) 0 10 rfl rfl rfl hl.1 rfl (Nat.le_of_ble_eq_true rfl) dX10_worthOfBell_31 (fun rr5 uu6 H locs hw4 hP hD hS => ?_)
  obtain rfl : rr5 = 0 := hw4
  have hP : va_P G.1 vwCl [(ah, .inr (3, ofL 12 Fah)), (ao, .inl (G.2.1, 12, .inl f0)), (as, .inl (G.2.1, 12, .inl (va_cpy f0 f1 0 0 12))), (h0, .inr (10, ofL 7 Fh0)), (ad, .inr (1, ofL 10 Fad)), (ap, .inr (7, ofL 5 Fap))] H := hP
  have hD : va_D A [(ah, .inr (3, ofL 12 Fah)), (ao, .inl (G.2.1, 12, .inl f0)), (as, .inl (G.2.1, 12, .inl (va_cpy f0 f1 0 0 12))), (h0, .inr (10, ofL 7 Fh0)), (ad, .inr (1, ofL 10 Fad)), (ap, .inr (7, ofL 5 Fap))] := hD
  refine lv_icmp_ge (x := 0) (y := 0) (tgt := 62) hx hb dX10_worthOfBell_34 (by decide) (fun c_7 => ?_) (fun c_7 => ?_)
  rotate_left
  · exact absurd (by decide) c_7
  refine lv_aload_n hx hb dX10_worthOfBell_62 rfl (lv_at hl 2 rfl) ?_
  refine k_get (v := .ref ad) fl_X10_22 C hP 3 rfl e_h0_0 dX10_worthOfBell_63 ?_
  refine lv_iconst (v := 0) hx hb dX10_worthOfBell_66 (by decide) ?_
  refine k_callNi (wr := [(ah, .inr (3, ofL 12 Fah)), (ao, .inl (G.2.1, 12, .inl f0)), (as, .inl (G.2.1, 12, .inl (va_cpy f0 f1 0 0 12))), (h0, .inr (10, ofL 7 Fh0))]) (rest := []) li_X10_77 C (c_X1_lostFrom l G H.size ad Fad ap Fap e_ad_7 e_ap_2) (kR rfl) hP hD hS [4, 5] [0, 1, 2, 3] rfl rfl rfl rfl (by decide) 0 1 rfl rfl rfl hl.1 rfl (Nat.le_of_ble_eq_true rfl) dX10_worthOfBell_67 (fun rr9 uu10 H locs hw8 hP hD hS => ?_)
  obtain rfl : rr9 = 0 := hw8
  have hP : va_P G.1 vwCl [(ah, .inr (3, ofL 12 Fah)), (ao, .inl (G.2.1, 12, .inl f0)), (as, .inl (G.2.1, 12, .inl (va_cpy f0 f1 0 0 12))), (h0, .inr (10, ofL 7 Fh0)), (ad, .inr (1, ofL 10 Fad)), (ap, .inr (7, ofL 5 Fap))] H := hP
  have hD : va_D A [(ah, .inr (3, ofL 12 Fah)), (ao, .inl (G.2.1, 12, .inl f0)), (as, .inl (G.2.1, 12, .inl (va_cpy f0 f1 0 0 12))), (h0, .inr (10, ofL 7 Fh0)), (ad, .inr (1, ofL 10 Fad)), (ap, .inr (7, ofL 5 Fap))] := hD
  refine lv_istore_n (lv' := [(3, .int 0), (2, .int 0), (0, .ref h0), (1, .int n0)]) hx hb dX10_worthOfBell_70 rfl hl (by decide) rfl (fun ls hl => ?_)
  refine lv_aload_n hx hb dX10_worthOfBell_71 rfl (lv_at hl 2 rfl) ?_
  refine k_get (v := .ref as) fl_X10_18 C hP 3 rfl e_h0_3 dX10_worthOfBell_72 ?_
  refine lv_iconst (v := 0) hx hb dX10_worthOfBell_75 (by decide) ?_
  refine lv_aload_n hx hb dX10_worthOfBell_76 rfl (lv_at hl 2 rfl) ?_
  refine k_get (v := .ref ah) fl_X10_32 C hP 3 rfl e_h0_1 dX10_worthOfBell_77 ?_
  refine k_getN (v := .ref ao) fl_X10_56 C hP 0 rfl e_ah_0 dX10_worthOfBell_80 ?_
  refine lv_iconst (v := 0) hx hb dX10_worthOfBell_83 (by decide) ?_
  refine lv_bipush (v := 12) hx hb dX10_worthOfBell_84 (by decide) ?_
  refine k_copy lc_X10_50 C hl.1 hP hD hS 2 1 rfl rfl (by decide) (by decide) (by decide) (by decide) (by decide) (Nat.le_of_ble_eq_true rfl) (by decide) dX10_worthOfBell_86 (fun H locs hP hD hS => ?_)
  have hP : va_P G.1 vwCl [(ah, .inr (3, ofL 12 Fah)), (ao, .inl (G.2.1, 12, .inl (va_cpy (va_cpy f0 f1 0 0 12) f0 0 0 12))), (as, .inl (G.2.1, 12, .inl (va_cpy f0 f1 0 0 12))), (h0, .inr (10, ofL 7 Fh0)), (ad, .inr (1, ofL 10 Fad)), (ap, .inr (7, ofL 5 Fap))] H := hP
  have hD : va_D A [(ah, .inr (3, ofL 12 Fah)), (ao, .inl (G.2.1, 12, .inl (va_cpy (va_cpy f0 f1 0 0 12) f0 0 0 12))), (as, .inl (G.2.1, 12, .inl (va_cpy f0 f1 0 0 12))), (h0, .inr (10, ofL 7 Fh0)), (ad, .inr (1, ofL 10 Fad)), (ap, .inr (7, ofL 5 Fap))] := hD
  refine lv_iload_n hx hb dX10_worthOfBell_89 rfl (lv_at hl 1 rfl) ?_
  refine lv_iload_n hx hb dX10_worthOfBell_90 rfl (lv_at hl 0 rfl) ?_
  refine lv_isub hx hb dX10_worthOfBell_91 ?_
  refine k_eqi (y := 0) (by decide) ?_
  exact k_iret C hr hlk hP hD hS () (rfl) [0, 1, 2, 3, 4, 5] rfl rfl (Nat.le_of_ble_eq_true rfl) (Nat.le_of_ble_eq_true rfl) dX10_worthOfBell_92
set_option maxHeartbeats 4000000 in
set_option maxRecDepth 100000 in
theorem c_X9_gather (l : Launch) (G : kG) (sz : Nat) (h0 : Nat) (Fh0 : Nat → Value) (ad : Nat) (Fad : Nat → Value) (ap : Nat) (Fap : Nat → Value) (e_h0_0 : Fh0 0 = .ref ad) (e_ad_7 : Fad 7 = .ref ap) (e_ap_2 : Fap 2 = .int 0) : kM l yX9_gather cX9_gather 5 none { frames := 7, cells := 0, slots := 0, locals := 132 } G [.ref h0] [(h0, .inr (9, ofL 6 Fh0)), (ad, .inr (1, ofL 10 Fad)), (ap, .inr (7, ofL 5 Fap))] sz (kQv G (S := Unit) (fun (_ : Unit) => True) (fun _ => [(h0, .inr (9, ofL 6 (updV Fh0 5 (.int 0)))), (ad, .inr (1, ofL 10 Fad)), (ap, .inr (7, ofL 5 Fap))])) := by
  refine kM.of (by decide) (Nat.le_of_ble_eq_true rfl) ?_
  intro p e s m below meth c A ls H C hr hlk hnm hP hD hS hl
  have C : kC G p s m c cX9_gather 5 RX9 A := C
  have hx := C.1
  have hb := C.2.1
  have hl : lv_has ls 5 [(0, .ref h0)] := hl
  refine lv_aload_n hx hb dX9_gather_0 rfl (lv_at hl 0 rfl) ?_
  refine k_get (v := .ref ad) fl_X9_25 C hP 0 rfl e_h0_0 dX9_gather_1 ?_
  refine lv_iconst (v := 0) hx hb dX9_gather_4 (by decide) ?_
  refine k_callNv (wr := [(h0, .inr (9, ofL 6 Fh0))]) (rest := []) li_X9_29 C (c_X1_runFrom l G H.size ad Fad ap Fap e_ad_7 e_ap_2) (kR rfl) hP hD hS [1, 2] [0] rfl rfl rfl rfl (by decide) 0 1 rfl rfl rfl hl.1 rfl (Nat.le_of_ble_eq_true rfl) dX9_gather_5 (fun uu3 H locs hw1 hP hD hS => ?_)
  have hP : va_P G.1 vwCl [(h0, .inr (9, ofL 6 Fh0)), (ad, .inr (1, ofL 10 Fad)), (ap, .inr (7, ofL 5 Fap))] H := hP
  have hD : va_D A [(h0, .inr (9, ofL 6 Fh0)), (ad, .inr (1, ofL 10 Fad)), (ap, .inr (7, ofL 5 Fap))] := hD
  refine lv_aload_n hx hb dX9_gather_8 rfl (lv_at hl 0 rfl) ?_
  refine lv_iconst (v := 0) hx hb dX9_gather_9 (by decide) ?_
  refine k_put fl_X9_35 ft_X9_5 C hP hD hS 0 rfl rfl rfl dX9_gather_10 (fun H locs hP hD hS => ?_)
  have hP : va_P G.1 vwCl [(h0, .inr (9, ofL 6 (updV Fh0 5 (.int 0)))), (ad, .inr (1, ofL 10 Fad)), (ap, .inr (7, ofL 5 Fap))] H := hP
  have hD : va_D A [(h0, .inr (9, ofL 6 (updV Fh0 5 (.int 0)))), (ad, .inr (1, ofL 10 Fad)), (ap, .inr (7, ofL 5 Fap))] := hD
  refine lv_iconst (v := 0) hx hb dX9_gather_13 (by decide) ?_
  refine lv_istore_n (lv' := [(1, .int 0), (0, .ref h0)]) hx hb dX9_gather_14 rfl hl (by decide) rfl (fun ls hl => ?_)
  refine lv_iload_n hx hb dX9_gather_15 rfl (lv_at hl 0 rfl) ?_
  refine lv_aload_n hx hb dX9_gather_16 rfl (lv_at hl 1 rfl) ?_
  refine k_get (v := .ref ad) fl_X9_25 C hP 0 rfl e_h0_0 dX9_gather_17 ?_
  refine k_getN (v := .ref ap) fl_X9_39 C hP 1 rfl e_ad_7 dX9_gather_20 ?_
  refine k_getN (v := .int 0) fl_X9_43 C hP 2 rfl e_ap_2 dX9_gather_23 ?_
  refine lv_icmp_ge (x := 0) (y := 0) (tgt := 99) hx hb dX9_gather_26 (by decide) (fun c_4 => ?_) (fun c_4 => ?_)
  rotate_left
  · exact absurd (by decide) c_4
  exact k_vret C hr hlk hP hD hS () (trivial) [0, 1, 2] rfl rfl (Nat.le_of_ble_eq_true rfl) (Nat.le_of_ble_eq_true rfl) dX9_gather_99
set_option maxHeartbeats 4000000 in
set_option maxRecDepth 100000 in
theorem c_X9_crossings (l : Launch) (G : kG) (sz : Nat) (h0 : Nat) (Fh0 : Nat → Value) (e_h0_5 : Fh0 5 = .int 0) : kM l yX9_crossings cX9_crossings 5 (some .int) { frames := 6, cells := 0, slots := 0, locals := 110 } G [.ref h0] [(h0, .inr (9, ofL 6 Fh0))] sz (kQi G (S := Unit) (fun r (_ : Unit) => r = 0) (fun _ => [(h0, .inr (9, ofL 6 Fh0))])) := by
  refine kM.of (by decide) (Nat.le_of_ble_eq_true rfl) ?_
  intro p e s m below meth c A ls H C hr hlk hnm hP hD hS hl
  have C : kC G p s m c cX9_crossings 5 RX9 A := C
  have hx := C.1
  have hb := C.2.1
  have hl : lv_has ls 5 [(0, .ref h0)] := hl
  refine lv_iconst (v := 0) hx hb dX9_crossings_0 (by decide) ?_
  refine lv_istore_n (lv' := [(1, .int 0), (0, .ref h0)]) hx hb dX9_crossings_1 rfl hl (by decide) rfl (fun ls hl => ?_)
  refine lv_iconst (v := 0) hx hb dX9_crossings_2 (by decide) ?_
  refine lv_istore_n (lv' := [(2, .int 0), (1, .int 0), (0, .ref h0)]) hx hb dX9_crossings_3 rfl hl (by decide) rfl (fun ls hl => ?_)
  refine lv_iload_n hx hb dX9_crossings_4 rfl (lv_at hl 0 rfl) ?_
  refine lv_aload_n hx hb dX9_crossings_5 rfl (lv_at hl 2 rfl) ?_
  refine k_get (v := .int 0) fl_X9_35 C hP 0 rfl e_h0_5 dX9_crossings_6 ?_
  refine lv_icmp_ge (x := 0) (y := 0) (tgt := 104) hx hb dX9_crossings_9 (by decide) (fun c_1 => ?_) (fun c_1 => ?_)
  rotate_left
  · exact absurd (by decide) c_1
  refine lv_iload_n hx hb dX9_crossings_104 rfl (lv_at hl 1 rfl) ?_
  exact k_iret C hr hlk hP hD hS () (rfl) [0] rfl rfl (Nat.le_of_ble_eq_true rfl) (Nat.le_of_ble_eq_true rfl) dX9_crossings_105
set_option maxHeartbeats 4000000 in
set_option maxRecDepth 100000 in
theorem c_X9_busiestMinute (l : Launch) (G : kG) (sz : Nat) (h0 : Nat) (Fh0 : Nat → Value) (e_h0_5 : Fh0 5 = .int 0) : kM l yX9_busiestMinute cX9_busiestMinute 5 (some .int) { frames := 6, cells := 0, slots := 0, locals := 110 } G [.ref h0] [(h0, .inr (9, ofL 6 Fh0))] sz (kQi G (S := Unit) (fun r (_ : Unit) => r = -1) (fun _ => [(h0, .inr (9, ofL 6 Fh0))])) := by
  refine kM.of (by decide) (Nat.le_of_ble_eq_true rfl) ?_
  intro p e s m below meth c A ls H C hr hlk hnm hP hD hS hl
  have C : kC G p s m c cX9_busiestMinute 5 RX9 A := C
  have hx := C.1
  have hb := C.2.1
  have hl : lv_has ls 5 [(0, .ref h0)] := hl
  refine lv_iconst (v := -1) hx hb dX9_busiestMinute_0 (by decide) ?_
  refine lv_istore_n (lv' := [(1, .int (-1)), (0, .ref h0)]) hx hb dX9_busiestMinute_1 rfl hl (by decide) rfl (fun ls hl => ?_)
  refine lv_iconst (v := 0) hx hb dX9_busiestMinute_2 (by decide) ?_
  refine lv_istore_n (lv' := [(2, .int 0), (1, .int (-1)), (0, .ref h0)]) hx hb dX9_busiestMinute_3 rfl hl (by decide) rfl (fun ls hl => ?_)
  refine lv_iconst (v := 0) hx hb dX9_busiestMinute_4 (by decide) ?_
  refine lv_istore_n (lv' := [(3, .int 0), (2, .int 0), (1, .int (-1)), (0, .ref h0)]) hx hb dX9_busiestMinute_5 rfl hl (by decide) rfl (fun ls hl => ?_)
  refine lv_iload_n hx hb dX9_busiestMinute_6 rfl (lv_at hl 0 rfl) ?_
  refine lv_aload_n hx hb dX9_busiestMinute_7 rfl (lv_at hl 3 rfl) ?_
  refine k_get (v := .int 0) fl_X9_35 C hP 0 rfl e_h0_5 dX9_busiestMinute_8 ?_
  refine lv_icmp_ge (x := 0) (y := 0) (tgt := 64) hx hb dX9_busiestMinute_11 (by decide) (fun c_1 => ?_) (fun c_1 => ?_)
  rotate_left
  · exact absurd (by decide) c_1
  refine lv_iload_n hx hb dX9_busiestMinute_64 rfl (lv_at hl 2 rfl) ?_
  exact k_iret C hr hlk hP hD hS () (rfl) [0] rfl rfl (Nat.le_of_ble_eq_true rfl) (Nat.le_of_ble_eq_true rfl) dX9_busiestMinute_65
set_option maxHeartbeats 4000000 in
set_option maxRecDepth 100000 in
theorem c_X9_peopleIn (l : Launch) (G : kG) (sz : Nat) (h0 : Nat) (n0 : Int32) (Fh0 : Nat → Value) (e_h0_5 : Fh0 5 = .int 0) : kM l yX9_peopleIn cX9_peopleIn 4 (some .int) { frames := 6, cells := 0, slots := 0, locals := 110 } G [.ref h0, .int n0] [(h0, .inr (9, ofL 6 Fh0))] sz (kQi G (S := Unit) (fun r (_ : Unit) => r = 0) (fun _ => [(h0, .inr (9, ofL 6 Fh0))])) := by
  refine kM.of (by decide) (Nat.le_of_ble_eq_true rfl) ?_
  intro p e s m below meth c A ls H C hr hlk hnm hP hD hS hl
  have C : kC G p s m c cX9_peopleIn 4 RX9 A := C
  have hx := C.1
  have hb := C.2.1
  have hl : lv_has ls 4 [(0, .ref h0), (1, .int n0)] := hl
  refine lv_iconst (v := 0) hx hb dX9_peopleIn_0 (by decide) ?_
  refine lv_istore_n (lv' := [(2, .int 0), (0, .ref h0), (1, .int n0)]) hx hb dX9_peopleIn_1 rfl hl (by decide) rfl (fun ls hl => ?_)
  refine lv_iconst (v := 0) hx hb dX9_peopleIn_2 (by decide) ?_
  refine lv_istore_n (lv' := [(3, .int 0), (2, .int 0), (0, .ref h0), (1, .int n0)]) hx hb dX9_peopleIn_3 rfl hl (by decide) rfl (fun ls hl => ?_)
  refine lv_iload_n hx hb dX9_peopleIn_4 rfl (lv_at hl 0 rfl) ?_
  refine lv_aload_n hx hb dX9_peopleIn_5 rfl (lv_at hl 2 rfl) ?_
  refine k_get (v := .int 0) fl_X9_35 C hP 0 rfl e_h0_5 dX9_peopleIn_6 ?_
  refine lv_icmp_ge (x := 0) (y := 0) (tgt := 51) hx hb dX9_peopleIn_9 (by decide) (fun c_1 => ?_) (fun c_1 => ?_)
  rotate_left
  · exact absurd (by decide) c_1
  refine lv_iload_n hx hb dX9_peopleIn_51 rfl (lv_at hl 1 rfl) ?_
  exact k_iret C hr hlk hP hD hS () (rfl) [0] rfl rfl (Nat.le_of_ble_eq_true rfl) (Nat.le_of_ble_eq_true rfl) dX9_peopleIn_52
set_option maxHeartbeats 4000000 in
set_option maxRecDepth 100000 in
theorem c_X3_takeBackAct (l : Launch) (G : kG) (sz : Nat) (h0 : Nat) (Fh0 : Nat → Value) (e_h0_9 : Fh0 9 = .int 0) : kM l yX3_takeBackAct cX3_takeBackAct 1 (some .int) { frames := 6, cells := 0, slots := 0, locals := 110 } G [.ref h0] [(h0, .inr (3, ofL 12 Fh0))] sz (kQi G (S := Unit) (fun r (_ : Unit) => r = -1) (fun _ => [(h0, .inr (3, ofL 12 Fh0))])) := by
  refine kM.of (by decide) (Nat.le_of_ble_eq_true rfl) ?_
  intro p e s m below meth c A ls H C hr hlk hnm hP hD hS hl
  have C : kC G p s m c cX3_takeBackAct 1 RX3 A := C
  have hx := C.1
  have hb := C.2.1
  have hl : lv_has ls 1 [(0, .ref h0)] := hl
  refine lv_aload_n hx hb dX3_takeBackAct_0 rfl (lv_at hl 0 rfl) ?_
  refine k_get (v := .int 0) fl_X3_39 C hP 0 rfl e_h0_9 dX3_takeBackAct_1 ?_
  refine lv_iconst (v := 1) hx hb dX3_takeBackAct_4 (by decide) ?_
  refine lv_icmp_ge (x := 0) (y := 1) (tgt := 10) hx hb dX3_takeBackAct_5 (by decide) (fun c_1 => ?_) (fun c_1 => ?_)
  · exact absurd c_1 (by decide)
  refine lv_iconst (v := -1) hx hb dX3_takeBackAct_8 (by decide) ?_
  exact k_iret C hr hlk hP hD hS () (rfl) [0] rfl rfl (Nat.le_of_ble_eq_true rfl) (Nat.le_of_ble_eq_true rfl) dX3_takeBackAct_9
set_option maxHeartbeats 4000000 in
set_option maxRecDepth 100000 in
theorem c_X3_keepAct (l : Launch) (G : kG) (sz : Nat) (h0 : Nat) (n0 : Int32) (n1 : Int32) (n2 : Int32) (Fh0 : Nat → Value) (h4 : Nat) (h5 : Nat) (h6 : Nat) (f4 : Nat → Int32) (f5 : Nat → Int32) (f6 : Nat → Int32) (e_h0_9 : Fh0 9 = .int 0) (e_h0_4 : Fh0 4 = .ref h4) (e_h0_5 : Fh0 5 = .ref h5) (e_h0_6 : Fh0 6 = .ref h6) : kM l yX3_keepAct cX3_keepAct 4 none { frames := 6, cells := 0, slots := 0, locals := 110 } G [.ref h0, .int n0, .int n1, .int n2] [(h0, .inr (3, ofL 12 Fh0)), (h4, .inl (G.2.1, 40, .inl f4)), (h5, .inl (G.2.1, 40, .inl f5)), (h6, .inl (G.2.1, 40, .inl f6))] sz (kQv G (S := Unit) (fun (_ : Unit) => True) (fun _ => [(h0, .inr (3, ofL 12 (updV Fh0 9 (.int 1)))), (h4, .inl (G.2.1, 40, .inl (upd f4 0 n0))), (h5, .inl (G.2.1, 40, .inl (upd f5 0 n1))), (h6, .inl (G.2.1, 40, .inl (upd f6 0 n2)))])) := by
  refine kM.of (by decide) (Nat.le_of_ble_eq_true rfl) ?_
  intro p e s m below meth c A ls H C hr hlk hnm hP hD hS hl
  have C : kC G p s m c cX3_keepAct 4 RX3 A := C
  have hx := C.1
  have hb := C.2.1
  have hl : lv_has ls 4 [(0, .ref h0), (1, .int n0), (2, .int n1), (3, .int n2)] := hl
  refine lv_aload_n hx hb dX3_keepAct_0 rfl (lv_at hl 0 rfl) ?_
  refine k_get (v := .int 0) fl_X3_39 C hP 0 rfl e_h0_9 dX3_keepAct_1 ?_
  refine lv_bipush (v := 40) hx hb dX3_keepAct_4 (by decide) ?_
  refine lv_icmp_lt (x := 0) (y := 40) (tgt := 13) hx hb dX3_keepAct_6 (by decide) (fun c_1 => ?_) (fun c_1 => ?_)
  rotate_left
  · exact absurd (by decide) c_1
  refine lv_aload_n hx hb dX3_keepAct_13 rfl (lv_at hl 0 rfl) ?_
  refine k_get (v := .ref h4) fl_X3_24 C hP 0 rfl e_h0_4 dX3_keepAct_14 ?_
  refine lv_aload_n hx hb dX3_keepAct_17 rfl (lv_at hl 0 rfl) ?_
  refine k_get (v := .int 0) fl_X3_39 C hP 0 rfl e_h0_9 dX3_keepAct_18 ?_
  refine lv_iload_n hx hb dX3_keepAct_21 rfl (lv_at hl 1 rfl) ?_
  refine k_iast C hP hD hS 1 rfl (k_in (by decide)) dX3_keepAct_22 (fun H locs hP hD hS => ?_)
  have hP : va_P G.1 vwCl [(h0, .inr (3, ofL 12 Fh0)), (h4, .inl (G.2.1, 40, .inl (upd f4 0 n0))), (h5, .inl (G.2.1, 40, .inl f5)), (h6, .inl (G.2.1, 40, .inl f6))] H := hP
  have hD : va_D A [(h0, .inr (3, ofL 12 Fh0)), (h4, .inl (G.2.1, 40, .inl (upd f4 0 n0))), (h5, .inl (G.2.1, 40, .inl f5)), (h6, .inl (G.2.1, 40, .inl f6))] := hD
  refine lv_aload_n hx hb dX3_keepAct_23 rfl (lv_at hl 0 rfl) ?_
  refine k_get (v := .ref h5) fl_X3_27 C hP 0 rfl e_h0_5 dX3_keepAct_24 ?_
  refine lv_aload_n hx hb dX3_keepAct_27 rfl (lv_at hl 0 rfl) ?_
  refine k_get (v := .int 0) fl_X3_39 C hP 0 rfl e_h0_9 dX3_keepAct_28 ?_
  refine lv_iload_n hx hb dX3_keepAct_31 rfl (lv_at hl 2 rfl) ?_
  refine k_iast C hP hD hS 2 rfl (k_in (by decide)) dX3_keepAct_32 (fun H locs hP hD hS => ?_)
  have hP : va_P G.1 vwCl [(h0, .inr (3, ofL 12 Fh0)), (h4, .inl (G.2.1, 40, .inl (upd f4 0 n0))), (h5, .inl (G.2.1, 40, .inl (upd f5 0 n1))), (h6, .inl (G.2.1, 40, .inl f6))] H := hP
  have hD : va_D A [(h0, .inr (3, ofL 12 Fh0)), (h4, .inl (G.2.1, 40, .inl (upd f4 0 n0))), (h5, .inl (G.2.1, 40, .inl (upd f5 0 n1))), (h6, .inl (G.2.1, 40, .inl f6))] := hD
  refine lv_aload_n hx hb dX3_keepAct_33 rfl (lv_at hl 0 rfl) ?_
  refine k_get (v := .ref h6) fl_X3_30 C hP 0 rfl e_h0_6 dX3_keepAct_34 ?_
  refine lv_aload_n hx hb dX3_keepAct_37 rfl (lv_at hl 0 rfl) ?_
  refine k_get (v := .int 0) fl_X3_39 C hP 0 rfl e_h0_9 dX3_keepAct_38 ?_
  refine lv_iload_n hx hb dX3_keepAct_41 rfl (lv_at hl 3 rfl) ?_
  refine k_iast C hP hD hS 3 rfl (k_in (by decide)) dX3_keepAct_42 (fun H locs hP hD hS => ?_)
  have hP : va_P G.1 vwCl [(h0, .inr (3, ofL 12 Fh0)), (h4, .inl (G.2.1, 40, .inl (upd f4 0 n0))), (h5, .inl (G.2.1, 40, .inl (upd f5 0 n1))), (h6, .inl (G.2.1, 40, .inl (upd f6 0 n2)))] H := hP
  have hD : va_D A [(h0, .inr (3, ofL 12 Fh0)), (h4, .inl (G.2.1, 40, .inl (upd f4 0 n0))), (h5, .inl (G.2.1, 40, .inl (upd f5 0 n1))), (h6, .inl (G.2.1, 40, .inl (upd f6 0 n2)))] := hD
  refine lv_aload_n hx hb dX3_keepAct_43 rfl (lv_at hl 0 rfl) ?_
  refine lv_dup hx hb dX3_keepAct_44 rfl ?_
  refine k_get (v := .int 0) fl_X3_39 C hP 0 rfl e_h0_9 dX3_keepAct_45 ?_
  refine lv_iconst (v := 1) hx hb dX3_keepAct_48 (by decide) ?_
  refine lv_iadd hx hb dX3_keepAct_49 ?_
  refine k_eqi (y := 1) (by decide) ?_
  refine k_put fl_X3_39 ft_X3_9 C hP hD hS 0 rfl rfl rfl dX3_keepAct_50 (fun H locs hP hD hS => ?_)
  have hP : va_P G.1 vwCl [(h0, .inr (3, ofL 12 (updV Fh0 9 (.int 1)))), (h4, .inl (G.2.1, 40, .inl (upd f4 0 n0))), (h5, .inl (G.2.1, 40, .inl (upd f5 0 n1))), (h6, .inl (G.2.1, 40, .inl (upd f6 0 n2)))] H := hP
  have hD : va_D A [(h0, .inr (3, ofL 12 (updV Fh0 9 (.int 1)))), (h4, .inl (G.2.1, 40, .inl (upd f4 0 n0))), (h5, .inl (G.2.1, 40, .inl (upd f5 0 n1))), (h6, .inl (G.2.1, 40, .inl (upd f6 0 n2)))] := hD
  exact k_vret C hr hlk hP hD hS () (trivial) [0, 1, 2, 3] rfl rfl (Nat.le_of_ble_eq_true rfl) (Nat.le_of_ble_eq_true rfl) dX3_keepAct_53
set_option maxHeartbeats 4000000 in
set_option maxRecDepth 100000 in
theorem c_X3_start (l : Launch) (G : kG) (sz : Nat) (h0 : Nat) (ap : Nat) (Fh0 : Nat → Value) (Fap : Nat → Value) (e_ap_2 : Fap 2 = .int 0) : kM l yX3_start cX3_start 4 none { frames := 6, cells := 0, slots := 0, locals := 110 } G [.ref h0, .ref ap] [(h0, .inr (3, ofL 12 Fh0)), (ap, .inr (7, ofL 5 Fap))] sz (kQv G (S := Unit) (fun (_ : Unit) => True) (fun _ => [(h0, .inr (3, ofL 12 (updV (updV (updV Fh0 9 (.int 0)) 10 (.int 0)) 11 (.int (-1))))), (ap, .inr (7, ofL 5 Fap))])) := by
  refine kM.of (by decide) (Nat.le_of_ble_eq_true rfl) ?_
  intro p e s m below meth c A ls H C hr hlk hnm hP hD hS hl
  have C : kC G p s m c cX3_start 4 RX3 A := C
  have hx := C.1
  have hb := C.2.1
  have hl : lv_has ls 4 [(0, .ref h0), (1, .ref ap)] := hl
  refine lv_iconst (v := 0) hx hb dX3_start_0 (by decide) ?_
  refine lv_istore_n (lv' := [(2, .int 0), (0, .ref h0), (1, .ref ap)]) hx hb dX3_start_1 rfl hl (by decide) rfl (fun ls hl => ?_)
  refine lv_iload_n hx hb dX3_start_2 rfl (lv_at hl 0 rfl) ?_
  refine lv_aload_n hx hb dX3_start_3 rfl (lv_at hl 2 rfl) ?_
  refine k_getN (v := .int 0) fl_X3_49 C hP 1 rfl e_ap_2 dX3_start_4 ?_
  refine lv_icmp_ge (x := 0) (y := 0) (tgt := 63) hx hb dX3_start_7 (by decide) (fun c_1 => ?_) (fun c_1 => ?_)
  rotate_left
  · exact absurd (by decide) c_1
  refine lv_aload_n hx hb dX3_start_63 rfl (lv_at hl 1 rfl) ?_
  refine lv_iconst (v := 0) hx hb dX3_start_64 (by decide) ?_
  refine k_put fl_X3_39 ft_X3_9 C hP hD hS 0 rfl rfl rfl dX3_start_65 (fun H locs hP hD hS => ?_)
  have hP : va_P G.1 vwCl [(h0, .inr (3, ofL 12 (updV Fh0 9 (.int 0)))), (ap, .inr (7, ofL 5 Fap))] H := hP
  have hD : va_D A [(h0, .inr (3, ofL 12 (updV Fh0 9 (.int 0)))), (ap, .inr (7, ofL 5 Fap))] := hD
  refine lv_aload_n hx hb dX3_start_68 rfl (lv_at hl 1 rfl) ?_
  refine lv_iconst (v := 0) hx hb dX3_start_69 (by decide) ?_
  refine k_put fl_X3_43 ft_X3_10 C hP hD hS 0 rfl rfl rfl dX3_start_70 (fun H locs hP hD hS => ?_)
  have hP : va_P G.1 vwCl [(h0, .inr (3, ofL 12 (updV (updV Fh0 9 (.int 0)) 10 (.int 0)))), (ap, .inr (7, ofL 5 Fap))] H := hP
  have hD : va_D A [(h0, .inr (3, ofL 12 (updV (updV Fh0 9 (.int 0)) 10 (.int 0)))), (ap, .inr (7, ofL 5 Fap))] := hD
  refine lv_aload_n hx hb dX3_start_73 rfl (lv_at hl 1 rfl) ?_
  refine lv_iconst (v := -1) hx hb dX3_start_74 (by decide) ?_
  refine k_put fl_X3_46 ft_X3_11 C hP hD hS 0 rfl rfl rfl dX3_start_75 (fun H locs hP hD hS => ?_)
  have hP : va_P G.1 vwCl [(h0, .inr (3, ofL 12 (updV (updV (updV Fh0 9 (.int 0)) 10 (.int 0)) 11 (.int (-1))))), (ap, .inr (7, ofL 5 Fap))] H := hP
  have hD : va_D A [(h0, .inr (3, ofL 12 (updV (updV (updV Fh0 9 (.int 0)) 10 (.int 0)) 11 (.int (-1))))), (ap, .inr (7, ofL 5 Fap))] := hD
  exact k_vret C hr hlk hP hD hS () (trivial) [0, 1] rfl rfl (Nat.le_of_ble_eq_true rfl) (Nat.le_of_ble_eq_true rfl) dX3_start_78
set_option maxHeartbeats 4000000 in
set_option maxRecDepth 100000 in
theorem c_X3_copy (l : Launch) (G : kG) (sz : Nat) (h0 : Nat) (h1 : Nat) (Fh0 : Nat → Value) (p0 : Nat) (p1 : Nat) (p2 : Nat) (p3 : Nat) (p4 : Nat) (p5 : Nat) (p6 : Nat) (p7 : Nat) (p8 : Nat) (Fh1 : Nat → Value) (q0 : Nat) (q1 : Nat) (q2 : Nat) (q3 : Nat) (q4 : Nat) (q5 : Nat) (q6 : Nat) (q7 : Nat) (q8 : Nat) (n9 : Int32) (n10 : Int32) (n11 : Int32) (f0 : Nat → Int32) (f1 : Nat → Int32) (f2 : Nat → Int32) (f3 : Nat → Int32) (f4 : Nat → Int32) (f5 : Nat → Int32) (f6 : Nat → Int32) (f7 : Nat → Int32) (f8 : Nat → Int32) (g0 : Nat → Int32) (g1 : Nat → Int32) (g2 : Nat → Int32) (g3 : Nat → Int32) (g4 : Nat → Int32) (g5 : Nat → Int32) (g6 : Nat → Int32) (g7 : Nat → Int32) (g8 : Nat → Int32) (e_h0_0 : Fh0 0 = .ref p0) (e_h0_1 : Fh0 1 = .ref p1) (e_h0_2 : Fh0 2 = .ref p2) (e_h0_3 : Fh0 3 = .ref p3) (e_h0_4 : Fh0 4 = .ref p4) (e_h0_5 : Fh0 5 = .ref p5) (e_h0_6 : Fh0 6 = .ref p6) (e_h0_7 : Fh0 7 = .ref p7) (e_h0_8 : Fh0 8 = .ref p8) (e_h1_0 : Fh1 0 = .ref q0) (e_h1_1 : Fh1 1 = .ref q1) (e_h1_2 : Fh1 2 = .ref q2) (e_h1_3 : Fh1 3 = .ref q3) (e_h1_4 : Fh1 4 = .ref q4) (e_h1_5 : Fh1 5 = .ref q5) (e_h1_6 : Fh1 6 = .ref q6) (e_h1_7 : Fh1 7 = .ref q7) (e_h1_8 : Fh1 8 = .ref q8) (e_h1_9 : Fh1 9 = .int n9) (e_h1_10 : Fh1 10 = .int n10) (e_h1_11 : Fh1 11 = .int n11) : kM l yX3_copy cX3_copy 2 none { frames := 6, cells := 0, slots := 0, locals := 110 } G [.ref h0, .ref h1] [(h0, .inr (3, ofL 12 Fh0)), (h1, .inr (3, ofL 12 Fh1)), (p0, .inl (G.2.1, 12, .inl f0)), (p1, .inl (G.2.1, 12, .inl f1)), (p2, .inl (G.2.1, 12, .inl f2)), (p3, .inl (G.2.1, 12, .inl f3)), (p4, .inl (G.2.1, 40, .inl f4)), (p5, .inl (G.2.1, 40, .inl f5)), (p6, .inl (G.2.1, 40, .inl f6)), (p7, .inl (G.2.1, 8, .inl f7)), (p8, .inl (G.2.1, 8, .inl f8)), (q0, .inl (G.2.1, 12, .inl g0)), (q1, .inl (G.2.1, 12, .inl g1)), (q2, .inl (G.2.1, 12, .inl g2)), (q3, .inl (G.2.1, 12, .inl g3)), (q4, .inl (G.2.1, 40, .inl g4)), (q5, .inl (G.2.1, 40, .inl g5)), (q6, .inl (G.2.1, 40, .inl g6)), (q7, .inl (G.2.1, 8, .inl g7)), (q8, .inl (G.2.1, 8, .inl g8))] sz (kQv G (S := Unit) (fun (_ : Unit) => True) (fun _ => [(h0, .inr (3, ofL 12 (updV (updV (updV Fh0 9 (.int n9)) 10 (.int n10)) 11 (.int n11)))), (h1, .inr (3, ofL 12 Fh1)), (p0, .inl (G.2.1, 12, .inl (va_cpy g0 f0 0 0 12))), (p1, .inl (G.2.1, 12, .inl (va_cpy g1 f1 0 0 12))), (p2, .inl (G.2.1, 12, .inl (va_cpy g2 f2 0 0 12))), (p3, .inl (G.2.1, 12, .inl (va_cpy g3 f3 0 0 12))), (p4, .inl (G.2.1, 40, .inl (va_cpy g4 f4 0 0 40))), (p5, .inl (G.2.1, 40, .inl (va_cpy g5 f5 0 0 40))), (p6, .inl (G.2.1, 40, .inl (va_cpy g6 f6 0 0 40))), (p7, .inl (G.2.1, 8, .inl (va_cpy g7 f7 0 0 8))), (p8, .inl (G.2.1, 8, .inl (va_cpy g8 f8 0 0 8))), (q0, .inl (G.2.1, 12, .inl g0)), (q1, .inl (G.2.1, 12, .inl g1)), (q2, .inl (G.2.1, 12, .inl g2)), (q3, .inl (G.2.1, 12, .inl g3)), (q4, .inl (G.2.1, 40, .inl g4)), (q5, .inl (G.2.1, 40, .inl g5)), (q6, .inl (G.2.1, 40, .inl g6)), (q7, .inl (G.2.1, 8, .inl g7)), (q8, .inl (G.2.1, 8, .inl g8))])) := by
  refine kM.of (by decide) (Nat.le_of_ble_eq_true rfl) ?_
  intro p e s m below meth c A ls H C hr hlk hnm hP hD hS hl
  have C : kC G p s m c cX3_copy 2 RX3 A := C
  have hx := C.1
  have hb := C.2.1
  have hl : lv_has ls 2 [(0, .ref h0), (1, .ref h1)] := hl
  refine lv_aload_n hx hb dX3_copy_0 rfl (lv_at hl 1 rfl) ?_
  refine k_get (v := .ref q0) fl_X3_9 C hP 1 rfl e_h1_0 dX3_copy_1 ?_
  refine lv_iconst (v := 0) hx hb dX3_copy_4 (by decide) ?_
  refine lv_aload_n hx hb dX3_copy_5 rfl (lv_at hl 0 rfl) ?_
  refine k_get (v := .ref p0) fl_X3_9 C hP 0 rfl e_h0_0 dX3_copy_6 ?_
  refine lv_iconst (v := 0) hx hb dX3_copy_9 (by decide) ?_
  refine lv_bipush (v := 12) hx hb dX3_copy_10 (by decide) ?_
  refine k_copy lc_X3_72 C hl.1 hP hD hS 11 2 rfl rfl (by decide) (by decide) (by decide) (by decide) (by decide) (Nat.le_of_ble_eq_true rfl) (by decide) dX3_copy_12 (fun H locs hP hD hS => ?_)
  have hP : va_P G.1 vwCl [(h0, .inr (3, ofL 12 Fh0)), (h1, .inr (3, ofL 12 Fh1)), (p0, .inl (G.2.1, 12, .inl (va_cpy g0 f0 0 0 12))), (p1, .inl (G.2.1, 12, .inl f1)), (p2, .inl (G.2.1, 12, .inl f2)), (p3, .inl (G.2.1, 12, .inl f3)), (p4, .inl (G.2.1, 40, .inl f4)), (p5, .inl (G.2.1, 40, .inl f5)), (p6, .inl (G.2.1, 40, .inl f6)), (p7, .inl (G.2.1, 8, .inl f7)), (p8, .inl (G.2.1, 8, .inl f8)), (q0, .inl (G.2.1, 12, .inl g0)), (q1, .inl (G.2.1, 12, .inl g1)), (q2, .inl (G.2.1, 12, .inl g2)), (q3, .inl (G.2.1, 12, .inl g3)), (q4, .inl (G.2.1, 40, .inl g4)), (q5, .inl (G.2.1, 40, .inl g5)), (q6, .inl (G.2.1, 40, .inl g6)), (q7, .inl (G.2.1, 8, .inl g7)), (q8, .inl (G.2.1, 8, .inl g8))] H := hP
  have hD : va_D A [(h0, .inr (3, ofL 12 Fh0)), (h1, .inr (3, ofL 12 Fh1)), (p0, .inl (G.2.1, 12, .inl (va_cpy g0 f0 0 0 12))), (p1, .inl (G.2.1, 12, .inl f1)), (p2, .inl (G.2.1, 12, .inl f2)), (p3, .inl (G.2.1, 12, .inl f3)), (p4, .inl (G.2.1, 40, .inl f4)), (p5, .inl (G.2.1, 40, .inl f5)), (p6, .inl (G.2.1, 40, .inl f6)), (p7, .inl (G.2.1, 8, .inl f7)), (p8, .inl (G.2.1, 8, .inl f8)), (q0, .inl (G.2.1, 12, .inl g0)), (q1, .inl (G.2.1, 12, .inl g1)), (q2, .inl (G.2.1, 12, .inl g2)), (q3, .inl (G.2.1, 12, .inl g3)), (q4, .inl (G.2.1, 40, .inl g4)), (q5, .inl (G.2.1, 40, .inl g5)), (q6, .inl (G.2.1, 40, .inl g6)), (q7, .inl (G.2.1, 8, .inl g7)), (q8, .inl (G.2.1, 8, .inl g8))] := hD
  refine lv_aload_n hx hb dX3_copy_15 rfl (lv_at hl 1 rfl) ?_
  refine k_get (v := .ref q1) fl_X3_15 C hP 1 rfl e_h1_1 dX3_copy_16 ?_
  refine lv_iconst (v := 0) hx hb dX3_copy_19 (by decide) ?_
  refine lv_aload_n hx hb dX3_copy_20 rfl (lv_at hl 0 rfl) ?_
  refine k_get (v := .ref p1) fl_X3_15 C hP 0 rfl e_h0_1 dX3_copy_21 ?_
  refine lv_iconst (v := 0) hx hb dX3_copy_24 (by decide) ?_
  refine lv_bipush (v := 12) hx hb dX3_copy_25 (by decide) ?_
  refine k_copy lc_X3_72 C hl.1 hP hD hS 12 3 rfl rfl (by decide) (by decide) (by decide) (by decide) (by decide) (Nat.le_of_ble_eq_true rfl) (by decide) dX3_copy_27 (fun H locs hP hD hS => ?_)
  have hP : va_P G.1 vwCl [(h0, .inr (3, ofL 12 Fh0)), (h1, .inr (3, ofL 12 Fh1)), (p0, .inl (G.2.1, 12, .inl (va_cpy g0 f0 0 0 12))), (p1, .inl (G.2.1, 12, .inl (va_cpy g1 f1 0 0 12))), (p2, .inl (G.2.1, 12, .inl f2)), (p3, .inl (G.2.1, 12, .inl f3)), (p4, .inl (G.2.1, 40, .inl f4)), (p5, .inl (G.2.1, 40, .inl f5)), (p6, .inl (G.2.1, 40, .inl f6)), (p7, .inl (G.2.1, 8, .inl f7)), (p8, .inl (G.2.1, 8, .inl f8)), (q0, .inl (G.2.1, 12, .inl g0)), (q1, .inl (G.2.1, 12, .inl g1)), (q2, .inl (G.2.1, 12, .inl g2)), (q3, .inl (G.2.1, 12, .inl g3)), (q4, .inl (G.2.1, 40, .inl g4)), (q5, .inl (G.2.1, 40, .inl g5)), (q6, .inl (G.2.1, 40, .inl g6)), (q7, .inl (G.2.1, 8, .inl g7)), (q8, .inl (G.2.1, 8, .inl g8))] H := hP
  have hD : va_D A [(h0, .inr (3, ofL 12 Fh0)), (h1, .inr (3, ofL 12 Fh1)), (p0, .inl (G.2.1, 12, .inl (va_cpy g0 f0 0 0 12))), (p1, .inl (G.2.1, 12, .inl (va_cpy g1 f1 0 0 12))), (p2, .inl (G.2.1, 12, .inl f2)), (p3, .inl (G.2.1, 12, .inl f3)), (p4, .inl (G.2.1, 40, .inl f4)), (p5, .inl (G.2.1, 40, .inl f5)), (p6, .inl (G.2.1, 40, .inl f6)), (p7, .inl (G.2.1, 8, .inl f7)), (p8, .inl (G.2.1, 8, .inl f8)), (q0, .inl (G.2.1, 12, .inl g0)), (q1, .inl (G.2.1, 12, .inl g1)), (q2, .inl (G.2.1, 12, .inl g2)), (q3, .inl (G.2.1, 12, .inl g3)), (q4, .inl (G.2.1, 40, .inl g4)), (q5, .inl (G.2.1, 40, .inl g5)), (q6, .inl (G.2.1, 40, .inl g6)), (q7, .inl (G.2.1, 8, .inl g7)), (q8, .inl (G.2.1, 8, .inl g8))] := hD
  refine lv_aload_n hx hb dX3_copy_30 rfl (lv_at hl 1 rfl) ?_
  refine k_get (v := .ref q2) fl_X3_18 C hP 1 rfl e_h1_2 dX3_copy_31 ?_
  refine lv_iconst (v := 0) hx hb dX3_copy_34 (by decide) ?_
  refine lv_aload_n hx hb dX3_copy_35 rfl (lv_at hl 0 rfl) ?_
  refine k_get (v := .ref p2) fl_X3_18 C hP 0 rfl e_h0_2 dX3_copy_36 ?_
  refine lv_iconst (v := 0) hx hb dX3_copy_39 (by decide) ?_
  refine lv_bipush (v := 12) hx hb dX3_copy_40 (by decide) ?_
  refine k_copy lc_X3_72 C hl.1 hP hD hS 13 4 rfl rfl (by decide) (by decide) (by decide) (by decide) (by decide) (Nat.le_of_ble_eq_true rfl) (by decide) dX3_copy_42 (fun H locs hP hD hS => ?_)
  have hP : va_P G.1 vwCl [(h0, .inr (3, ofL 12 Fh0)), (h1, .inr (3, ofL 12 Fh1)), (p0, .inl (G.2.1, 12, .inl (va_cpy g0 f0 0 0 12))), (p1, .inl (G.2.1, 12, .inl (va_cpy g1 f1 0 0 12))), (p2, .inl (G.2.1, 12, .inl (va_cpy g2 f2 0 0 12))), (p3, .inl (G.2.1, 12, .inl f3)), (p4, .inl (G.2.1, 40, .inl f4)), (p5, .inl (G.2.1, 40, .inl f5)), (p6, .inl (G.2.1, 40, .inl f6)), (p7, .inl (G.2.1, 8, .inl f7)), (p8, .inl (G.2.1, 8, .inl f8)), (q0, .inl (G.2.1, 12, .inl g0)), (q1, .inl (G.2.1, 12, .inl g1)), (q2, .inl (G.2.1, 12, .inl g2)), (q3, .inl (G.2.1, 12, .inl g3)), (q4, .inl (G.2.1, 40, .inl g4)), (q5, .inl (G.2.1, 40, .inl g5)), (q6, .inl (G.2.1, 40, .inl g6)), (q7, .inl (G.2.1, 8, .inl g7)), (q8, .inl (G.2.1, 8, .inl g8))] H := hP
  have hD : va_D A [(h0, .inr (3, ofL 12 Fh0)), (h1, .inr (3, ofL 12 Fh1)), (p0, .inl (G.2.1, 12, .inl (va_cpy g0 f0 0 0 12))), (p1, .inl (G.2.1, 12, .inl (va_cpy g1 f1 0 0 12))), (p2, .inl (G.2.1, 12, .inl (va_cpy g2 f2 0 0 12))), (p3, .inl (G.2.1, 12, .inl f3)), (p4, .inl (G.2.1, 40, .inl f4)), (p5, .inl (G.2.1, 40, .inl f5)), (p6, .inl (G.2.1, 40, .inl f6)), (p7, .inl (G.2.1, 8, .inl f7)), (p8, .inl (G.2.1, 8, .inl f8)), (q0, .inl (G.2.1, 12, .inl g0)), (q1, .inl (G.2.1, 12, .inl g1)), (q2, .inl (G.2.1, 12, .inl g2)), (q3, .inl (G.2.1, 12, .inl g3)), (q4, .inl (G.2.1, 40, .inl g4)), (q5, .inl (G.2.1, 40, .inl g5)), (q6, .inl (G.2.1, 40, .inl g6)), (q7, .inl (G.2.1, 8, .inl g7)), (q8, .inl (G.2.1, 8, .inl g8))] := hD
  refine lv_aload_n hx hb dX3_copy_45 rfl (lv_at hl 1 rfl) ?_
  refine k_get (v := .ref q3) fl_X3_21 C hP 1 rfl e_h1_3 dX3_copy_46 ?_
  refine lv_iconst (v := 0) hx hb dX3_copy_49 (by decide) ?_
  refine lv_aload_n hx hb dX3_copy_50 rfl (lv_at hl 0 rfl) ?_
  refine k_get (v := .ref p3) fl_X3_21 C hP 0 rfl e_h0_3 dX3_copy_51 ?_
  refine lv_iconst (v := 0) hx hb dX3_copy_54 (by decide) ?_
  refine lv_bipush (v := 12) hx hb dX3_copy_55 (by decide) ?_
  refine k_copy lc_X3_72 C hl.1 hP hD hS 14 5 rfl rfl (by decide) (by decide) (by decide) (by decide) (by decide) (Nat.le_of_ble_eq_true rfl) (by decide) dX3_copy_57 (fun H locs hP hD hS => ?_)
  have hP : va_P G.1 vwCl [(h0, .inr (3, ofL 12 Fh0)), (h1, .inr (3, ofL 12 Fh1)), (p0, .inl (G.2.1, 12, .inl (va_cpy g0 f0 0 0 12))), (p1, .inl (G.2.1, 12, .inl (va_cpy g1 f1 0 0 12))), (p2, .inl (G.2.1, 12, .inl (va_cpy g2 f2 0 0 12))), (p3, .inl (G.2.1, 12, .inl (va_cpy g3 f3 0 0 12))), (p4, .inl (G.2.1, 40, .inl f4)), (p5, .inl (G.2.1, 40, .inl f5)), (p6, .inl (G.2.1, 40, .inl f6)), (p7, .inl (G.2.1, 8, .inl f7)), (p8, .inl (G.2.1, 8, .inl f8)), (q0, .inl (G.2.1, 12, .inl g0)), (q1, .inl (G.2.1, 12, .inl g1)), (q2, .inl (G.2.1, 12, .inl g2)), (q3, .inl (G.2.1, 12, .inl g3)), (q4, .inl (G.2.1, 40, .inl g4)), (q5, .inl (G.2.1, 40, .inl g5)), (q6, .inl (G.2.1, 40, .inl g6)), (q7, .inl (G.2.1, 8, .inl g7)), (q8, .inl (G.2.1, 8, .inl g8))] H := hP
  have hD : va_D A [(h0, .inr (3, ofL 12 Fh0)), (h1, .inr (3, ofL 12 Fh1)), (p0, .inl (G.2.1, 12, .inl (va_cpy g0 f0 0 0 12))), (p1, .inl (G.2.1, 12, .inl (va_cpy g1 f1 0 0 12))), (p2, .inl (G.2.1, 12, .inl (va_cpy g2 f2 0 0 12))), (p3, .inl (G.2.1, 12, .inl (va_cpy g3 f3 0 0 12))), (p4, .inl (G.2.1, 40, .inl f4)), (p5, .inl (G.2.1, 40, .inl f5)), (p6, .inl (G.2.1, 40, .inl f6)), (p7, .inl (G.2.1, 8, .inl f7)), (p8, .inl (G.2.1, 8, .inl f8)), (q0, .inl (G.2.1, 12, .inl g0)), (q1, .inl (G.2.1, 12, .inl g1)), (q2, .inl (G.2.1, 12, .inl g2)), (q3, .inl (G.2.1, 12, .inl g3)), (q4, .inl (G.2.1, 40, .inl g4)), (q5, .inl (G.2.1, 40, .inl g5)), (q6, .inl (G.2.1, 40, .inl g6)), (q7, .inl (G.2.1, 8, .inl g7)), (q8, .inl (G.2.1, 8, .inl g8))] := hD
  refine lv_aload_n hx hb dX3_copy_60 rfl (lv_at hl 1 rfl) ?_
  refine k_get (v := .ref q4) fl_X3_24 C hP 1 rfl e_h1_4 dX3_copy_61 ?_
  refine lv_iconst (v := 0) hx hb dX3_copy_64 (by decide) ?_
  refine lv_aload_n hx hb dX3_copy_65 rfl (lv_at hl 0 rfl) ?_
  refine k_get (v := .ref p4) fl_X3_24 C hP 0 rfl e_h0_4 dX3_copy_66 ?_
  refine lv_iconst (v := 0) hx hb dX3_copy_69 (by decide) ?_
  refine lv_bipush (v := 40) hx hb dX3_copy_70 (by decide) ?_
  refine k_copy lc_X3_72 C hl.1 hP hD hS 15 6 rfl rfl (by decide) (by decide) (by decide) (by decide) (by decide) (Nat.le_of_ble_eq_true rfl) (by decide) dX3_copy_72 (fun H locs hP hD hS => ?_)
  have hP : va_P G.1 vwCl [(h0, .inr (3, ofL 12 Fh0)), (h1, .inr (3, ofL 12 Fh1)), (p0, .inl (G.2.1, 12, .inl (va_cpy g0 f0 0 0 12))), (p1, .inl (G.2.1, 12, .inl (va_cpy g1 f1 0 0 12))), (p2, .inl (G.2.1, 12, .inl (va_cpy g2 f2 0 0 12))), (p3, .inl (G.2.1, 12, .inl (va_cpy g3 f3 0 0 12))), (p4, .inl (G.2.1, 40, .inl (va_cpy g4 f4 0 0 40))), (p5, .inl (G.2.1, 40, .inl f5)), (p6, .inl (G.2.1, 40, .inl f6)), (p7, .inl (G.2.1, 8, .inl f7)), (p8, .inl (G.2.1, 8, .inl f8)), (q0, .inl (G.2.1, 12, .inl g0)), (q1, .inl (G.2.1, 12, .inl g1)), (q2, .inl (G.2.1, 12, .inl g2)), (q3, .inl (G.2.1, 12, .inl g3)), (q4, .inl (G.2.1, 40, .inl g4)), (q5, .inl (G.2.1, 40, .inl g5)), (q6, .inl (G.2.1, 40, .inl g6)), (q7, .inl (G.2.1, 8, .inl g7)), (q8, .inl (G.2.1, 8, .inl g8))] H := hP
  have hD : va_D A [(h0, .inr (3, ofL 12 Fh0)), (h1, .inr (3, ofL 12 Fh1)), (p0, .inl (G.2.1, 12, .inl (va_cpy g0 f0 0 0 12))), (p1, .inl (G.2.1, 12, .inl (va_cpy g1 f1 0 0 12))), (p2, .inl (G.2.1, 12, .inl (va_cpy g2 f2 0 0 12))), (p3, .inl (G.2.1, 12, .inl (va_cpy g3 f3 0 0 12))), (p4, .inl (G.2.1, 40, .inl (va_cpy g4 f4 0 0 40))), (p5, .inl (G.2.1, 40, .inl f5)), (p6, .inl (G.2.1, 40, .inl f6)), (p7, .inl (G.2.1, 8, .inl f7)), (p8, .inl (G.2.1, 8, .inl f8)), (q0, .inl (G.2.1, 12, .inl g0)), (q1, .inl (G.2.1, 12, .inl g1)), (q2, .inl (G.2.1, 12, .inl g2)), (q3, .inl (G.2.1, 12, .inl g3)), (q4, .inl (G.2.1, 40, .inl g4)), (q5, .inl (G.2.1, 40, .inl g5)), (q6, .inl (G.2.1, 40, .inl g6)), (q7, .inl (G.2.1, 8, .inl g7)), (q8, .inl (G.2.1, 8, .inl g8))] := hD
  refine lv_aload_n hx hb dX3_copy_75 rfl (lv_at hl 1 rfl) ?_
  refine k_get (v := .ref q5) fl_X3_27 C hP 1 rfl e_h1_5 dX3_copy_76 ?_
  refine lv_iconst (v := 0) hx hb dX3_copy_79 (by decide) ?_
  refine lv_aload_n hx hb dX3_copy_80 rfl (lv_at hl 0 rfl) ?_
  refine k_get (v := .ref p5) fl_X3_27 C hP 0 rfl e_h0_5 dX3_copy_81 ?_
  refine lv_iconst (v := 0) hx hb dX3_copy_84 (by decide) ?_
  refine lv_bipush (v := 40) hx hb dX3_copy_85 (by decide) ?_
  refine k_copy lc_X3_72 C hl.1 hP hD hS 16 7 rfl rfl (by decide) (by decide) (by decide) (by decide) (by decide) (Nat.le_of_ble_eq_true rfl) (by decide) dX3_copy_87 (fun H locs hP hD hS => ?_)
  have hP : va_P G.1 vwCl [(h0, .inr (3, ofL 12 Fh0)), (h1, .inr (3, ofL 12 Fh1)), (p0, .inl (G.2.1, 12, .inl (va_cpy g0 f0 0 0 12))), (p1, .inl (G.2.1, 12, .inl (va_cpy g1 f1 0 0 12))), (p2, .inl (G.2.1, 12, .inl (va_cpy g2 f2 0 0 12))), (p3, .inl (G.2.1, 12, .inl (va_cpy g3 f3 0 0 12))), (p4, .inl (G.2.1, 40, .inl (va_cpy g4 f4 0 0 40))), (p5, .inl (G.2.1, 40, .inl (va_cpy g5 f5 0 0 40))), (p6, .inl (G.2.1, 40, .inl f6)), (p7, .inl (G.2.1, 8, .inl f7)), (p8, .inl (G.2.1, 8, .inl f8)), (q0, .inl (G.2.1, 12, .inl g0)), (q1, .inl (G.2.1, 12, .inl g1)), (q2, .inl (G.2.1, 12, .inl g2)), (q3, .inl (G.2.1, 12, .inl g3)), (q4, .inl (G.2.1, 40, .inl g4)), (q5, .inl (G.2.1, 40, .inl g5)), (q6, .inl (G.2.1, 40, .inl g6)), (q7, .inl (G.2.1, 8, .inl g7)), (q8, .inl (G.2.1, 8, .inl g8))] H := hP
  have hD : va_D A [(h0, .inr (3, ofL 12 Fh0)), (h1, .inr (3, ofL 12 Fh1)), (p0, .inl (G.2.1, 12, .inl (va_cpy g0 f0 0 0 12))), (p1, .inl (G.2.1, 12, .inl (va_cpy g1 f1 0 0 12))), (p2, .inl (G.2.1, 12, .inl (va_cpy g2 f2 0 0 12))), (p3, .inl (G.2.1, 12, .inl (va_cpy g3 f3 0 0 12))), (p4, .inl (G.2.1, 40, .inl (va_cpy g4 f4 0 0 40))), (p5, .inl (G.2.1, 40, .inl (va_cpy g5 f5 0 0 40))), (p6, .inl (G.2.1, 40, .inl f6)), (p7, .inl (G.2.1, 8, .inl f7)), (p8, .inl (G.2.1, 8, .inl f8)), (q0, .inl (G.2.1, 12, .inl g0)), (q1, .inl (G.2.1, 12, .inl g1)), (q2, .inl (G.2.1, 12, .inl g2)), (q3, .inl (G.2.1, 12, .inl g3)), (q4, .inl (G.2.1, 40, .inl g4)), (q5, .inl (G.2.1, 40, .inl g5)), (q6, .inl (G.2.1, 40, .inl g6)), (q7, .inl (G.2.1, 8, .inl g7)), (q8, .inl (G.2.1, 8, .inl g8))] := hD
  refine lv_aload_n hx hb dX3_copy_90 rfl (lv_at hl 1 rfl) ?_
  refine k_get (v := .ref q6) fl_X3_30 C hP 1 rfl e_h1_6 dX3_copy_91 ?_
  refine lv_iconst (v := 0) hx hb dX3_copy_94 (by decide) ?_
  refine lv_aload_n hx hb dX3_copy_95 rfl (lv_at hl 0 rfl) ?_
  refine k_get (v := .ref p6) fl_X3_30 C hP 0 rfl e_h0_6 dX3_copy_96 ?_
  refine lv_iconst (v := 0) hx hb dX3_copy_99 (by decide) ?_
  refine lv_bipush (v := 40) hx hb dX3_copy_100 (by decide) ?_
  refine k_copy lc_X3_72 C hl.1 hP hD hS 17 8 rfl rfl (by decide) (by decide) (by decide) (by decide) (by decide) (Nat.le_of_ble_eq_true rfl) (by decide) dX3_copy_102 (fun H locs hP hD hS => ?_)
  have hP : va_P G.1 vwCl [(h0, .inr (3, ofL 12 Fh0)), (h1, .inr (3, ofL 12 Fh1)), (p0, .inl (G.2.1, 12, .inl (va_cpy g0 f0 0 0 12))), (p1, .inl (G.2.1, 12, .inl (va_cpy g1 f1 0 0 12))), (p2, .inl (G.2.1, 12, .inl (va_cpy g2 f2 0 0 12))), (p3, .inl (G.2.1, 12, .inl (va_cpy g3 f3 0 0 12))), (p4, .inl (G.2.1, 40, .inl (va_cpy g4 f4 0 0 40))), (p5, .inl (G.2.1, 40, .inl (va_cpy g5 f5 0 0 40))), (p6, .inl (G.2.1, 40, .inl (va_cpy g6 f6 0 0 40))), (p7, .inl (G.2.1, 8, .inl f7)), (p8, .inl (G.2.1, 8, .inl f8)), (q0, .inl (G.2.1, 12, .inl g0)), (q1, .inl (G.2.1, 12, .inl g1)), (q2, .inl (G.2.1, 12, .inl g2)), (q3, .inl (G.2.1, 12, .inl g3)), (q4, .inl (G.2.1, 40, .inl g4)), (q5, .inl (G.2.1, 40, .inl g5)), (q6, .inl (G.2.1, 40, .inl g6)), (q7, .inl (G.2.1, 8, .inl g7)), (q8, .inl (G.2.1, 8, .inl g8))] H := hP
  have hD : va_D A [(h0, .inr (3, ofL 12 Fh0)), (h1, .inr (3, ofL 12 Fh1)), (p0, .inl (G.2.1, 12, .inl (va_cpy g0 f0 0 0 12))), (p1, .inl (G.2.1, 12, .inl (va_cpy g1 f1 0 0 12))), (p2, .inl (G.2.1, 12, .inl (va_cpy g2 f2 0 0 12))), (p3, .inl (G.2.1, 12, .inl (va_cpy g3 f3 0 0 12))), (p4, .inl (G.2.1, 40, .inl (va_cpy g4 f4 0 0 40))), (p5, .inl (G.2.1, 40, .inl (va_cpy g5 f5 0 0 40))), (p6, .inl (G.2.1, 40, .inl (va_cpy g6 f6 0 0 40))), (p7, .inl (G.2.1, 8, .inl f7)), (p8, .inl (G.2.1, 8, .inl f8)), (q0, .inl (G.2.1, 12, .inl g0)), (q1, .inl (G.2.1, 12, .inl g1)), (q2, .inl (G.2.1, 12, .inl g2)), (q3, .inl (G.2.1, 12, .inl g3)), (q4, .inl (G.2.1, 40, .inl g4)), (q5, .inl (G.2.1, 40, .inl g5)), (q6, .inl (G.2.1, 40, .inl g6)), (q7, .inl (G.2.1, 8, .inl g7)), (q8, .inl (G.2.1, 8, .inl g8))] := hD
  refine lv_aload_n hx hb dX3_copy_105 rfl (lv_at hl 1 rfl) ?_
  refine k_get (v := .ref q7) fl_X3_33 C hP 1 rfl e_h1_7 dX3_copy_106 ?_
  refine lv_iconst (v := 0) hx hb dX3_copy_109 (by decide) ?_
  refine lv_aload_n hx hb dX3_copy_110 rfl (lv_at hl 0 rfl) ?_
  refine k_get (v := .ref p7) fl_X3_33 C hP 0 rfl e_h0_7 dX3_copy_111 ?_
  refine lv_iconst (v := 0) hx hb dX3_copy_114 (by decide) ?_
  refine lv_bipush (v := 8) hx hb dX3_copy_115 (by decide) ?_
  refine k_copy lc_X3_72 C hl.1 hP hD hS 18 9 rfl rfl (by decide) (by decide) (by decide) (by decide) (by decide) (Nat.le_of_ble_eq_true rfl) (by decide) dX3_copy_117 (fun H locs hP hD hS => ?_)
  have hP : va_P G.1 vwCl [(h0, .inr (3, ofL 12 Fh0)), (h1, .inr (3, ofL 12 Fh1)), (p0, .inl (G.2.1, 12, .inl (va_cpy g0 f0 0 0 12))), (p1, .inl (G.2.1, 12, .inl (va_cpy g1 f1 0 0 12))), (p2, .inl (G.2.1, 12, .inl (va_cpy g2 f2 0 0 12))), (p3, .inl (G.2.1, 12, .inl (va_cpy g3 f3 0 0 12))), (p4, .inl (G.2.1, 40, .inl (va_cpy g4 f4 0 0 40))), (p5, .inl (G.2.1, 40, .inl (va_cpy g5 f5 0 0 40))), (p6, .inl (G.2.1, 40, .inl (va_cpy g6 f6 0 0 40))), (p7, .inl (G.2.1, 8, .inl (va_cpy g7 f7 0 0 8))), (p8, .inl (G.2.1, 8, .inl f8)), (q0, .inl (G.2.1, 12, .inl g0)), (q1, .inl (G.2.1, 12, .inl g1)), (q2, .inl (G.2.1, 12, .inl g2)), (q3, .inl (G.2.1, 12, .inl g3)), (q4, .inl (G.2.1, 40, .inl g4)), (q5, .inl (G.2.1, 40, .inl g5)), (q6, .inl (G.2.1, 40, .inl g6)), (q7, .inl (G.2.1, 8, .inl g7)), (q8, .inl (G.2.1, 8, .inl g8))] H := hP
  have hD : va_D A [(h0, .inr (3, ofL 12 Fh0)), (h1, .inr (3, ofL 12 Fh1)), (p0, .inl (G.2.1, 12, .inl (va_cpy g0 f0 0 0 12))), (p1, .inl (G.2.1, 12, .inl (va_cpy g1 f1 0 0 12))), (p2, .inl (G.2.1, 12, .inl (va_cpy g2 f2 0 0 12))), (p3, .inl (G.2.1, 12, .inl (va_cpy g3 f3 0 0 12))), (p4, .inl (G.2.1, 40, .inl (va_cpy g4 f4 0 0 40))), (p5, .inl (G.2.1, 40, .inl (va_cpy g5 f5 0 0 40))), (p6, .inl (G.2.1, 40, .inl (va_cpy g6 f6 0 0 40))), (p7, .inl (G.2.1, 8, .inl (va_cpy g7 f7 0 0 8))), (p8, .inl (G.2.1, 8, .inl f8)), (q0, .inl (G.2.1, 12, .inl g0)), (q1, .inl (G.2.1, 12, .inl g1)), (q2, .inl (G.2.1, 12, .inl g2)), (q3, .inl (G.2.1, 12, .inl g3)), (q4, .inl (G.2.1, 40, .inl g4)), (q5, .inl (G.2.1, 40, .inl g5)), (q6, .inl (G.2.1, 40, .inl g6)), (q7, .inl (G.2.1, 8, .inl g7)), (q8, .inl (G.2.1, 8, .inl g8))] := hD
  refine lv_aload_n hx hb dX3_copy_120 rfl (lv_at hl 1 rfl) ?_
  refine k_get (v := .ref q8) fl_X3_36 C hP 1 rfl e_h1_8 dX3_copy_121 ?_
  refine lv_iconst (v := 0) hx hb dX3_copy_124 (by decide) ?_
  refine lv_aload_n hx hb dX3_copy_125 rfl (lv_at hl 0 rfl) ?_
  refine k_get (v := .ref p8) fl_X3_36 C hP 0 rfl e_h0_8 dX3_copy_126 ?_
  refine lv_iconst (v := 0) hx hb dX3_copy_129 (by decide) ?_
  refine lv_bipush (v := 8) hx hb dX3_copy_130 (by decide) ?_
  refine k_copy lc_X3_72 C hl.1 hP hD hS 19 10 rfl rfl (by decide) (by decide) (by decide) (by decide) (by decide) (Nat.le_of_ble_eq_true rfl) (by decide) dX3_copy_132 (fun H locs hP hD hS => ?_)
  have hP : va_P G.1 vwCl [(h0, .inr (3, ofL 12 Fh0)), (h1, .inr (3, ofL 12 Fh1)), (p0, .inl (G.2.1, 12, .inl (va_cpy g0 f0 0 0 12))), (p1, .inl (G.2.1, 12, .inl (va_cpy g1 f1 0 0 12))), (p2, .inl (G.2.1, 12, .inl (va_cpy g2 f2 0 0 12))), (p3, .inl (G.2.1, 12, .inl (va_cpy g3 f3 0 0 12))), (p4, .inl (G.2.1, 40, .inl (va_cpy g4 f4 0 0 40))), (p5, .inl (G.2.1, 40, .inl (va_cpy g5 f5 0 0 40))), (p6, .inl (G.2.1, 40, .inl (va_cpy g6 f6 0 0 40))), (p7, .inl (G.2.1, 8, .inl (va_cpy g7 f7 0 0 8))), (p8, .inl (G.2.1, 8, .inl (va_cpy g8 f8 0 0 8))), (q0, .inl (G.2.1, 12, .inl g0)), (q1, .inl (G.2.1, 12, .inl g1)), (q2, .inl (G.2.1, 12, .inl g2)), (q3, .inl (G.2.1, 12, .inl g3)), (q4, .inl (G.2.1, 40, .inl g4)), (q5, .inl (G.2.1, 40, .inl g5)), (q6, .inl (G.2.1, 40, .inl g6)), (q7, .inl (G.2.1, 8, .inl g7)), (q8, .inl (G.2.1, 8, .inl g8))] H := hP
  have hD : va_D A [(h0, .inr (3, ofL 12 Fh0)), (h1, .inr (3, ofL 12 Fh1)), (p0, .inl (G.2.1, 12, .inl (va_cpy g0 f0 0 0 12))), (p1, .inl (G.2.1, 12, .inl (va_cpy g1 f1 0 0 12))), (p2, .inl (G.2.1, 12, .inl (va_cpy g2 f2 0 0 12))), (p3, .inl (G.2.1, 12, .inl (va_cpy g3 f3 0 0 12))), (p4, .inl (G.2.1, 40, .inl (va_cpy g4 f4 0 0 40))), (p5, .inl (G.2.1, 40, .inl (va_cpy g5 f5 0 0 40))), (p6, .inl (G.2.1, 40, .inl (va_cpy g6 f6 0 0 40))), (p7, .inl (G.2.1, 8, .inl (va_cpy g7 f7 0 0 8))), (p8, .inl (G.2.1, 8, .inl (va_cpy g8 f8 0 0 8))), (q0, .inl (G.2.1, 12, .inl g0)), (q1, .inl (G.2.1, 12, .inl g1)), (q2, .inl (G.2.1, 12, .inl g2)), (q3, .inl (G.2.1, 12, .inl g3)), (q4, .inl (G.2.1, 40, .inl g4)), (q5, .inl (G.2.1, 40, .inl g5)), (q6, .inl (G.2.1, 40, .inl g6)), (q7, .inl (G.2.1, 8, .inl g7)), (q8, .inl (G.2.1, 8, .inl g8))] := hD
  refine lv_aload_n hx hb dX3_copy_135 rfl (lv_at hl 0 rfl) ?_
  refine lv_aload_n hx hb dX3_copy_136 rfl (lv_at hl 1 rfl) ?_
  refine k_get (v := .int n9) fl_X3_39 C hP 1 rfl e_h1_9 dX3_copy_137 ?_
  refine k_put fl_X3_39 ft_X3_9 C hP hD hS 0 rfl rfl rfl dX3_copy_140 (fun H locs hP hD hS => ?_)
  have hP : va_P G.1 vwCl [(h0, .inr (3, ofL 12 (updV Fh0 9 (.int n9)))), (h1, .inr (3, ofL 12 Fh1)), (p0, .inl (G.2.1, 12, .inl (va_cpy g0 f0 0 0 12))), (p1, .inl (G.2.1, 12, .inl (va_cpy g1 f1 0 0 12))), (p2, .inl (G.2.1, 12, .inl (va_cpy g2 f2 0 0 12))), (p3, .inl (G.2.1, 12, .inl (va_cpy g3 f3 0 0 12))), (p4, .inl (G.2.1, 40, .inl (va_cpy g4 f4 0 0 40))), (p5, .inl (G.2.1, 40, .inl (va_cpy g5 f5 0 0 40))), (p6, .inl (G.2.1, 40, .inl (va_cpy g6 f6 0 0 40))), (p7, .inl (G.2.1, 8, .inl (va_cpy g7 f7 0 0 8))), (p8, .inl (G.2.1, 8, .inl (va_cpy g8 f8 0 0 8))), (q0, .inl (G.2.1, 12, .inl g0)), (q1, .inl (G.2.1, 12, .inl g1)), (q2, .inl (G.2.1, 12, .inl g2)), (q3, .inl (G.2.1, 12, .inl g3)), (q4, .inl (G.2.1, 40, .inl g4)), (q5, .inl (G.2.1, 40, .inl g5)), (q6, .inl (G.2.1, 40, .inl g6)), (q7, .inl (G.2.1, 8, .inl g7)), (q8, .inl (G.2.1, 8, .inl g8))] H := hP
  have hD : va_D A [(h0, .inr (3, ofL 12 (updV Fh0 9 (.int n9)))), (h1, .inr (3, ofL 12 Fh1)), (p0, .inl (G.2.1, 12, .inl (va_cpy g0 f0 0 0 12))), (p1, .inl (G.2.1, 12, .inl (va_cpy g1 f1 0 0 12))), (p2, .inl (G.2.1, 12, .inl (va_cpy g2 f2 0 0 12))), (p3, .inl (G.2.1, 12, .inl (va_cpy g3 f3 0 0 12))), (p4, .inl (G.2.1, 40, .inl (va_cpy g4 f4 0 0 40))), (p5, .inl (G.2.1, 40, .inl (va_cpy g5 f5 0 0 40))), (p6, .inl (G.2.1, 40, .inl (va_cpy g6 f6 0 0 40))), (p7, .inl (G.2.1, 8, .inl (va_cpy g7 f7 0 0 8))), (p8, .inl (G.2.1, 8, .inl (va_cpy g8 f8 0 0 8))), (q0, .inl (G.2.1, 12, .inl g0)), (q1, .inl (G.2.1, 12, .inl g1)), (q2, .inl (G.2.1, 12, .inl g2)), (q3, .inl (G.2.1, 12, .inl g3)), (q4, .inl (G.2.1, 40, .inl g4)), (q5, .inl (G.2.1, 40, .inl g5)), (q6, .inl (G.2.1, 40, .inl g6)), (q7, .inl (G.2.1, 8, .inl g7)), (q8, .inl (G.2.1, 8, .inl g8))] := hD
  refine lv_aload_n hx hb dX3_copy_143 rfl (lv_at hl 0 rfl) ?_
  refine lv_aload_n hx hb dX3_copy_144 rfl (lv_at hl 1 rfl) ?_
  refine k_get (v := .int n10) fl_X3_43 C hP 1 rfl e_h1_10 dX3_copy_145 ?_
  refine k_put fl_X3_43 ft_X3_10 C hP hD hS 0 rfl rfl rfl dX3_copy_148 (fun H locs hP hD hS => ?_)
  have hP : va_P G.1 vwCl [(h0, .inr (3, ofL 12 (updV (updV Fh0 9 (.int n9)) 10 (.int n10)))), (h1, .inr (3, ofL 12 Fh1)), (p0, .inl (G.2.1, 12, .inl (va_cpy g0 f0 0 0 12))), (p1, .inl (G.2.1, 12, .inl (va_cpy g1 f1 0 0 12))), (p2, .inl (G.2.1, 12, .inl (va_cpy g2 f2 0 0 12))), (p3, .inl (G.2.1, 12, .inl (va_cpy g3 f3 0 0 12))), (p4, .inl (G.2.1, 40, .inl (va_cpy g4 f4 0 0 40))), (p5, .inl (G.2.1, 40, .inl (va_cpy g5 f5 0 0 40))), (p6, .inl (G.2.1, 40, .inl (va_cpy g6 f6 0 0 40))), (p7, .inl (G.2.1, 8, .inl (va_cpy g7 f7 0 0 8))), (p8, .inl (G.2.1, 8, .inl (va_cpy g8 f8 0 0 8))), (q0, .inl (G.2.1, 12, .inl g0)), (q1, .inl (G.2.1, 12, .inl g1)), (q2, .inl (G.2.1, 12, .inl g2)), (q3, .inl (G.2.1, 12, .inl g3)), (q4, .inl (G.2.1, 40, .inl g4)), (q5, .inl (G.2.1, 40, .inl g5)), (q6, .inl (G.2.1, 40, .inl g6)), (q7, .inl (G.2.1, 8, .inl g7)), (q8, .inl (G.2.1, 8, .inl g8))] H := hP
  have hD : va_D A [(h0, .inr (3, ofL 12 (updV (updV Fh0 9 (.int n9)) 10 (.int n10)))), (h1, .inr (3, ofL 12 Fh1)), (p0, .inl (G.2.1, 12, .inl (va_cpy g0 f0 0 0 12))), (p1, .inl (G.2.1, 12, .inl (va_cpy g1 f1 0 0 12))), (p2, .inl (G.2.1, 12, .inl (va_cpy g2 f2 0 0 12))), (p3, .inl (G.2.1, 12, .inl (va_cpy g3 f3 0 0 12))), (p4, .inl (G.2.1, 40, .inl (va_cpy g4 f4 0 0 40))), (p5, .inl (G.2.1, 40, .inl (va_cpy g5 f5 0 0 40))), (p6, .inl (G.2.1, 40, .inl (va_cpy g6 f6 0 0 40))), (p7, .inl (G.2.1, 8, .inl (va_cpy g7 f7 0 0 8))), (p8, .inl (G.2.1, 8, .inl (va_cpy g8 f8 0 0 8))), (q0, .inl (G.2.1, 12, .inl g0)), (q1, .inl (G.2.1, 12, .inl g1)), (q2, .inl (G.2.1, 12, .inl g2)), (q3, .inl (G.2.1, 12, .inl g3)), (q4, .inl (G.2.1, 40, .inl g4)), (q5, .inl (G.2.1, 40, .inl g5)), (q6, .inl (G.2.1, 40, .inl g6)), (q7, .inl (G.2.1, 8, .inl g7)), (q8, .inl (G.2.1, 8, .inl g8))] := hD
  refine lv_aload_n hx hb dX3_copy_151 rfl (lv_at hl 0 rfl) ?_
  refine lv_aload_n hx hb dX3_copy_152 rfl (lv_at hl 1 rfl) ?_
  refine k_get (v := .int n11) fl_X3_46 C hP 1 rfl e_h1_11 dX3_copy_153 ?_
  refine k_put fl_X3_46 ft_X3_11 C hP hD hS 0 rfl rfl rfl dX3_copy_156 (fun H locs hP hD hS => ?_)
  have hP : va_P G.1 vwCl [(h0, .inr (3, ofL 12 (updV (updV (updV Fh0 9 (.int n9)) 10 (.int n10)) 11 (.int n11)))), (h1, .inr (3, ofL 12 Fh1)), (p0, .inl (G.2.1, 12, .inl (va_cpy g0 f0 0 0 12))), (p1, .inl (G.2.1, 12, .inl (va_cpy g1 f1 0 0 12))), (p2, .inl (G.2.1, 12, .inl (va_cpy g2 f2 0 0 12))), (p3, .inl (G.2.1, 12, .inl (va_cpy g3 f3 0 0 12))), (p4, .inl (G.2.1, 40, .inl (va_cpy g4 f4 0 0 40))), (p5, .inl (G.2.1, 40, .inl (va_cpy g5 f5 0 0 40))), (p6, .inl (G.2.1, 40, .inl (va_cpy g6 f6 0 0 40))), (p7, .inl (G.2.1, 8, .inl (va_cpy g7 f7 0 0 8))), (p8, .inl (G.2.1, 8, .inl (va_cpy g8 f8 0 0 8))), (q0, .inl (G.2.1, 12, .inl g0)), (q1, .inl (G.2.1, 12, .inl g1)), (q2, .inl (G.2.1, 12, .inl g2)), (q3, .inl (G.2.1, 12, .inl g3)), (q4, .inl (G.2.1, 40, .inl g4)), (q5, .inl (G.2.1, 40, .inl g5)), (q6, .inl (G.2.1, 40, .inl g6)), (q7, .inl (G.2.1, 8, .inl g7)), (q8, .inl (G.2.1, 8, .inl g8))] H := hP
  have hD : va_D A [(h0, .inr (3, ofL 12 (updV (updV (updV Fh0 9 (.int n9)) 10 (.int n10)) 11 (.int n11)))), (h1, .inr (3, ofL 12 Fh1)), (p0, .inl (G.2.1, 12, .inl (va_cpy g0 f0 0 0 12))), (p1, .inl (G.2.1, 12, .inl (va_cpy g1 f1 0 0 12))), (p2, .inl (G.2.1, 12, .inl (va_cpy g2 f2 0 0 12))), (p3, .inl (G.2.1, 12, .inl (va_cpy g3 f3 0 0 12))), (p4, .inl (G.2.1, 40, .inl (va_cpy g4 f4 0 0 40))), (p5, .inl (G.2.1, 40, .inl (va_cpy g5 f5 0 0 40))), (p6, .inl (G.2.1, 40, .inl (va_cpy g6 f6 0 0 40))), (p7, .inl (G.2.1, 8, .inl (va_cpy g7 f7 0 0 8))), (p8, .inl (G.2.1, 8, .inl (va_cpy g8 f8 0 0 8))), (q0, .inl (G.2.1, 12, .inl g0)), (q1, .inl (G.2.1, 12, .inl g1)), (q2, .inl (G.2.1, 12, .inl g2)), (q3, .inl (G.2.1, 12, .inl g3)), (q4, .inl (G.2.1, 40, .inl g4)), (q5, .inl (G.2.1, 40, .inl g5)), (q6, .inl (G.2.1, 40, .inl g6)), (q7, .inl (G.2.1, 8, .inl g7)), (q8, .inl (G.2.1, 8, .inl g8))] := hD
  exact k_vret C hr hlk hP hD hS () (trivial) [0, 1, 2, 3, 4, 5, 6, 7, 8, 9, 10, 11, 12, 13, 14, 15, 16, 17, 18, 19] rfl rfl (Nat.le_of_ble_eq_true rfl) (Nat.le_of_ble_eq_true rfl) dX3_copy_159
set_option maxHeartbeats 4000000 in
set_option maxRecDepth 100000 in
theorem c_X8_clear (l : Launch) (G : kG) (sz : Nat) (h0 : Nat) (Fh0 : Nat → Value) : kM l yX8_clear cX8_clear 1 none { frames := 6, cells := 0, slots := 0, locals := 110 } G [.ref h0] [(h0, .inr (8, ofL 5 Fh0))] sz (kQv G (S := Unit) (fun (_ : Unit) => True) (fun _ => [(h0, .inr (8, ofL 5 (updV (updV Fh0 3 (.int 0)) 4 (.int 0))))])) := by
  refine kM.of (by decide) (Nat.le_of_ble_eq_true rfl) ?_
  intro p e s m below meth c A ls H C hr hlk hnm hP hD hS hl
  have C : kC G p s m c cX8_clear 1 RX8 A := C
  have hx := C.1
  have hb := C.2.1
  have hl : lv_has ls 1 [(0, .ref h0)] := hl
  refine lv_aload_n hx hb dX8_clear_0 rfl (lv_at hl 0 rfl) ?_
  refine lv_iconst (v := 0) hx hb dX8_clear_1 (by decide) ?_
  refine k_put fl_X8_21 ft_X8_3 C hP hD hS 0 rfl rfl rfl dX8_clear_2 (fun H locs hP hD hS => ?_)
  have hP : va_P G.1 vwCl [(h0, .inr (8, ofL 5 (updV Fh0 3 (.int 0))))] H := hP
  have hD : va_D A [(h0, .inr (8, ofL 5 (updV Fh0 3 (.int 0))))] := hD
  refine lv_aload_n hx hb dX8_clear_5 rfl (lv_at hl 0 rfl) ?_
  refine lv_iconst (v := 0) hx hb dX8_clear_6 (by decide) ?_
  refine k_put fl_X8_25 ft_X8_4 C hP hD hS 0 rfl rfl rfl dX8_clear_7 (fun H locs hP hD hS => ?_)
  have hP : va_P G.1 vwCl [(h0, .inr (8, ofL 5 (updV (updV Fh0 3 (.int 0)) 4 (.int 0))))] H := hP
  have hD : va_D A [(h0, .inr (8, ofL 5 (updV (updV Fh0 3 (.int 0)) 4 (.int 0))))] := hD
  exact k_vret C hr hlk hP hD hS () (trivial) [0] rfl rfl (Nat.le_of_ble_eq_true rfl) (Nat.le_of_ble_eq_true rfl) dX8_clear_10
set_option maxHeartbeats 4000000 in
set_option maxRecDepth 100000 in
theorem c_X7_clear (l : Launch) (G : kG) (sz : Nat) (h0 : Nat) (Fh0 : Nat → Value) (ar : Nat) (Far : Nat → Value) (e_h0_1 : Fh0 1 = .ref ar) : kM l yX7_clear cX7_clear 1 none { frames := 7, cells := 0, slots := 0, locals := 130 } G [.ref h0] [(h0, .inr (7, ofL 5 Fh0)), (ar, .inr (8, ofL 5 Far))] sz (kQv G (S := Unit) (fun (_ : Unit) => True) (fun _ => [(h0, .inr (7, ofL 5 (updV (updV (updV Fh0 2 (.int 0)) 3 (.int 1)) 4 (.int 99)))), (ar, .inr (8, ofL 5 (updV (updV Far 3 (.int 0)) 4 (.int 0))))])) := by
  refine kM.of (by decide) (Nat.le_of_ble_eq_true rfl) ?_
  intro p e s m below meth c A ls H C hr hlk hnm hP hD hS hl
  have C : kC G p s m c cX7_clear 1 RX7 A := C
  have hx := C.1
  have hb := C.2.1
  have hl : lv_has ls 1 [(0, .ref h0)] := hl
  refine lv_aload_n hx hb dX7_clear_0 rfl (lv_at hl 0 rfl) ?_
  refine k_get (v := .ref ar) fl_X7_20 C hP 0 rfl e_h0_1 dX7_clear_1 ?_
  refine k_callNv (wr := [(h0, .inr (7, ofL 5 Fh0))]) (rest := []) li_X7_32 C (c_X8_clear l G H.size ar Far) (kR rfl) hP hD hS [1] [0] rfl rfl rfl rfl (by decide) 0 8 rfl rfl rfl hl.1 rfl (Nat.le_of_ble_eq_true rfl) dX7_clear_4 (fun uu3 H locs hw1 hP hD hS => ?_)
  have hP : va_P G.1 vwCl [(h0, .inr (7, ofL 5 Fh0)), (ar, .inr (8, ofL 5 (updV (updV Far 3 (.int 0)) 4 (.int 0))))] H := hP
  have hD : va_D A [(h0, .inr (7, ofL 5 Fh0)), (ar, .inr (8, ofL 5 (updV (updV Far 3 (.int 0)) 4 (.int 0))))] := hD
  refine lv_aload_n hx hb dX7_clear_7 rfl (lv_at hl 0 rfl) ?_
  refine lv_iconst (v := 0) hx hb dX7_clear_8 (by decide) ?_
  refine k_put fl_X7_35 ft_X7_2 C hP hD hS 0 rfl rfl rfl dX7_clear_9 (fun H locs hP hD hS => ?_)
  have hP : va_P G.1 vwCl [(h0, .inr (7, ofL 5 (updV Fh0 2 (.int 0)))), (ar, .inr (8, ofL 5 (updV (updV Far 3 (.int 0)) 4 (.int 0))))] H := hP
  have hD : va_D A [(h0, .inr (7, ofL 5 (updV Fh0 2 (.int 0)))), (ar, .inr (8, ofL 5 (updV (updV Far 3 (.int 0)) 4 (.int 0))))] := hD
  refine lv_aload_n hx hb dX7_clear_12 rfl (lv_at hl 0 rfl) ?_
  refine lv_iconst (v := 1) hx hb dX7_clear_13 (by decide) ?_
  refine k_put fl_X7_25 ft_X7_3 C hP hD hS 0 rfl rfl rfl dX7_clear_14 (fun H locs hP hD hS => ?_)
  have hP : va_P G.1 vwCl [(h0, .inr (7, ofL 5 (updV (updV Fh0 2 (.int 0)) 3 (.int 1)))), (ar, .inr (8, ofL 5 (updV (updV Far 3 (.int 0)) 4 (.int 0))))] H := hP
  have hD : va_D A [(h0, .inr (7, ofL 5 (updV (updV Fh0 2 (.int 0)) 3 (.int 1)))), (ar, .inr (8, ofL 5 (updV (updV Far 3 (.int 0)) 4 (.int 0))))] := hD
  refine lv_aload_n hx hb dX7_clear_17 rfl (lv_at hl 0 rfl) ?_
  refine lv_bipush (v := 99) hx hb dX7_clear_18 (by decide) ?_
  refine k_put fl_X7_29 ft_X7_4 C hP hD hS 0 rfl rfl rfl dX7_clear_20 (fun H locs hP hD hS => ?_)
  have hP : va_P G.1 vwCl [(h0, .inr (7, ofL 5 (updV (updV (updV Fh0 2 (.int 0)) 3 (.int 1)) 4 (.int 99)))), (ar, .inr (8, ofL 5 (updV (updV Far 3 (.int 0)) 4 (.int 0))))] H := hP
  have hD : va_D A [(h0, .inr (7, ofL 5 (updV (updV (updV Fh0 2 (.int 0)) 3 (.int 1)) 4 (.int 99)))), (ar, .inr (8, ofL 5 (updV (updV Far 3 (.int 0)) 4 (.int 0))))] := hD
  exact k_vret C hr hlk hP hD hS () (trivial) [0, 1] rfl rfl (Nat.le_of_ble_eq_true rfl) (Nat.le_of_ble_eq_true rfl) dX7_clear_23
set_option maxHeartbeats 4000000 in
set_option maxRecDepth 100000 in
theorem c_X6_advance (l : Launch) (G : kG) (sz : Nat) (h0 : Nat) (Fh0 : Nat → Value) (e_h0_2 : Fh0 2 = .int 0) (e_h0_3 : Fh0 3 = .int 0) (e_h0_4 : Fh0 4 = .int 0) : kM l yX6_advance cX6_advance 1 none { frames := 6, cells := 0, slots := 0, locals := 110 } G [.ref h0] [(h0, .inr (6, ofL 11 Fh0))] sz (kQv G (S := Unit) (fun (_ : Unit) => True) (fun _ => [(h0, .inr (6, ofL 11 (updV (updV (updV Fh0 5 (.int 0)) 6 (.int 0)) 4 (.int 0))))])) := by
  refine kM.of (by decide) (Nat.le_of_ble_eq_true rfl) ?_
  intro p e s m below meth c A ls H C hr hlk hnm hP hD hS hl
  have C : kC G p s m c cX6_advance 1 RX6 A := C
  have hx := C.1
  have hb := C.2.1
  have hl : lv_has ls 1 [(0, .ref h0)] := hl
  refine lv_aload_n hx hb dX6_advance_0 rfl (lv_at hl 0 rfl) ?_
  refine k_get (v := .int 0) fl_X6_50 C hP 0 rfl e_h0_4 dX6_advance_1 ?_
  refine lv_iconst (v := 5) hx hb dX6_advance_4 (by decide) ?_
  refine lv_icmp_ne (x := 0) (y := 5) (tgt := 9) hx hb dX6_advance_5 (by decide) (fun c_1 => ?_) (fun c_1 => ?_)
  rotate_left
  · exact absurd c_1 (by decide)
  refine lv_aload_n hx hb dX6_advance_9 rfl (lv_at hl 0 rfl) ?_
  refine k_get (v := .int 0) fl_X6_34 C hP 0 rfl e_h0_3 dX6_advance_10 ?_
  refine lv_aload_n hx hb dX6_advance_13 rfl (lv_at hl 0 rfl) ?_
  refine k_get (v := .int 0) fl_X6_30 C hP 0 rfl e_h0_2 dX6_advance_14 ?_
  refine lv_icmp_ge (x := 0) (y := 0) (tgt := 61) hx hb dX6_advance_17 (by decide) (fun c_2 => ?_) (fun c_2 => ?_)
  rotate_left
  · exact absurd (by decide) c_2
  refine lv_aload_n hx hb dX6_advance_61 rfl (lv_at hl 0 rfl) ?_
  refine lv_aload_n hx hb dX6_advance_62 rfl (lv_at hl 0 rfl) ?_
  refine k_get (v := .int 0) fl_X6_34 C hP 0 rfl e_h0_3 dX6_advance_63 ?_
  refine k_put fl_X6_59 ft_X6_5 C hP hD hS 0 rfl rfl rfl dX6_advance_66 (fun H locs hP hD hS => ?_)
  have hP : va_P G.1 vwCl [(h0, .inr (6, ofL 11 (updV Fh0 5 (.int 0))))] H := hP
  have hD : va_D A [(h0, .inr (6, ofL 11 (updV Fh0 5 (.int 0))))] := hD
  refine lv_aload_n hx hb dX6_advance_69 rfl (lv_at hl 0 rfl) ?_
  refine lv_iconst (v := 0) hx hb dX6_advance_70 (by decide) ?_
  refine k_put fl_X6_62 ft_X6_6 C hP hD hS 0 rfl rfl rfl dX6_advance_71 (fun H locs hP hD hS => ?_)
  have hP : va_P G.1 vwCl [(h0, .inr (6, ofL 11 (updV (updV Fh0 5 (.int 0)) 6 (.int 0))))] H := hP
  have hD : va_D A [(h0, .inr (6, ofL 11 (updV (updV Fh0 5 (.int 0)) 6 (.int 0))))] := hD
  refine lv_aload_n hx hb dX6_advance_74 rfl (lv_at hl 0 rfl) ?_
  refine k_get (v := .int 0) fl_X6_34 C hP 0 rfl e_h0_3 dX6_advance_75 ?_
  refine lv_aload_n hx hb dX6_advance_78 rfl (lv_at hl 0 rfl) ?_
  refine k_get (v := .int 0) fl_X6_30 C hP 0 rfl e_h0_2 dX6_advance_79 ?_
  refine lv_icmp_lt (x := 0) (y := 0) (tgt := 91) hx hb dX6_advance_82 (by decide) (fun c_3 => ?_) (fun c_3 => ?_)
  · exact absurd c_3 (by decide)
  refine lv_aload_n hx hb dX6_advance_85 rfl (lv_at hl 0 rfl) ?_
  refine lv_iconst (v := 0) hx hb dX6_advance_86 (by decide) ?_
  refine k_put fl_X6_50 ft_X6_4 C hP hD hS 0 rfl rfl rfl dX6_advance_87 (fun H locs hP hD hS => ?_)
  have hP : va_P G.1 vwCl [(h0, .inr (6, ofL 11 (updV (updV (updV Fh0 5 (.int 0)) 6 (.int 0)) 4 (.int 0))))] H := hP
  have hD : va_D A [(h0, .inr (6, ofL 11 (updV (updV (updV Fh0 5 (.int 0)) 6 (.int 0)) 4 (.int 0))))] := hD
  exact k_vret C hr hlk hP hD hS () (trivial) [0] rfl rfl (Nat.le_of_ble_eq_true rfl) (Nat.le_of_ble_eq_true rfl) dX6_advance_90
set_option maxHeartbeats 4000000 in
set_option maxRecDepth 100000 in
theorem c_X6_read (l : Launch) (G : kG) (sz : Nat) (h0 : Nat) (ap : Nat) (Fh0 : Nat → Value) (ab : Nat) (Fap : Nat → Value) (ar : Nat) (Far : Nat → Value) (f0 : Nat → Int32) (e_h0_0 : Fh0 0 = .ref ab) (e_ap_1 : Fap 1 = .ref ar) : kM l yX6_read cX6_read 4 none { frames := 8, cells := 0, slots := 0, locals := 150 } G [.ref h0, .int 0, .ref ap] [(h0, .inr (6, ofL 11 Fh0)), (ap, .inr (7, ofL 5 Fap)), (ar, .inr (8, ofL 5 Far)), (ab, .inl (G.2.1, 700, .inl f0))] sz (kQv G (S := Unit) (fun (_ : Unit) => True) (fun _ => [(ab, .inl (G.2.1, 700, .inl f0)), (ap, .inr (7, ofL 5 (updV (updV (updV Fap 2 (.int 0)) 3 (.int 1)) 4 (.int 99)))), (ar, .inr (8, ofL 5 (updV (updV Far 3 (.int 0)) 4 (.int 0)))), (h0, .inr (6, ofL 11 (updV (updV (updV (updV (updV (updV (updV (updV (updV (updV (updV Fh0 1 (.ref ap)) 2 (.int 0)) 3 (.int 0)) 7 (.int 0)) 8 (.int (-1))) 9 (.int 0)) 10 (.int 0)) 4 (.int 0)) 5 (.int 0)) 6 (.int 0)) 4 (.int 0))))])) := by
  refine kM.of (by decide) (Nat.le_of_ble_eq_true rfl) ?_
  intro p e s m below meth c A ls H C hr hlk hnm hP hD hS hl
  have C : kC G p s m c cX6_read 4 RX6 A := C
  have hx := C.1
  have hb := C.2.1
  have hl : lv_has ls 4 [(0, .ref h0), (1, .int 0), (2, .ref ap)] := hl
  refine lv_aload_n hx hb dX6_read_0 rfl (lv_at hl 0 rfl) ?_
  refine lv_aload_n hx hb dX6_read_1 rfl (lv_at hl 2 rfl) ?_
  refine k_put fl_X6_15 ft_X6_1 C hP hD hS 0 rfl rfl rfl dX6_read_2 (fun H locs hP hD hS => ?_)
  have hP : va_P G.1 vwCl [(h0, .inr (6, ofL 11 (updV Fh0 1 (.ref ap)))), (ap, .inr (7, ofL 5 Fap)), (ar, .inr (8, ofL 5 Far)), (ab, .inl (G.2.1, 700, .inl f0))] H := hP
  have hD : va_D A [(h0, .inr (6, ofL 11 (updV Fh0 1 (.ref ap)))), (ap, .inr (7, ofL 5 Fap)), (ar, .inr (8, ofL 5 Far)), (ab, .inl (G.2.1, 700, .inl f0))] := hD
  refine lv_aload_n hx hb dX6_read_5 rfl (lv_at hl 0 rfl) ?_
  refine k_get (v := .ref ap) fl_X6_15 C hP 0 rfl rfl dX6_read_6 ?_
  refine k_callNv (wr := [(h0, .inr (6, ofL 11 (updV Fh0 1 (.ref ap)))), (ab, .inl (G.2.1, 700, .inl f0))]) (rest := []) li_X6_19 C (c_X7_clear l G H.size ap Fap ar Far e_ap_1) (kR rfl) hP hD hS [1, 2] [0, 3] rfl rfl rfl rfl (by decide) 0 7 rfl rfl rfl hl.1 rfl (Nat.le_of_ble_eq_true rfl) dX6_read_9 (fun uu3 H locs hw1 hP hD hS => ?_)
  have hP : va_P G.1 vwCl [(h0, .inr (6, ofL 11 (updV Fh0 1 (.ref ap)))), (ab, .inl (G.2.1, 700, .inl f0)), (ap, .inr (7, ofL 5 (updV (updV (updV Fap 2 (.int 0)) 3 (.int 1)) 4 (.int 99)))), (ar, .inr (8, ofL 5 (updV (updV Far 3 (.int 0)) 4 (.int 0))))] H := hP
  have hD : va_D A [(h0, .inr (6, ofL 11 (updV Fh0 1 (.ref ap)))), (ab, .inl (G.2.1, 700, .inl f0)), (ap, .inr (7, ofL 5 (updV (updV (updV Fap 2 (.int 0)) 3 (.int 1)) 4 (.int 99)))), (ar, .inr (8, ofL 5 (updV (updV Far 3 (.int 0)) 4 (.int 0))))] := hD
  refine lv_aload_n hx hb dX6_read_12 rfl (lv_at hl 0 rfl) ?_
  refine lv_iload_n hx hb dX6_read_13 rfl (lv_at hl 1 rfl) ?_
  refine lv_aload_n hx hb dX6_read_14 rfl (lv_at hl 0 rfl) ?_
  refine k_get (v := .ref ab) fl_X6_9 C hP 0 rfl e_h0_0 dX6_read_15 ?_
  refine k_alen (v := 700) C hP 1 rfl rfl dX6_read_18 ?_
  refine k_min lm_X6_24 C hl.1 (Nat.le_of_ble_eq_true rfl) (Nat.le_of_ble_eq_true rfl) (Nat.le_of_ble_eq_true rfl) (Nat.le_of_ble_eq_true rfl) dX6_read_19 ?_
  refine k_eqi (y := 0) (by decide) ?_
  refine k_put fl_X6_30 ft_X6_2 C hP hD hS 0 rfl rfl rfl dX6_read_22 (fun H locs hP hD hS => ?_)
  have hP : va_P G.1 vwCl [(h0, .inr (6, ofL 11 (updV (updV Fh0 1 (.ref ap)) 2 (.int 0)))), (ab, .inl (G.2.1, 700, .inl f0)), (ap, .inr (7, ofL 5 (updV (updV (updV Fap 2 (.int 0)) 3 (.int 1)) 4 (.int 99)))), (ar, .inr (8, ofL 5 (updV (updV Far 3 (.int 0)) 4 (.int 0))))] H := hP
  have hD : va_D A [(h0, .inr (6, ofL 11 (updV (updV Fh0 1 (.ref ap)) 2 (.int 0)))), (ab, .inl (G.2.1, 700, .inl f0)), (ap, .inr (7, ofL 5 (updV (updV (updV Fap 2 (.int 0)) 3 (.int 1)) 4 (.int 99)))), (ar, .inr (8, ofL 5 (updV (updV Far 3 (.int 0)) 4 (.int 0))))] := hD
  refine lv_aload_n hx hb dX6_read_25 rfl (lv_at hl 0 rfl) ?_
  refine lv_iconst (v := 0) hx hb dX6_read_26 (by decide) ?_
  refine k_put fl_X6_34 ft_X6_3 C hP hD hS 0 rfl rfl rfl dX6_read_27 (fun H locs hP hD hS => ?_)
  have hP : va_P G.1 vwCl [(h0, .inr (6, ofL 11 (updV (updV (updV Fh0 1 (.ref ap)) 2 (.int 0)) 3 (.int 0)))), (ab, .inl (G.2.1, 700, .inl f0)), (ap, .inr (7, ofL 5 (updV (updV (updV Fap 2 (.int 0)) 3 (.int 1)) 4 (.int 99)))), (ar, .inr (8, ofL 5 (updV (updV Far 3 (.int 0)) 4 (.int 0))))] H := hP
  have hD : va_D A [(h0, .inr (6, ofL 11 (updV (updV (updV Fh0 1 (.ref ap)) 2 (.int 0)) 3 (.int 0)))), (ab, .inl (G.2.1, 700, .inl f0)), (ap, .inr (7, ofL 5 (updV (updV (updV Fap 2 (.int 0)) 3 (.int 1)) 4 (.int 99)))), (ar, .inr (8, ofL 5 (updV (updV Far 3 (.int 0)) 4 (.int 0))))] := hD
  refine lv_aload_n hx hb dX6_read_30 rfl (lv_at hl 0 rfl) ?_
  refine lv_iconst (v := 0) hx hb dX6_read_31 (by decide) ?_
  refine k_put fl_X6_37 ft_X6_7 C hP hD hS 0 rfl rfl rfl dX6_read_32 (fun H locs hP hD hS => ?_)
  have hP : va_P G.1 vwCl [(h0, .inr (6, ofL 11 (updV (updV (updV (updV Fh0 1 (.ref ap)) 2 (.int 0)) 3 (.int 0)) 7 (.int 0)))), (ab, .inl (G.2.1, 700, .inl f0)), (ap, .inr (7, ofL 5 (updV (updV (updV Fap 2 (.int 0)) 3 (.int 1)) 4 (.int 99)))), (ar, .inr (8, ofL 5 (updV (updV Far 3 (.int 0)) 4 (.int 0))))] H := hP
  have hD : va_D A [(h0, .inr (6, ofL 11 (updV (updV (updV (updV Fh0 1 (.ref ap)) 2 (.int 0)) 3 (.int 0)) 7 (.int 0)))), (ab, .inl (G.2.1, 700, .inl f0)), (ap, .inr (7, ofL 5 (updV (updV (updV Fap 2 (.int 0)) 3 (.int 1)) 4 (.int 99)))), (ar, .inr (8, ofL 5 (updV (updV Far 3 (.int 0)) 4 (.int 0))))] := hD
  refine lv_aload_n hx hb dX6_read_35 rfl (lv_at hl 0 rfl) ?_
  refine lv_iconst (v := -1) hx hb dX6_read_36 (by decide) ?_
  refine k_put fl_X6_40 ft_X6_8 C hP hD hS 0 rfl rfl rfl dX6_read_37 (fun H locs hP hD hS => ?_)
  have hP : va_P G.1 vwCl [(h0, .inr (6, ofL 11 (updV (updV (updV (updV (updV Fh0 1 (.ref ap)) 2 (.int 0)) 3 (.int 0)) 7 (.int 0)) 8 (.int (-1))))), (ab, .inl (G.2.1, 700, .inl f0)), (ap, .inr (7, ofL 5 (updV (updV (updV Fap 2 (.int 0)) 3 (.int 1)) 4 (.int 99)))), (ar, .inr (8, ofL 5 (updV (updV Far 3 (.int 0)) 4 (.int 0))))] H := hP
  have hD : va_D A [(h0, .inr (6, ofL 11 (updV (updV (updV (updV (updV Fh0 1 (.ref ap)) 2 (.int 0)) 3 (.int 0)) 7 (.int 0)) 8 (.int (-1))))), (ab, .inl (G.2.1, 700, .inl f0)), (ap, .inr (7, ofL 5 (updV (updV (updV Fap 2 (.int 0)) 3 (.int 1)) 4 (.int 99)))), (ar, .inr (8, ofL 5 (updV (updV Far 3 (.int 0)) 4 (.int 0))))] := hD
  refine lv_aload_n hx hb dX6_read_40 rfl (lv_at hl 0 rfl) ?_
  refine lv_iconst (v := 0) hx hb dX6_read_41 (by decide) ?_
  refine k_put fl_X6_43 ft_X6_9 C hP hD hS 0 rfl rfl rfl dX6_read_42 (fun H locs hP hD hS => ?_)
  have hP : va_P G.1 vwCl [(h0, .inr (6, ofL 11 (updV (updV (updV (updV (updV (updV Fh0 1 (.ref ap)) 2 (.int 0)) 3 (.int 0)) 7 (.int 0)) 8 (.int (-1))) 9 (.int 0)))), (ab, .inl (G.2.1, 700, .inl f0)), (ap, .inr (7, ofL 5 (updV (updV (updV Fap 2 (.int 0)) 3 (.int 1)) 4 (.int 99)))), (ar, .inr (8, ofL 5 (updV (updV Far 3 (.int 0)) 4 (.int 0))))] H := hP
  have hD : va_D A [(h0, .inr (6, ofL 11 (updV (updV (updV (updV (updV (updV Fh0 1 (.ref ap)) 2 (.int 0)) 3 (.int 0)) 7 (.int 0)) 8 (.int (-1))) 9 (.int 0)))), (ab, .inl (G.2.1, 700, .inl f0)), (ap, .inr (7, ofL 5 (updV (updV (updV Fap 2 (.int 0)) 3 (.int 1)) 4 (.int 99)))), (ar, .inr (8, ofL 5 (updV (updV Far 3 (.int 0)) 4 (.int 0))))] := hD
  refine lv_aload_n hx hb dX6_read_45 rfl (lv_at hl 0 rfl) ?_
  refine lv_iconst (v := 0) hx hb dX6_read_46 (by decide) ?_
  refine k_put fl_X6_47 ft_X6_10 C hP hD hS 0 rfl rfl rfl dX6_read_47 (fun H locs hP hD hS => ?_)
  have hP : va_P G.1 vwCl [(h0, .inr (6, ofL 11 (updV (updV (updV (updV (updV (updV (updV Fh0 1 (.ref ap)) 2 (.int 0)) 3 (.int 0)) 7 (.int 0)) 8 (.int (-1))) 9 (.int 0)) 10 (.int 0)))), (ab, .inl (G.2.1, 700, .inl f0)), (ap, .inr (7, ofL 5 (updV (updV (updV Fap 2 (.int 0)) 3 (.int 1)) 4 (.int 99)))), (ar, .inr (8, ofL 5 (updV (updV Far 3 (.int 0)) 4 (.int 0))))] H := hP
  have hD : va_D A [(h0, .inr (6, ofL 11 (updV (updV (updV (updV (updV (updV (updV Fh0 1 (.ref ap)) 2 (.int 0)) 3 (.int 0)) 7 (.int 0)) 8 (.int (-1))) 9 (.int 0)) 10 (.int 0)))), (ab, .inl (G.2.1, 700, .inl f0)), (ap, .inr (7, ofL 5 (updV (updV (updV Fap 2 (.int 0)) 3 (.int 1)) 4 (.int 99)))), (ar, .inr (8, ofL 5 (updV (updV Far 3 (.int 0)) 4 (.int 0))))] := hD
  refine lv_aload_n hx hb dX6_read_50 rfl (lv_at hl 0 rfl) ?_
  refine lv_iconst (v := 0) hx hb dX6_read_51 (by decide) ?_
  refine k_put fl_X6_50 ft_X6_4 C hP hD hS 0 rfl rfl rfl dX6_read_52 (fun H locs hP hD hS => ?_)
  have hP : va_P G.1 vwCl [(h0, .inr (6, ofL 11 (updV (updV (updV (updV (updV (updV (updV (updV Fh0 1 (.ref ap)) 2 (.int 0)) 3 (.int 0)) 7 (.int 0)) 8 (.int (-1))) 9 (.int 0)) 10 (.int 0)) 4 (.int 0)))), (ab, .inl (G.2.1, 700, .inl f0)), (ap, .inr (7, ofL 5 (updV (updV (updV Fap 2 (.int 0)) 3 (.int 1)) 4 (.int 99)))), (ar, .inr (8, ofL 5 (updV (updV Far 3 (.int 0)) 4 (.int 0))))] H := hP
  have hD : va_D A [(h0, .inr (6, ofL 11 (updV (updV (updV (updV (updV (updV (updV (updV Fh0 1 (.ref ap)) 2 (.int 0)) 3 (.int 0)) 7 (.int 0)) 8 (.int (-1))) 9 (.int 0)) 10 (.int 0)) 4 (.int 0)))), (ab, .inl (G.2.1, 700, .inl f0)), (ap, .inr (7, ofL 5 (updV (updV (updV Fap 2 (.int 0)) 3 (.int 1)) 4 (.int 99)))), (ar, .inr (8, ofL 5 (updV (updV Far 3 (.int 0)) 4 (.int 0))))] := hD
  refine lv_aload_n hx hb dX6_read_55 rfl (lv_at hl 0 rfl) ?_
  refine k_callVv (wr := [(ab, .inl (G.2.1, 700, .inl f0)), (ap, .inr (7, ofL 5 (updV (updV (updV Fap 2 (.int 0)) 3 (.int 1)) 4 (.int 99)))), (ar, .inr (8, ofL 5 (updV (updV Far 3 (.int 0)) 4 (.int 0))))]) (rest := []) li_X6_53 C (c_X6_advance l G H.size h0 (updV (updV (updV (updV (updV (updV (updV (updV Fh0 1 (.ref ap)) 2 (.int 0)) 3 (.int 0)) 7 (.int 0)) 8 (.int (-1))) 9 (.int 0)) 10 (.int 0)) 4 (.int 0)) rfl rfl rfl) (kR rfl) hP hD hS [0] [1, 2, 3] rfl rfl rfl rfl (by decide) 0 6 rfl rfl rfl hl.1 rfl (Nat.le_of_ble_eq_true rfl) dX6_read_56 (fun uu6 H locs hw4 hP hD hS => ?_)
  have hP : va_P G.1 vwCl [(ab, .inl (G.2.1, 700, .inl f0)), (ap, .inr (7, ofL 5 (updV (updV (updV Fap 2 (.int 0)) 3 (.int 1)) 4 (.int 99)))), (ar, .inr (8, ofL 5 (updV (updV Far 3 (.int 0)) 4 (.int 0)))), (h0, .inr (6, ofL 11 (updV (updV (updV (updV (updV (updV (updV (updV (updV (updV (updV Fh0 1 (.ref ap)) 2 (.int 0)) 3 (.int 0)) 7 (.int 0)) 8 (.int (-1))) 9 (.int 0)) 10 (.int 0)) 4 (.int 0)) 5 (.int 0)) 6 (.int 0)) 4 (.int 0))))] H := hP
  have hD : va_D A [(ab, .inl (G.2.1, 700, .inl f0)), (ap, .inr (7, ofL 5 (updV (updV (updV Fap 2 (.int 0)) 3 (.int 1)) 4 (.int 99)))), (ar, .inr (8, ofL 5 (updV (updV Far 3 (.int 0)) 4 (.int 0)))), (h0, .inr (6, ofL 11 (updV (updV (updV (updV (updV (updV (updV (updV (updV (updV (updV Fh0 1 (.ref ap)) 2 (.int 0)) 3 (.int 0)) 7 (.int 0)) 8 (.int (-1))) 9 (.int 0)) 10 (.int 0)) 4 (.int 0)) 5 (.int 0)) 6 (.int 0)) 4 (.int 0))))] := hD
  refine lv_iconst (v := 0) hx hb dX6_read_59 (by decide) ?_
  refine lv_istore_n (lv' := [(3, .int 0), (0, .ref h0), (1, .int 0), (2, .ref ap)]) hx hb dX6_read_60 rfl hl (by decide) rfl (fun ls hl => ?_)
  refine lv_iload_n hx hb dX6_read_61 rfl (lv_at hl 0 rfl) ?_
  refine lv_sipush (v := 700) hx hb dX6_read_62 (by decide) ?_
  refine lv_icmp_gt (x := 0) (y := 700) (tgt := 93) hx hb dX6_read_65 (by decide) (fun c_7 => ?_) (fun c_7 => ?_)
  · exact absurd c_7 (by decide)
  refine lv_aload_n hx hb dX6_read_68 rfl (lv_at hl 1 rfl) ?_
  refine k_get (v := .int 0) fl_X6_50 C hP 3 rfl rfl dX6_read_69 ?_
  refine lv_if_eq (x := 0) (tgt := 93) hx hb dX6_read_72 (by decide) (fun c_8 => ?_) (fun c_8 => ?_)
  rotate_left
  · exact absurd (by decide) c_8
  exact k_vret C hr hlk hP hD hS () (trivial) [0, 1, 2, 3] rfl rfl (Nat.le_of_ble_eq_true rfl) (Nat.le_of_ble_eq_true rfl) dX6_read_93
