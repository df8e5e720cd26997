theorem tw_485 : (Jvm.Cond.fieldLink "MarshBells" (9 : Nat) "MarshBells" "tape" "[I") ∈ lw_tbl := tk_3 (List.mem_of_getElem? (i := 5) rfl)
theorem fl_X11_9 : kFL RX11 9 11 17 0 := ⟨RX11, TX11, rfl, by decide, inWX11, tw_485⟩
theorem dX11_put_0 : decode cX11_put 0 = .ok (.bipush 24, 2) := by decide +kernel
theorem dX11_put_2 : decode cX11_put 2 = .ok (.istore_n 2, 1) := by decide +kernel
theorem dX11_put_3 : decode cX11_put 3 = .ok (.iload_n 2, 1) := by decide +kernel
theorem dX11_put_4 : decode cX11_put 4 = .ok (.ifCond .lt 47, 3) := by decide +kernel
theorem dX11_put_51 : decode cX11_put 51 = .ok (.return_, 1) := by decide +kernel
theorem dX11_put_7 : decode cX11_put 7 = .ok (.aload_n 0, 1) := by decide +kernel
theorem dX11_put_8 : decode cX11_put 8 = .ok (.getfield 87, 3) := by decide +kernel
theorem dX11_put_11 : decode cX11_put 11 = .ok (.aload_n 0, 1) := by decide +kernel
theorem dX11_put_12 : decode cX11_put 12 = .ok (.getfield 9, 3) := by decide +kernel
theorem dX11_put_15 : decode cX11_put 15 = .ok (.arraylength, 1) := by decide +kernel
theorem dX11_put_45 : decode cX11_put 45 = .ok (.iinc 2 (-8), 3) := by decide +kernel
theorem dX11_put_48 : decode cX11_put 48 = .ok (.goto (-45), 3) := by decide +kernel
theorem dX11_put_16 : decode cX11_put 16 = .ok (.if_icmp .ge 29, 3) := by decide +kernel
theorem dX11_put_19 : decode cX11_put 19 = .ok (.aload_n 0, 1) := by decide +kernel
theorem dX11_put_20 : decode cX11_put 20 = .ok (.getfield 9, 3) := by decide +kernel
theorem dX11_put_23 : decode cX11_put 23 = .ok (.aload_n 0, 1) := by decide +kernel
theorem dX11_put_24 : decode cX11_put 24 = .ok (.getfield 87, 3) := by decide +kernel
theorem dX11_put_27 : decode cX11_put 27 = .ok (.iload_n 1, 1) := by decide +kernel
theorem dX11_put_28 : decode cX11_put 28 = .ok (.iload_n 2, 1) := by decide +kernel
theorem dX11_put_29 : decode cX11_put 29 = .ok (.iushr, 1) := by decide +kernel
theorem dX11_put_30 : decode cX11_put 30 = .ok (.sipush 255, 3) := by decide +kernel
theorem dX11_put_33 : decode cX11_put 33 = .ok (.iand, 1) := by decide +kernel
theorem dX11_put_34 : decode cX11_put 34 = .ok (.iastore, 1) := by decide +kernel
theorem dX11_put_35 : decode cX11_put 35 = .ok (.aload_n 0, 1) := by decide +kernel
theorem dX11_put_36 : decode cX11_put 36 = .ok (.dup, 1) := by decide +kernel
theorem dX11_put_37 : decode cX11_put 37 = .ok (.getfield 87, 3) := by decide +kernel
theorem dX11_put_40 : decode cX11_put 40 = .ok (.iconst 1, 1) := by decide +kernel
theorem dX11_put_41 : decode cX11_put 41 = .ok (.iadd, 1) := by decide +kernel
theorem dX11_put_42 : decode cX11_put 42 = .ok (.putfield 87, 3) := by decide +kernel
theorem dX11_feed_0 : decode cX11_feed 0 = .ok (.aload_n 0, 1) := by decide +kernel
theorem dX11_feed_1 : decode cX11_feed 1 = .ok (.getfield 87, 3) := by decide +kernel
theorem dX11_feed_4 : decode cX11_feed 4 = .ok (.bipush 20, 2) := by decide +kernel
theorem dX11_feed_6 : decode cX11_feed 6 = .ok (.iadd, 1) := by decide +kernel
theorem dX11_feed_7 : decode cX11_feed 7 = .ok (.sipush 700, 3) := by decide +kernel
theorem dX11_feed_10 : decode cX11_feed 10 = .ok (.if_icmp .le 5, 3) := by decide +kernel
theorem dX11_feed_15 : decode cX11_feed 15 = .ok (.aload_n 0, 1) := by decide +kernel
theorem dX11_feed_16 : decode cX11_feed 16 = .ok (.iload_n 1, 1) := by decide +kernel
theorem tw_541 : (Jvm.Cond.methodLink "MarshBells" (101 : Nat) ({ cls := "MarshBells", name := "put", desc := "(I)V" } : Jvm.MethodName)) ∈ lw_tbl := tk_3 (List.mem_of_getElem? (i := 61) rfl)
theorem tw_544 : (Jvm.Cond.code ({ cls := "MarshBells", name := "put", desc := "(I)V" } : Jvm.MethodName) prog_1_method_42_code (3 : Nat) (Option.none : Option Jvm.ClassFile.FieldType)) ∈ lw_tbl := tk_3 (List.mem_of_getElem? (i := 64) rfl)
theorem tw_543 : (Jvm.Cond.instanceMethod ({ cls := "MarshBells", name := "put", desc := "(I)V" } : Jvm.MethodName)) ∈ lw_tbl := tk_3 (List.mem_of_getElem? (i := 63) rfl)
theorem se_X11_put : Cond.selects RX11 yX11_put yX11_put ∈ lw_tbl := List.mem_append_left _ (List.mem_of_getElem? (i := 0) rfl)
theorem li_X11_101 : kLV RX11 101 RX11 yX11_put cX11_put 3 none 1 := ⟨tw_541, tw_543, se_X11_put, tw_544, tw_1, by decide +kernel⟩
theorem dX11_feed_17 : decode cX11_feed 17 = .ok (.invokevirtual 101, 3) := by decide +kernel
theorem dX11_feed_20 : decode cX11_feed 20 = .ok (.aload_n 0, 1) := by decide +kernel
theorem dX11_feed_21 : decode cX11_feed 21 = .ok (.iload_n 2, 1) := by decide +kernel
theorem dX11_feed_22 : decode cX11_feed 22 = .ok (.invokevirtual 101, 3) := by decide +kernel
theorem dX11_feed_25 : decode cX11_feed 25 = .ok (.aload_n 0, 1) := by decide +kernel
theorem dX11_feed_26 : decode cX11_feed 26 = .ok (.iload_n 3, 1) := by decide +kernel
theorem dX11_feed_27 : decode cX11_feed 27 = .ok (.invokevirtual 101, 3) := by decide +kernel
theorem dX11_feed_30 : decode cX11_feed 30 = .ok (.aload_n 0, 1) := by decide +kernel
theorem dX11_feed_31 : decode cX11_feed 31 = .ok (.iload 4, 2) := by decide +kernel
theorem dX11_feed_33 : decode cX11_feed 33 = .ok (.invokevirtual 101, 3) := by decide +kernel
theorem dX11_feed_36 : decode cX11_feed 36 = .ok (.aload_n 0, 1) := by decide +kernel
theorem dX11_feed_37 : decode cX11_feed 37 = .ok (.iload 5, 2) := by decide +kernel
theorem dX11_feed_39 : decode cX11_feed 39 = .ok (.invokevirtual 101, 3) := by decide +kernel
theorem dX11_feed_42 : decode cX11_feed 42 = .ok (.aload_n 0, 1) := by decide +kernel
theorem dX11_feed_43 : decode cX11_feed 43 = .ok (.getfield 87, 3) := by decide +kernel
theorem dX11_feed_46 : decode cX11_feed 46 = .ok (.ireturn, 1) := by decide +kernel
theorem dX11_feed_13 : decode cX11_feed 13 = .ok (.iconst (-1), 1) := by decide +kernel
theorem dX11_feed_14 : decode cX11_feed 14 = .ok (.ireturn, 1) := by decide +kernel
theorem dX11_fault_0 : decode cX11_fault 0 = .ok (.aload_n 0, 1) := by decide +kernel
theorem dX11_fault_1 : decode cX11_fault 1 = .ok (.getfield 91, 3) := by decide +kernel
theorem dX11_fault_4 : decode cX11_fault 4 = .ok (.ireturn, 1) := by decide +kernel
theorem dX11_needWhat_0 : decode cX11_needWhat 0 = .ok (.iload_n 0, 1) := by decide +kernel
theorem th_X11_219_221 : ∀ w ∈ Cond.classLink RX11 219 "java/util/NoSuchElementException" :: Cond.initialized "java/util/NoSuchElementException" :: vx_at0 RX11 221 "java/util/NoSuchElementException" ["java/lang/RuntimeException", "java/lang/Exception"], w ∈ lw_tbl ∧ kOk w = true ∧ vx_ot w = true := by decide +kernel
theorem dX11_needWhat_9 : decode cX11_needWhat 9 = .ok (.new 219, 3) := by decide +kernel
theorem dX11_needWhat_12 : decode cX11_needWhat 12 = .ok (.dup, 1) := by decide +kernel
theorem dX11_needWhat_13 : decode cX11_needWhat 13 = .ok (.invokespecial 221, 3) := by decide +kernel
theorem dX11_needWhat_16 : decode cX11_needWhat 16 = .ok (.athrow, 1) := by decide +kernel
theorem dX11_needWhat_1 : decode cX11_needWhat 1 = .ok (.ifCond .lt 8, 3) := by decide +kernel
theorem dX11_needWhat_4 : decode cX11_needWhat 4 = .ok (.iload_n 0, 1) := by decide +kernel
theorem dX11_needWhat_5 : decode cX11_needWhat 5 = .ok (.iload_n 1, 1) := by decide +kernel
theorem dX11_needWhat_6 : decode cX11_needWhat 6 = .ok (.if_icmp .lt 11, 3) := by decide +kernel
theorem dX11_needWhat_17 : decode cX11_needWhat 17 = .ok (.return_, 1) := by decide +kernel
theorem tw_166 : (Jvm.Cond.fieldLinkNest "MarshBells" (125 : Nat) "MarshBells$Plan" "lessonCount" "I" "MarshBells") ∈ lw_tbl := tk_1 (List.mem_of_getElem? (i := 166) rfl)
theorem fl_X11_125 : kFN RX11 125 7 5 2 := ⟨RX7, TX7, rfl, by decide, inWX7, tw_166⟩
theorem tw_157 : (Jvm.Cond.fieldLinkNest "MarshBells" (128 : Nat) "MarshBells$Plan" "rules" "LMarshBells$Rules;" "MarshBells") ∈ lw_tbl := tk_1 (List.mem_of_getElem? (i := 157) rfl)
theorem fl_X11_128 : kFN RX11 128 7 5 1 := ⟨RX7, TX7, rfl, by decide, inWX7, tw_157⟩
theorem tw_264 : (Jvm.Cond.fieldLinkNest "MarshBells" (137 : Nat) "MarshBells$Held" "rule" "I" "MarshBells") ∈ lw_tbl := tk_2 (List.mem_of_getElem? (i := 24) rfl)
theorem fl_X11_137 : kFN RX11 137 3 12 11 := ⟨RX3, TX3, rfl, by decide, inWX3, tw_264⟩
theorem tw_170 : (Jvm.Cond.fieldLinkNest "MarshBells" (140 : Nat) "MarshBells$Plan" "walk" "I" "MarshBells") ∈ lw_tbl := tk_1 (List.mem_of_getElem? (i := 170) rfl)
theorem fl_X11_140 : kFN RX11 140 7 5 3 := ⟨RX7, TX7, rfl, by decide, inWX7, tw_170⟩
theorem tw_174 : (Jvm.Cond.fieldLinkNest "MarshBells" (143 : Nat) "MarshBells$Plan" "stair" "I" "MarshBells") ∈ lw_tbl := tk_1 (List.mem_of_getElem? (i := 174) rfl)
theorem fl_X11_143 : kFN RX11 143 7 5 4 := ⟨RX7, TX7, rfl, by decide, inWX7, tw_174⟩
theorem tw_259 : (Jvm.Cond.fieldLinkNest "MarshBells" (146 : Nat) "MarshBells$Held" "acts" "I" "MarshBells") ∈ lw_tbl := tk_2 (List.mem_of_getElem? (i := 19) rfl)
theorem fl_X11_146 : kFN RX11 146 3 12 9 := ⟨RX3, TX3, rfl, by decide, inWX3, tw_259⟩
theorem tw_261 : (Jvm.Cond.fieldLinkNest "MarshBells" (149 : Nat) "MarshBells$Held" "seen" "I" "MarshBells") ∈ lw_tbl := tk_2 (List.mem_of_getElem? (i := 21) rfl)
theorem fl_X11_149 : kFN RX11 149 3 12 10 := ⟨RX3, TX3, rfl, by decide, inWX3, tw_261⟩
theorem dX11_countOfDay_0 : decode cX11_countOfDay 0 = .ok (.aload_n 0, 1) := by decide +kernel
theorem dX11_countOfDay_1 : decode cX11_countOfDay 1 = .ok (.getfield 53, 3) := by decide +kernel
theorem dX11_countOfDay_4 : decode cX11_countOfDay 4 = .ok (.iconst 0, 1) := by decide +kernel
theorem tw_712 : (Jvm.Cond.methodLinkNest "MarshBells" (201 : Nat) ({ cls := "MarshBells$Day", name := "runFrom", desc := "(I)V" } : Jvm.MethodName) "MarshBells") ∈ lw_tbl := tk_3 (List.mem_of_getElem? (i := 232) rfl)
theorem li_X11_201 : kLN RX11 201 RX1 yX1_runFrom "MarshBells" cX1_runFrom 3 none 1 := ⟨tw_712, tw_694, se_X1_runFrom, tw_695, tw_7, by decide +kernel⟩
theorem dX11_countOfDay_5 : decode cX11_countOfDay 5 = .ok (.invokevirtual 201, 3) := by decide +kernel
theorem dX11_countOfDay_8 : decode cX11_countOfDay 8 = .ok (.iload_n 1, 1) := by decide +kernel
theorem dX11_countOfDay_9 : decode cX11_countOfDay 9 = .ok (.lookupswitch 59 #[(7, 35), (12, 43), (13, 51)], 35) := by decide +kernel
theorem dX11_countOfDay_44 : decode cX11_countOfDay 44 = .ok (.aload_n 0, 1) := by decide +kernel
theorem dX11_countOfDay_45 : decode cX11_countOfDay 45 = .ok (.getfield 53, 3) := by decide +kernel
theorem tw_1019 : (Jvm.Cond.methodLinkNest "MarshBells" (372 : Nat) ({ cls := "MarshBells$Day", name := "lost", desc := "()I" } : Jvm.MethodName) "MarshBells") ∈ lw_tbl := tk_5 (List.mem_of_getElem? (i := 59) rfl)
theorem li_X11_372 : kLN RX11 372 RX1 yX1_lost "MarshBells" cX1_lost 3 (some .int) 0 := ⟨tw_1019, tw_654, se_X1_lost, tw_655, tw_7, by decide +kernel⟩
theorem dX11_countOfDay_48 : decode cX11_countOfDay 48 = .ok (.invokevirtual 372, 3) := by decide +kernel
theorem dX11_countOfDay_51 : decode cX11_countOfDay 51 = .ok (.ireturn, 1) := by decide +kernel
theorem dX11_countOfDay_52 : decode cX11_countOfDay 52 = .ok (.aload_n 0, 1) := by decide +kernel
theorem dX11_countOfDay_53 : decode cX11_countOfDay 53 = .ok (.getfield 53, 3) := by decide +kernel
theorem tw_1020 : (Jvm.Cond.methodLinkNest "MarshBells" (375 : Nat) ({ cls := "MarshBells$Day", name := "lateOnes", desc := "()I" } : Jvm.MethodName) "MarshBells") ∈ lw_tbl := tk_5 (List.mem_of_getElem? (i := 60) rfl)
theorem tw_1023 : (Jvm.Cond.code ({ cls := "MarshBells$Day", name := "lateOnes", desc := "()I" } : Jvm.MethodName) prog_3_method_13_code (3 : Nat) (Option.some Jvm.ClassFile.FieldType.int)) ∈ lw_tbl := tk_5 (List.mem_of_getElem? (i := 63) rfl)
theorem tw_1022 : (Jvm.Cond.instanceMethod ({ cls := "MarshBells$Day", name := "lateOnes", desc := "()I" } : Jvm.MethodName)) ∈ lw_tbl := tk_5 (List.mem_of_getElem? (i := 62) rfl)
theorem se_X1_lateOnes : Cond.selects RX1 yX1_lateOnes yX1_lateOnes ∈ lw_tbl := List.mem_append_left _ (List.mem_of_getElem? (i := 64) rfl)
theorem li_X11_375 : kLN RX11 375 RX1 yX1_lateOnes "MarshBells" cX1_lateOnes 3 (some .int) 0 := ⟨tw_1020, tw_1022, se_X1_lateOnes, tw_1023, tw_7, by decide +kernel⟩
theorem dX11_countOfDay_56 : decode cX11_countOfDay 56 = .ok (.invokevirtual 375, 3) := by decide +kernel
theorem dX11_countOfDay_59 : decode cX11_countOfDay 59 = .ok (.ireturn, 1) := by decide +kernel
theorem dX11_countOfDay_60 : decode cX11_countOfDay 60 = .ok (.aload_n 0, 1) := by decide +kernel
theorem dX11_countOfDay_61 : decode cX11_countOfDay 61 = .ok (.getfield 53, 3) := by decide +kernel
theorem tw_1024 : (Jvm.Cond.methodLinkNest "MarshBells" (378 : Nat) ({ cls := "MarshBells$Day", name := "latest", desc := "()I" } : Jvm.MethodName) "MarshBells") ∈ lw_tbl := tk_5 (List.mem_of_getElem? (i := 64) rfl)
theorem tw_1027 : (Jvm.Cond.code ({ cls := "MarshBells$Day", name := "latest", desc := "()I" } : Jvm.MethodName) prog_3_method_14_code (3 : Nat) (Option.some Jvm.ClassFile.FieldType.int)) ∈ lw_tbl := tk_5 (List.mem_of_getElem? (i := 67) rfl)
theorem tw_1026 : (Jvm.Cond.instanceMethod ({ cls := "MarshBells$Day", name := "latest", desc := "()I" } : Jvm.MethodName)) ∈ lw_tbl := tk_5 (List.mem_of_getElem? (i := 66) rfl)
theorem se_X1_latest : Cond.selects RX1 yX1_latest yX1_latest ∈ lw_tbl := List.mem_append_left _ (List.mem_of_getElem? (i := 65) rfl)
theorem li_X11_378 : kLN RX11 378 RX1 yX1_latest "MarshBells" cX1_latest 3 (some .int) 0 := ⟨tw_1024, tw_1026, se_X1_latest, tw_1027, tw_7, by decide +kernel⟩
theorem dX11_countOfDay_64 : decode cX11_countOfDay 64 = .ok (.invokevirtual 378, 3) := by decide +kernel
theorem dX11_countOfDay_67 : decode cX11_countOfDay 67 = .ok (.ireturn, 1) := by decide +kernel
theorem dX11_countOfDay_68 : decode cX11_countOfDay 68 = .ok (.aload_n 0, 1) := by decide +kernel
theorem dX11_countOfDay_69 : decode cX11_countOfDay 69 = .ok (.getfield 53, 3) := by decide +kernel
theorem tw_1028 : (Jvm.Cond.methodLinkNest "MarshBells" (381 : Nat) ({ cls := "MarshBells$Day", name := "begunLater", desc := "()I" } : Jvm.MethodName) "MarshBells") ∈ lw_tbl := tk_5 (List.mem_of_getElem? (i := 68) rfl)
theorem tw_1031 : (Jvm.Cond.code ({ cls := "MarshBells$Day", name := "begunLater", desc := "()I" } : Jvm.MethodName) prog_3_method_15_code (3 : Nat) (Option.some Jvm.ClassFile.FieldType.int)) ∈ lw_tbl := tk_5 (List.mem_of_getElem? (i := 71) rfl)
theorem tw_1030 : (Jvm.Cond.instanceMethod ({ cls := "MarshBells$Day", name := "begunLater", desc := "()I" } : Jvm.MethodName)) ∈ lw_tbl := tk_5 (List.mem_of_getElem? (i := 70) rfl)
theorem se_X1_begunLater : Cond.selects RX1 yX1_begunLater yX1_begunLater ∈ lw_tbl := List.mem_append_left _ (List.mem_of_getElem? (i := 66) rfl)
theorem li_X11_381 : kLN RX11 381 RX1 yX1_begunLater "MarshBells" cX1_begunLater 3 (some .int) 0 := ⟨tw_1028, tw_1030, se_X1_begunLater, tw_1031, tw_7, by decide +kernel⟩
theorem dX11_countOfDay_72 : decode cX11_countOfDay 72 = .ok (.invokevirtual 381, 3) := by decide +kernel
theorem dX11_countOfDay_75 : decode cX11_countOfDay 75 = .ok (.ireturn, 1) := by decide +kernel
theorem tw_52 : (Jvm.Cond.fieldLinkNest "MarshBells" (132 : Nat) "MarshBells$Rules" "size" "I" "MarshBells") ∈ lw_tbl := tk_1 (List.mem_of_getElem? (i := 52) rfl)
theorem fl_X11_132 : kFN RX11 132 8 5 3 := ⟨RX8, TX8, rfl, by decide, inWX8, tw_52⟩
theorem dX11_count_0 : decode cX11_count 0 = .ok (.iload_n 1, 1) := by decide +kernel
theorem dX11_count_1 : decode cX11_count 1 = .ok (.bipush 15, 2) := by decide +kernel
theorem tw_997 : (Jvm.Cond.methodLink "MarshBells" (121 : Nat) ({ cls := "MarshBells", name := "needWhat", desc := "(II)V" } : Jvm.MethodName)) ∈ lw_tbl := tk_5 (List.mem_of_getElem? (i := 37) rfl)
theorem tw_999 : (Jvm.Cond.code ({ cls := "MarshBells", name := "needWhat", desc := "(II)V" } : Jvm.MethodName) prog_1_method_44_code (2 : Nat) (Option.none : Option Jvm.ClassFile.FieldType)) ∈ lw_tbl := tk_5 (List.mem_of_getElem? (i := 39) rfl)
theorem tw_998 : (Jvm.Cond.static ({ cls := "MarshBells", name := "needWhat", desc := "(II)V" } : Jvm.MethodName)) ∈ lw_tbl := tk_5 (List.mem_of_getElem? (i := 38) rfl)
theorem li_X11_121 : kLS RX11 121 yX11_needWhat cX11_needWhat 2 none 2 := ⟨tw_997, tw_998, tw_999, tw_1, by decide +kernel⟩
theorem dX11_count_3 : decode cX11_count 3 = .ok (.invokestatic 121, 3) := by decide +kernel
theorem dX11_count_6 : decode cX11_count 6 = .ok (.iload_n 1, 1) := by decide +kernel
theorem dX11_count_7 : decode cX11_count 7 = .ok (.tableswitch 146 0 11 #[61, 69, 80, 88, 96, 104, 112, 146, 120, 125, 132, 139], 61) := by decide +kernel
theorem dX11_count_68 : decode cX11_count 68 = .ok (.aload_n 0, 1) := by decide +kernel
theorem dX11_count_69 : decode cX11_count 69 = .ok (.getfield 22, 3) := by decide +kernel
theorem dX11_count_72 : decode cX11_count 72 = .ok (.getfield 125, 3) := by decide +kernel
theorem dX11_count_75 : decode cX11_count 75 = .ok (.ireturn, 1) := by decide +kernel
theorem dX11_count_76 : decode cX11_count 76 = .ok (.aload_n 0, 1) := by decide +kernel
theorem dX11_count_77 : decode cX11_count 77 = .ok (.getfield 22, 3) := by decide +kernel
theorem dX11_count_80 : decode cX11_count 80 = .ok (.getfield 128, 3) := by decide +kernel
theorem dX11_count_83 : decode cX11_count 83 = .ok (.getfield 132, 3) := by decide +kernel
theorem dX11_count_86 : decode cX11_count 86 = .ok (.ireturn, 1) := by decide +kernel
theorem dX11_count_87 : decode cX11_count 87 = .ok (.aload_n 0, 1) := by decide +kernel
theorem dX11_count_88 : decode cX11_count 88 = .ok (.getfield 41, 3) := by decide +kernel
theorem dX11_count_91 : decode cX11_count 91 = .ok (.getfield 137, 3) := by decide +kernel
theorem dX11_count_94 : decode cX11_count 94 = .ok (.ireturn, 1) := by decide +kernel
theorem dX11_count_95 : decode cX11_count 95 = .ok (.aload_n 0, 1) := by decide +kernel
theorem dX11_count_96 : decode cX11_count 96 = .ok (.getfield 22, 3) := by decide +kernel
theorem dX11_count_99 : decode cX11_count 99 = .ok (.getfield 140, 3) := by decide +kernel
theorem dX11_count_102 : decode cX11_count 102 = .ok (.ireturn, 1) := by decide +kernel
theorem dX11_count_103 : decode cX11_count 103 = .ok (.aload_n 0, 1) := by decide +kernel
theorem dX11_count_104 : decode cX11_count 104 = .ok (.getfield 22, 3) := by decide +kernel
theorem dX11_count_107 : decode cX11_count 107 = .ok (.getfield 143, 3) := by decide +kernel
theorem dX11_count_110 : decode cX11_count 110 = .ok (.ireturn, 1) := by decide +kernel
theorem dX11_count_111 : decode cX11_count 111 = .ok (.aload_n 0, 1) := by decide +kernel
theorem dX11_count_112 : decode cX11_count 112 = .ok (.getfield 41, 3) := by decide +kernel
theorem dX11_count_115 : decode cX11_count 115 = .ok (.getfield 146, 3) := by decide +kernel
theorem dX11_count_118 : decode cX11_count 118 = .ok (.ireturn, 1) := by decide +kernel
theorem dX11_count_119 : decode cX11_count 119 = .ok (.aload_n 0, 1) := by decide +kernel
theorem dX11_count_120 : decode cX11_count 120 = .ok (.getfield 41, 3) := by decide +kernel
theorem dX11_count_123 : decode cX11_count 123 = .ok (.getfield 149, 3) := by decide +kernel
theorem dX11_count_126 : decode cX11_count 126 = .ok (.ireturn, 1) := by decide +kernel
theorem dX11_count_153 : decode cX11_count 153 = .ok (.aload_n 0, 1) := by decide +kernel
theorem dX11_count_154 : decode cX11_count 154 = .ok (.iload_n 1, 1) := by decide +kernel
theorem tw_1015 : (Jvm.Cond.methodLink "MarshBells" (152 : Nat) ({ cls := "MarshBells", name := "countOfDay", desc := "(I)I" } : Jvm.MethodName)) ∈ lw_tbl := tk_5 (List.mem_of_getElem? (i := 55) rfl)
theorem tw_1018 : (Jvm.Cond.code ({ cls := "MarshBells", name := "countOfDay", desc := "(I)I" } : Jvm.MethodName) prog_1_method_41_code (2 : Nat) (Option.some Jvm.ClassFile.FieldType.int)) ∈ lw_tbl := tk_5 (List.mem_of_getElem? (i := 58) rfl)
theorem tw_1017 : (Jvm.Cond.instanceMethod ({ cls := "MarshBells", name := "countOfDay", desc := "(I)I" } : Jvm.MethodName)) ∈ lw_tbl := tk_5 (List.mem_of_getElem? (i := 57) rfl)
theorem se_X11_countOfDay : Cond.selects RX11 yX11_countOfDay yX11_countOfDay ∈ lw_tbl := List.mem_append_left _ (List.mem_of_getElem? (i := 63) rfl)
theorem li_X11_152 : kLV RX11 152 RX11 yX11_countOfDay cX11_countOfDay 2 (some .int) 1 := ⟨tw_1015, tw_1017, se_X11_countOfDay, tw_1018, tw_1, by decide +kernel⟩
theorem dX11_count_155 : decode cX11_count 155 = .ok (.invokevirtual 152, 3) := by decide +kernel
theorem dX11_count_158 : decode cX11_count 158 = .ok (.ireturn, 1) := by decide +kernel
theorem dX11_count_127 : decode cX11_count 127 = .ok (.aload_n 0, 1) := by decide +kernel
theorem dX11_count_128 : decode cX11_count 128 = .ok (.getfield 87, 3) := by decide +kernel
theorem dX11_count_131 : decode cX11_count 131 = .ok (.ireturn, 1) := by decide +kernel
theorem dX11_count_132 : decode cX11_count 132 = .ok (.aload_n 0, 1) := by decide +kernel
theorem dX11_count_133 : decode cX11_count 133 = .ok (.getfield 13, 3) := by decide +kernel
theorem dX11_count_136 : decode cX11_count 136 = .ok (.iconst 0, 1) := by decide +kernel
theorem dX11_count_137 : decode cX11_count 137 = .ok (.iaload, 1) := by decide +kernel
theorem dX11_count_138 : decode cX11_count 138 = .ok (.ireturn, 1) := by decide +kernel
theorem dX11_count_139 : decode cX11_count 139 = .ok (.aload_n 0, 1) := by decide +kernel
theorem dX11_count_140 : decode cX11_count 140 = .ok (.getfield 13, 3) := by decide +kernel
theorem dX11_count_143 : decode cX11_count 143 = .ok (.iconst 1, 1) := by decide +kernel
theorem dX11_count_144 : decode cX11_count 144 = .ok (.iaload, 1) := by decide +kernel
theorem dX11_count_145 : decode cX11_count 145 = .ok (.ireturn, 1) := by decide +kernel
theorem dX11_count_146 : decode cX11_count 146 = .ok (.aload_n 0, 1) := by decide +kernel
theorem dX11_count_147 : decode cX11_count 147 = .ok (.getfield 13, 3) := by decide +kernel
theorem dX11_count_150 : decode cX11_count 150 = .ok (.iconst 2, 1) := by decide +kernel
theorem dX11_count_151 : decode cX11_count 151 = .ok (.iaload, 1) := by decide +kernel
theorem dX11_count_152 : decode cX11_count 152 = .ok (.ireturn, 1) := by decide +kernel
theorem dX11_needLesson_0 : decode cX11_needLesson 0 = .ok (.iload_n 1, 1) := by decide +kernel
theorem dX11_needLesson_15 : decode cX11_needLesson 15 = .ok (.new 219, 3) := by decide +kernel
theorem dX11_needLesson_18 : decode cX11_needLesson 18 = .ok (.dup, 1) := by decide +kernel
theorem dX11_needLesson_19 : decode cX11_needLesson 19 = .ok (.invokespecial 221, 3) := by decide +kernel
theorem dX11_needLesson_22 : decode cX11_needLesson 22 = .ok (.athrow, 1) := by decide +kernel
theorem dX11_needLesson_1 : decode cX11_needLesson 1 = .ok (.ifCond .lt 14, 3) := by decide +kernel
theorem dX11_needLesson_4 : decode cX11_needLesson 4 = .ok (.iload_n 1, 1) := by decide +kernel
theorem dX11_needLesson_5 : decode cX11_needLesson 5 = .ok (.aload_n 0, 1) := by decide +kernel
theorem dX11_needLesson_6 : decode cX11_needLesson 6 = .ok (.getfield 22, 3) := by decide +kernel
theorem dX11_needLesson_9 : decode cX11_needLesson 9 = .ok (.getfield 125, 3) := by decide +kernel
theorem dX11_needLesson_12 : decode cX11_needLesson 12 = .ok (.if_icmp .lt 11, 3) := by decide +kernel
theorem dX11_needLesson_23 : decode cX11_needLesson 23 = .ok (.return_, 1) := by decide +kernel
theorem tw_153 : (Jvm.Cond.fieldLinkNest "MarshBells" (159 : Nat) "MarshBells$Plan" "lessons" "[LMarshBells$Lesson;" "MarshBells") ∈ lw_tbl := tk_1 (List.mem_of_getElem? (i := 153) rfl)
theorem fl_X11_159 : kFN RX11 159 7 5 0 := ⟨RX7, TX7, rfl, by decide, inWX7, tw_153⟩
theorem tw_85 : (Jvm.Cond.fieldLinkNest "MarshBells" (163 : Nat) "MarshBells$Lesson" "from" "I" "MarshBells") ∈ lw_tbl := tk_1 (List.mem_of_getElem? (i := 85) rfl)
theorem fl_X11_163 : kFN RX11 163 5 14 3 := ⟨RX5, TX5, rfl, by decide, inWX5, tw_85⟩
theorem tw_89 : (Jvm.Cond.fieldLinkNest "MarshBells" (168 : Nat) "MarshBells$Lesson" "to" "I" "MarshBells") ∈ lw_tbl := tk_1 (List.mem_of_getElem? (i := 89) rfl)
theorem fl_X11_168 : kFN RX11 168 5 14 4 := ⟨RX5, TX5, rfl, by decide, inWX5, tw_89⟩
theorem tw_93 : (Jvm.Cond.fieldLinkNest "MarshBells" (171 : Nat) "MarshBells$Lesson" "least" "I" "MarshBells") ∈ lw_tbl := tk_1 (List.mem_of_getElem? (i := 93) rfl)
theorem fl_X11_171 : kFN RX11 171 5 14 5 := ⟨RX5, TX5, rfl, by decide, inWX5, tw_93⟩
theorem tw_101 : (Jvm.Cond.fieldLinkNest "MarshBells" (180 : Nat) "MarshBells$Lesson" "people" "I" "MarshBells") ∈ lw_tbl := tk_1 (List.mem_of_getElem? (i := 101) rfl)
theorem fl_X11_180 : kFN RX11 180 5 14 8 := ⟨RX5, TX5, rfl, by decide, inWX5, tw_101⟩
theorem tw_105 : (Jvm.Cond.fieldLinkNest "MarshBells" (183 : Nat) "MarshBells$Lesson" "sort" "I" "MarshBells") ∈ lw_tbl := tk_1 (List.mem_of_getElem? (i := 105) rfl)
theorem fl_X11_183 : kFN RX11 183 5 14 9 := ⟨RX5, TX5, rfl, by decide, inWX5, tw_105⟩
theorem tw_109 : (Jvm.Cond.fieldLinkNest "MarshBells" (186 : Nat) "MarshBells$Lesson" "some" "I" "MarshBells") ∈ lw_tbl := tk_1 (List.mem_of_getElem? (i := 109) rfl)
theorem fl_X11_186 : kFN RX11 186 5 14 10 := ⟨RX5, TX5, rfl, by decide, inWX5, tw_109⟩
theorem tw_82 : (Jvm.Cond.fieldLinkNest "MarshBells" (189 : Nat) "MarshBells$Lesson" "waitedBits" "I" "MarshBells") ∈ lw_tbl := tk_1 (List.mem_of_getElem? (i := 82) rfl)
theorem fl_X11_189 : kFN RX11 189 5 14 2 := ⟨RX5, TX5, rfl, by decide, inWX5, tw_82⟩
theorem tw_114 : (Jvm.Cond.fieldLinkNest "MarshBells" (195 : Nat) "MarshBells$Lesson" "maybe" "I" "MarshBells") ∈ lw_tbl := tk_1 (List.mem_of_getElem? (i := 114) rfl)
theorem fl_X11_195 : kFN RX11 195 5 14 12 := ⟨RX5, TX5, rfl, by decide, inWX5, tw_114⟩
theorem tw_238 : (Jvm.Cond.fieldLinkNest "MarshBells" (174 : Nat) "MarshBells$Held" "overs" "[I" "MarshBells") ∈ lw_tbl := tk_1 (List.mem_of_getElem? (i := 238) rfl)
theorem fl_X11_174 : kFN RX11 174 3 12 0 := ⟨RX3, TX3, rfl, by decide, inWX3, tw_238⟩
theorem tw_247 : (Jvm.Cond.fieldLinkNest "MarshBells" (177 : Nat) "MarshBells$Held" "rooms" "[I" "MarshBells") ∈ lw_tbl := tk_2 (List.mem_of_getElem? (i := 7) rfl)
theorem fl_X11_177 : kFN RX11 177 3 12 2 := ⟨RX3, TX3, rfl, by decide, inWX3, tw_247⟩
theorem tw_250 : (Jvm.Cond.fieldLinkNest "MarshBells" (192 : Nat) "MarshBells$Held" "limits" "[I" "MarshBells") ∈ lw_tbl := tk_2 (List.mem_of_getElem? (i := 10) rfl)
theorem fl_X11_192 : kFN RX11 192 3 12 3 := ⟨RX3, TX3, rfl, by decide, inWX3, tw_250⟩
theorem tw_243 : (Jvm.Cond.fieldLinkNest "MarshBells" (198 : Nat) "MarshBells$Held" "gaps" "[I" "MarshBells") ∈ lw_tbl := tk_2 (List.mem_of_getElem? (i := 3) rfl)
theorem fl_X11_198 : kFN RX11 198 3 12 1 := ⟨RX3, TX3, rfl, by decide, inWX3, tw_243⟩
theorem dX11_lesson_0 : decode cX11_lesson 0 = .ok (.aload_n 0, 1) := by decide +kernel
theorem dX11_lesson_1 : decode cX11_lesson 1 = .ok (.iload_n 1, 1) := by decide +kernel
theorem tw_1039 : (Jvm.Cond.methodLink "MarshBells" (156 : Nat) ({ cls := "MarshBells", name := "needLesson", desc := "(I)V" } : Jvm.MethodName)) ∈ lw_tbl := tk_5 (List.mem_of_getElem? (i := 79) rfl)
theorem tw_1042 : (Jvm.Cond.code ({ cls := "MarshBells", name := "needLesson", desc := "(I)V" } : Jvm.MethodName) prog_1_method_43_code (2 : Nat) (Option.none : Option Jvm.ClassFile.FieldType)) ∈ lw_tbl := tk_5 (List.mem_of_getElem? (i := 82) rfl)
theorem tw_1041 : (Jvm.Cond.instanceMethod ({ cls := "MarshBells", name := "needLesson", desc := "(I)V" } : Jvm.MethodName)) ∈ lw_tbl := tk_5 (List.mem_of_getElem? (i := 81) rfl)
theorem se_X11_needLesson : Cond.selects RX11 yX11_needLesson yX11_needLesson ∈ lw_tbl := List.mem_append_left _ (List.mem_of_getElem? (i := 67) rfl)
theorem li_X11_156 : kLV RX11 156 RX11 yX11_needLesson cX11_needLesson 2 none 1 := ⟨tw_1039, tw_1041, se_X11_needLesson, tw_1042, tw_1, by decide +kernel⟩
theorem dX11_lesson_2 : decode cX11_lesson 2 = .ok (.invokevirtual 156, 3) := by decide +kernel
theorem dX11_lesson_5 : decode cX11_lesson 5 = .ok (.iload_n 2, 1) := by decide +kernel
theorem dX11_lesson_6 : decode cX11_lesson 6 = .ok (.bipush 12, 2) := by decide +kernel
theorem dX11_lesson_8 : decode cX11_lesson 8 = .ok (.invokestatic 121, 3) := by decide +kernel
theorem dX11_lesson_11 : decode cX11_lesson 11 = .ok (.aload_n 0, 1) := by decide +kernel
theorem dX11_lesson_12 : decode cX11_lesson 12 = .ok (.getfield 22, 3) := by decide +kernel
theorem dX11_lesson_15 : decode cX11_lesson 15 = .ok (.getfield 159, 3) := by decide +kernel
theorem dX11_lesson_18 : decode cX11_lesson 18 = .ok (.iload_n 1, 1) := by decide +kernel
theorem dX11_lesson_19 : decode cX11_lesson 19 = .ok (.aaload, 1) := by decide +kernel
theorem dX11_lesson_20 : decode cX11_lesson 20 = .ok (.astore_n 3, 1) := by decide +kernel
theorem dX11_lesson_21 : decode cX11_lesson 21 = .ok (.iload_n 2, 1) := by decide +kernel
theorem dX11_lesson_22 : decode cX11_lesson 22 = .ok (.tableswitch 128 0 10 #[58, 63, 68, 73, 83, 93, 98, 103, 108, 113, 123], 58) := by decide +kernel
theorem dX11_lesson_80 : decode cX11_lesson 80 = .ok (.aload_n 3, 1) := by decide +kernel
theorem dX11_lesson_81 : decode cX11_lesson 81 = .ok (.getfield 163, 3) := by decide +kernel
theorem dX11_lesson_84 : decode cX11_lesson 84 = .ok (.ireturn, 1) := by decide +kernel
theorem dX11_lesson_85 : decode cX11_lesson 85 = .ok (.aload_n 3, 1) := by decide +kernel
theorem dX11_lesson_86 : decode cX11_lesson 86 = .ok (.getfield 168, 3) := by decide +kernel
theorem dX11_lesson_89 : decode cX11_lesson 89 = .ok (.ireturn, 1) := by decide +kernel
theorem dX11_lesson_90 : decode cX11_lesson 90 = .ok (.aload_n 3, 1) := by decide +kernel
theorem dX11_lesson_91 : decode cX11_lesson 91 = .ok (.getfield 171, 3) := by decide +kernel
theorem dX11_lesson_94 : decode cX11_lesson 94 = .ok (.ireturn, 1) := by decide +kernel
theorem dX11_lesson_95 : decode cX11_lesson 95 = .ok (.aload_n 0, 1) := by decide +kernel
theorem dX11_lesson_96 : decode cX11_lesson 96 = .ok (.getfield 41, 3) := by decide +kernel
theorem dX11_lesson_99 : decode cX11_lesson 99 = .ok (.getfield 174, 3) := by decide +kernel
theorem dX11_lesson_102 : decode cX11_lesson 102 = .ok (.iload_n 1, 1) := by decide +kernel
theorem dX11_lesson_103 : decode cX11_lesson 103 = .ok (.iaload, 1) := by decide +kernel
theorem dX11_lesson_104 : decode cX11_lesson 104 = .ok (.ireturn, 1) := by decide +kernel
theorem dX11_lesson_105 : decode cX11_lesson 105 = .ok (.aload_n 0, 1) := by decide +kernel
theorem dX11_lesson_106 : decode cX11_lesson 106 = .ok (.getfield 41, 3) := by decide +kernel
theorem dX11_lesson_109 : decode cX11_lesson 109 = .ok (.getfield 177, 3) := by decide +kernel
theorem dX11_lesson_112 : decode cX11_lesson 112 = .ok (.iload_n 1, 1) := by decide +kernel
theorem dX11_lesson_113 : decode cX11_lesson 113 = .ok (.iaload, 1) := by decide +kernel
theorem dX11_lesson_114 : decode cX11_lesson 114 = .ok (.ireturn, 1) := by decide +kernel
theorem dX11_lesson_115 : decode cX11_lesson 115 = .ok (.aload_n 3, 1) := by decide +kernel
theorem dX11_lesson_116 : decode cX11_lesson 116 = .ok (.getfield 180, 3) := by decide +kernel
theorem dX11_lesson_119 : decode cX11_lesson 119 = .ok (.ireturn, 1) := by decide +kernel
theorem dX11_lesson_120 : decode cX11_lesson 120 = .ok (.aload_n 3, 1) := by decide +kernel
theorem dX11_lesson_121 : decode cX11_lesson 121 = .ok (.getfield 183, 3) := by decide +kernel
theorem dX11_lesson_124 : decode cX11_lesson 124 = .ok (.ireturn, 1) := by decide +kernel
theorem dX11_lesson_125 : decode cX11_lesson 125 = .ok (.aload_n 3, 1) := by decide +kernel
theorem dX11_lesson_126 : decode cX11_lesson 126 = .ok (.getfield 186, 3) := by decide +kernel
theorem dX11_lesson_129 : decode cX11_lesson 129 = .ok (.ireturn, 1) := by decide +kernel
theorem dX11_lesson_130 : decode cX11_lesson 130 = .ok (.aload_n 3, 1) := by decide +kernel
theorem dX11_lesson_131 : decode cX11_lesson 131 = .ok (.getfield 189, 3) := by decide +kernel
theorem dX11_lesson_134 : decode cX11_lesson 134 = .ok (.ireturn, 1) := by decide +kernel
theorem dX11_lesson_135 : decode cX11_lesson 135 = .ok (.aload_n 0, 1) := by decide +kernel
theorem dX11_lesson_136 : decode cX11_lesson 136 = .ok (.getfield 41, 3) := by decide +kernel
theorem dX11_lesson_139 : decode cX11_lesson 139 = .ok (.getfield 192, 3) := by decide +kernel
theorem dX11_lesson_142 : decode cX11_lesson 142 = .ok (.iload_n 1, 1) := by decide +kernel
theorem dX11_lesson_143 : decode cX11_lesson 143 = .ok (.iaload, 1) := by decide +kernel
theorem dX11_lesson_144 : decode cX11_lesson 144 = .ok (.ireturn, 1) := by decide +kernel
theorem dX11_lesson_145 : decode cX11_lesson 145 = .ok (.aload_n 3, 1) := by decide +kernel
theorem dX11_lesson_146 : decode cX11_lesson 146 = .ok (.getfield 195, 3) := by decide +kernel
theorem dX11_lesson_149 : decode cX11_lesson 149 = .ok (.ireturn, 1) := by decide +kernel
theorem dX11_lesson_150 : decode cX11_lesson 150 = .ok (.aload_n 0, 1) := by decide +kernel
theorem dX11_lesson_151 : decode cX11_lesson 151 = .ok (.getfield 41, 3) := by decide +kernel
theorem dX11_lesson_154 : decode cX11_lesson 154 = .ok (.getfield 198, 3) := by decide +kernel
theorem dX11_lesson_157 : decode cX11_lesson 157 = .ok (.iload_n 1, 1) := by decide +kernel
theorem dX11_lesson_158 : decode cX11_lesson 158 = .ok (.iaload, 1) := by decide +kernel
theorem dX11_lesson_159 : decode cX11_lesson 159 = .ok (.ireturn, 1) := by decide +kernel
theorem tw_302 : (Jvm.Cond.fieldLinkNest "MarshBells" (204 : Nat) "MarshBells$Day" "begins" "[I" "MarshBells") ∈ lw_tbl := tk_2 (List.mem_of_getElem? (i := 62) rfl)
theorem fl_X11_204 : kFN RX11 204 1 10 1 := ⟨RX1, TX1, rfl, by decide, inWX1, tw_302⟩
theorem tw_307 : (Jvm.Cond.fieldLinkNest "MarshBells" (207 : Nat) "MarshBells$Day" "ends" "[I" "MarshBells") ∈ lw_tbl := tk_2 (List.mem_of_getElem? (i := 67) rfl)
theorem fl_X11_207 : kFN RX11 207 1 10 2 := ⟨RX1, TX1, rfl, by decide, inWX1, tw_307⟩
theorem tw_309 : (Jvm.Cond.fieldLinkNest "MarshBells" (213 : Nat) "MarshBells$Day" "runsOver" "[I" "MarshBells") ∈ lw_tbl := tk_2 (List.mem_of_getElem? (i := 69) rfl)
theorem fl_X11_213 : kFN RX11 213 1 10 3 := ⟨RX1, TX1, rfl, by decide, inWX1, tw_309⟩
theorem tw_311 : (Jvm.Cond.fieldLinkNest "MarshBells" (216 : Nat) "MarshBells$Day" "byWhom" "[I" "MarshBells") ∈ lw_tbl := tk_2 (List.mem_of_getElem? (i := 71) rfl)
theorem fl_X11_216 : kFN RX11 216 1 10 4 := ⟨RX1, TX1, rfl, by decide, inWX1, tw_311⟩
theorem dX11_day_0 : decode cX11_day 0 = .ok (.aload_n 0, 1) := by decide +kernel
theorem dX11_day_1 : decode cX11_day 1 = .ok (.iload_n 1, 1) := by decide +kernel
theorem dX11_day_2 : decode cX11_day 2 = .ok (.invokevirtual 156, 3) := by decide +kernel
theorem dX11_day_5 : decode cX11_day 5 = .ok (.iload_n 2, 1) := by decide +kernel
theorem dX11_day_6 : decode cX11_day 6 = .ok (.iconst 5, 1) := by decide +kernel
theorem dX11_day_7 : decode cX11_day 7 = .ok (.invokestatic 121, 3) := by decide +kernel
theorem dX11_day_10 : decode cX11_day 10 = .ok (.aload_n 0, 1) := by decide +kernel
theorem dX11_day_11 : decode cX11_day 11 = .ok (.getfield 53, 3) := by decide +kernel
theorem dX11_day_14 : decode cX11_day 14 = .ok (.iconst 0, 1) := by decide +kernel
theorem dX11_day_15 : decode cX11_day 15 = .ok (.invokevirtual 201, 3) := by decide +kernel
theorem dX11_day_18 : decode cX11_day 18 = .ok (.iload_n 2, 1) := by decide +kernel
theorem dX11_day_19 : decode cX11_day 19 = .ok (.tableswitch 68 0 3 #[29, 39, 49, 58], 29) := by decide +kernel
theorem dX11_day_48 : decode cX11_day 48 = .ok (.aload_n 0, 1) := by decide +kernel
theorem dX11_day_49 : decode cX11_day 49 = .ok (.getfield 53, 3) := by decide +kernel
theorem dX11_day_52 : decode cX11_day 52 = .ok (.getfield 204, 3) := by decide +kernel
theorem dX11_day_55 : decode cX11_day 55 = .ok (.iload_n 1, 1) := by decide +kernel
theorem dX11_day_56 : decode cX11_day 56 = .ok (.iaload, 1) := by decide +kernel
theorem dX11_day_57 : decode cX11_day 57 = .ok (.ireturn, 1) := by decide +kernel
theorem dX11_day_58 : decode cX11_day 58 = .ok (.aload_n 0, 1) := by decide +kernel
theorem dX11_day_59 : decode cX11_day 59 = .ok (.getfield 53, 3) := by decide +kernel
theorem dX11_day_62 : decode cX11_day 62 = .ok (.getfield 207, 3) := by decide +kernel
theorem dX11_day_65 : decode cX11_day 65 = .ok (.iload_n 1, 1) := by decide +kernel
theorem dX11_day_66 : decode cX11_day 66 = .ok (.iaload, 1) := by decide +kernel
theorem dX11_day_67 : decode cX11_day 67 = .ok (.ireturn, 1) := by decide +kernel
theorem dX11_day_68 : decode cX11_day 68 = .ok (.aload_n 0, 1) := by decide +kernel
theorem dX11_day_69 : decode cX11_day 69 = .ok (.getfield 53, 3) := by decide +kernel
theorem dX11_day_72 : decode cX11_day 72 = .ok (.iload_n 1, 1) := by decide +kernel
theorem tw_1050 : (Jvm.Cond.methodLinkNest "MarshBells" (210 : Nat) ({ cls := "MarshBells$Day", name := "late", desc := "(I)I" } : Jvm.MethodName) "MarshBells") ∈ lw_tbl := tk_5 (List.mem_of_getElem? (i := 90) rfl)
theorem li_X11_210 : kLN RX11 210 RX1 yX1_late "MarshBells" cX1_late 2 (some .int) 1 := ⟨tw_1050, tw_658, se_X1_late, tw_659, tw_7, by decide +kernel⟩
theorem dX11_day_73 : decode cX11_day 73 = .ok (.invokevirtual 210, 3) := by decide +kernel
theorem dX11_day_76 : decode cX11_day 76 = .ok (.ireturn, 1) := by decide +kernel
theorem dX11_day_77 : decode cX11_day 77 = .ok (.aload_n 0, 1) := by decide +kernel
theorem dX11_day_78 : decode cX11_day 78 = .ok (.getfield 53, 3) := by decide +kernel
theorem dX11_day_81 : decode cX11_day 81 = .ok (.getfield 213, 3) := by decide +kernel
theorem dX11_day_84 : decode cX11_day 84 = .ok (.iload_n 1, 1) := by decide +kernel
theorem dX11_day_85 : decode cX11_day 85 = .ok (.iaload, 1) := by decide +kernel
theorem dX11_day_86 : decode cX11_day 86 = .ok (.ireturn, 1) := by decide +kernel
theorem dX11_day_87 : decode cX11_day 87 = .ok (.aload_n 0, 1) := by decide +kernel
theorem dX11_day_88 : decode cX11_day 88 = .ok (.getfield 53, 3) := by decide +kernel
theorem dX11_day_91 : decode cX11_day 91 = .ok (.getfield 216, 3) := by decide +kernel
theorem dX11_day_94 : decode cX11_day 94 = .ok (.iload_n 1, 1) := by decide +kernel
theorem dX11_day_95 : decode cX11_day 95 = .ok (.iaload, 1) := by decide +kernel
theorem dX11_day_96 : decode cX11_day 96 = .ok (.ireturn, 1) := by decide +kernel
theorem dX11_chain_0 : decode cX11_chain 0 = .ok (.aload_n 0, 1) := by decide +kernel
theorem dX11_chain_1 : decode cX11_chain 1 = .ok (.iload_n 1, 1) := by decide +kernel
theorem dX11_chain_2 : decode cX11_chain 2 = .ok (.invokevirtual 156, 3) := by decide +kernel
theorem dX11_chain_5 : decode cX11_chain 5 = .ok (.iload_n 2, 1) := by decide +kernel
theorem dX11_chain_6 : decode cX11_chain 6 = .ok (.ifCond .ge 11, 3) := by decide +kernel
theorem dX11_chain_17 : decode cX11_chain 17 = .ok (.aload_n 0, 1) := by decide +kernel
theorem dX11_chain_18 : decode cX11_chain 18 = .ok (.getfield 53, 3) := by decide +kernel
theorem dX11_chain_21 : decode cX11_chain 21 = .ok (.iconst 0, 1) := by decide +kernel
theorem dX11_chain_22 : decode cX11_chain 22 = .ok (.invokevirtual 201, 3) := by decide +kernel
theorem dX11_chain_25 : decode cX11_chain 25 = .ok (.iload_n 1, 1) := by decide +kernel
theorem dX11_chain_26 : decode cX11_chain 26 = .ok (.istore_n 3, 1) := by decide +kernel
theorem dX11_chain_27 : decode cX11_chain 27 = .ok (.iconst 0, 1) := by decide +kernel
theorem dX11_chain_28 : decode cX11_chain 28 = .ok (.istore 4, 2) := by decide +kernel
theorem dX11_chain_30 : decode cX11_chain 30 = .ok (.iload 4, 2) := by decide +kernel
theorem dX11_chain_32 : decode cX11_chain 32 = .ok (.iload_n 2, 1) := by decide +kernel
theorem dX11_chain_64 : decode cX11_chain 64 = .ok (.iload_n 3, 1) := by decide +kernel
theorem dX11_chain_65 : decode cX11_chain 65 = .ok (.ireturn, 1) := by decide +kernel
theorem dX11_chain_33 : decode cX11_chain 33 = .ok (.if_icmp .ge 31, 3) := by decide +kernel
theorem dX11_chain_36 : decode cX11_chain 36 = .ok (.iload_n 3, 1) := by decide +kernel
theorem dX11_chain_37 : decode cX11_chain 37 = .ok (.iconst (-1), 1) := by decide +kernel
theorem dX11_chain_38 : decode cX11_chain 38 = .ok (.if_icmp .eq 26, 3) := by decide +kernel
theorem dX11_chain_41 : decode cX11_chain 41 = .ok (.iload 4, 2) := by decide +kernel
theorem dX11_chain_43 : decode cX11_chain 43 = .ok (.bipush 12, 2) := by decide +kernel
theorem dX11_chain_45 : decode cX11_chain 45 = .ok (.if_icmp .ge 19, 3) := by decide +kernel
theorem dX11_chain_48 : decode cX11_chain 48 = .ok (.aload_n 0, 1) := by decide +kernel
theorem dX11_chain_49 : decode cX11_chain 49 = .ok (.getfield 53, 3) := by decide +kernel
theorem dX11_chain_52 : decode cX11_chain 52 = .ok (.getfield 216, 3) := by decide +kernel
theorem dX11_chain_55 : decode cX11_chain 55 = .ok (.iload_n 3, 1) := by decide +kernel
theorem dX11_chain_56 : decode cX11_chain 56 = .ok (.iaload, 1) := by decide +kernel
theorem dX11_chain_57 : decode cX11_chain 57 = .ok (.istore_n 3, 1) := by decide +kernel
theorem dX11_chain_58 : decode cX11_chain 58 = .ok (.iinc 4 1, 3) := by decide +kernel
theorem dX11_chain_61 : decode cX11_chain 61 = .ok (.goto (-31), 3) := by decide +kernel
theorem dX11_chain_9 : decode cX11_chain 9 = .ok (.new 219, 3) := by decide +kernel
theorem dX11_chain_12 : decode cX11_chain 12 = .ok (.dup, 1) := by decide +kernel
theorem dX11_chain_13 : decode cX11_chain 13 = .ok (.invokespecial 221, 3) := by decide +kernel
theorem dX11_chain_16 : decode cX11_chain 16 = .ok (.athrow, 1) := by decide +kernel
theorem dX11_become_0 : decode cX11_become 0 = .ok (.aload_n 0, 1) := by decide +kernel
theorem dX11_become_1 : decode cX11_become 1 = .ok (.iload_n 1, 1) := by decide +kernel
theorem dX11_become_2 : decode cX11_become 2 = .ok (.invokevirtual 156, 3) := by decide +kernel
theorem dX11_become_5 : decode cX11_become 5 = .ok (.iload_n 2, 1) := by decide +kernel
theorem dX11_become_6 : decode cX11_become 6 = .ok (.iconst 4, 1) := by decide +kernel
theorem dX11_become_7 : decode cX11_become 7 = .ok (.invokestatic 121, 3) := by decide +kernel
theorem dX11_become_10 : decode cX11_become 10 = .ok (.iload_n 3, 1) := by decide +kernel
theorem dX11_become_22 : decode cX11_become 22 = .ok (.aload_n 0, 1) := by decide +kernel
theorem dX11_become_23 : decode cX11_become 23 = .ok (.getfield 13, 3) := by decide +kernel
theorem dX11_become_26 : decode cX11_become 26 = .ok (.iconst 1, 1) := by decide +kernel
theorem dX11_become_27 : decode cX11_become 27 = .ok (.dup2, 1) := by decide +kernel
theorem dX11_become_28 : decode cX11_become 28 = .ok (.iaload, 1) := by decide +kernel
theorem dX11_become_29 : decode cX11_become 29 = .ok (.iconst 1, 1) := by decide +kernel
theorem dX11_become_30 : decode cX11_become 30 = .ok (.iadd, 1) := by decide +kernel
theorem dX11_become_31 : decode cX11_become 31 = .ok (.iastore, 1) := by decide +kernel
theorem dX11_become_32 : decode cX11_become 32 = .ok (.iconst (-1), 1) := by decide +kernel
theorem dX11_become_33 : decode cX11_become 33 = .ok (.ireturn, 1) := by decide +kernel
theorem dX11_become_11 : decode cX11_become 11 = .ok (.ifCond .lt 11, 3) := by decide +kernel
theorem dX11_become_14 : decode cX11_become 14 = .ok (.iload_n 3, 1) := by decide +kernel
theorem dX11_become_15 : decode cX11_become 15 = .ok (.iload_n 2, 1) := by decide +kernel
theorem tw_1065 : (Jvm.Cond.methodLink "MarshBells" (222 : Nat) ({ cls := "MarshBells", name := "mostOf", desc := "(I)I" } : Jvm.MethodName)) ∈ lw_tbl := tk_5 (List.mem_of_getElem? (i := 105) rfl)
theorem li_X11_222 : kLS RX11 222 yX11_mostOf cX11_mostOf 1 (some .int) 1 := ⟨tw_1065, tw_1066, tw_1067, tw_1, by decide +kernel⟩
theorem dX11_become_16 : decode cX11_become 16 = .ok (.invokestatic 222, 3) := by decide +kernel
theorem dX11_become_19 : decode cX11_become 19 = .ok (.if_icmp .le 15, 3) := by decide +kernel
theorem dX11_become_34 : decode cX11_become 34 = .ok (.aload_n 0, 1) := by decide +kernel
theorem dX11_become_35 : decode cX11_become 35 = .ok (.getfield 41, 3) := by decide +kernel
theorem dX11_become_38 : decode cX11_become 38 = .ok (.iload_n 2, 1) := by decide +kernel
theorem dX11_become_39 : decode cX11_become 39 = .ok (.iload_n 1, 1) := by decide +kernel
theorem tw_1068 : (Jvm.Cond.methodLinkNest "MarshBells" (225 : Nat) ({ cls := "MarshBells$Held", name := "value", desc := "(II)I" } : Jvm.MethodName) "MarshBells") ∈ lw_tbl := tk_5 (List.mem_of_getElem? (i := 108) rfl)
theorem li_X11_225 : kLN RX11 225 RX3 yX3_value "MarshBells" cX3_value 3 (some .int) 2 := ⟨tw_1068, tw_1070, se_X3_value, tw_1071, tw_6, by decide +kernel⟩
theorem dX11_become_40 : decode cX11_become 40 = .ok (.invokevirtual 225, 3) := by decide +kernel
theorem dX11_become_43 : decode cX11_become 43 = .ok (.istore 4, 2) := by decide +kernel
theorem dX11_become_45 : decode cX11_become 45 = .ok (.aload_n 0, 1) := by decide +kernel
theorem dX11_become_46 : decode cX11_become 46 = .ok (.getfield 41, 3) := by decide +kernel
theorem dX11_become_49 : decode cX11_become 49 = .ok (.iload_n 2, 1) := by decide +kernel
theorem dX11_become_50 : decode cX11_become 50 = .ok (.iload_n 1, 1) := by decide +kernel
theorem dX11_become_51 : decode cX11_become 51 = .ok (.iload 4, 2) := by decide +kernel
theorem tw_557 : (Jvm.Cond.methodLinkNest "MarshBells" (229 : Nat) ({ cls := "MarshBells$Held", name := "keepAct", desc := "(III)V" } : Jvm.MethodName) "MarshBells") ∈ lw_tbl := tk_3 (List.mem_of_getElem? (i := 77) rfl)
theorem tw_560 : (Jvm.Cond.code ({ cls := "MarshBells$Held", name := "keepAct", desc := "(III)V" } : Jvm.MethodName) prog_5_method_7_code (4 : Nat) (Option.none : Option Jvm.ClassFile.FieldType)) ∈ lw_tbl := tk_3 (List.mem_of_getElem? (i := 80) rfl)
theorem tw_559 : (Jvm.Cond.instanceMethod ({ cls := "MarshBells$Held", name := "keepAct", desc := "(III)V" } : Jvm.MethodName)) ∈ lw_tbl := tk_3 (List.mem_of_getElem? (i := 79) rfl)
theorem se_X3_keepAct : Cond.selects RX3 yX3_keepAct yX3_keepAct ∈ lw_tbl := List.mem_append_left _ (List.mem_of_getElem? (i := 2) rfl)
theorem li_X11_229 : kLN RX11 229 RX3 yX3_keepAct "MarshBells" cX3_keepAct 4 none 3 := ⟨tw_557, tw_559, se_X3_keepAct, tw_560, tw_6, by decide +kernel⟩
theorem dX11_become_53 : decode cX11_become 53 = .ok (.invokevirtual 229, 3) := by decide +kernel
theorem dX11_become_56 : decode cX11_become 56 = .ok (.aload_n 0, 1) := by decide +kernel
theorem dX11_become_57 : decode cX11_become 57 = .ok (.getfield 41, 3) := by decide +kernel
theorem dX11_become_60 : decode cX11_become 60 = .ok (.iload_n 2, 1) := by decide +kernel
theorem dX11_become_61 : decode cX11_become 61 = .ok (.iload_n 1, 1) := by decide +kernel
theorem dX11_become_62 : decode cX11_become 62 = .ok (.iload_n 3, 1) := by decide +kernel
theorem tw_1072 : (Jvm.Cond.methodLinkNest "MarshBells" (233 : Nat) ({ cls := "MarshBells$Held", name := "put", desc := "(III)V" } : Jvm.MethodName) "MarshBells") ∈ lw_tbl := tk_5 (List.mem_of_getElem? (i := 112) rfl)
theorem li_X11_233 : kLN RX11 233 RX3 yX3_put "MarshBells" cX3_put 4 none 3 := ⟨tw_1072, tw_578, se_X3_put, tw_579, tw_6, by decide +kernel⟩
theorem dX11_become_63 : decode cX11_become 63 = .ok (.invokevirtual 233, 3) := by decide +kernel
theorem dX11_become_66 : decode cX11_become 66 = .ok (.iload 4, 2) := by decide +kernel
theorem dX11_become_68 : decode cX11_become 68 = .ok (.ireturn, 1) := by decide +kernel
theorem dX11_isRuleOrNone_0 : decode cX11_isRuleOrNone 0 = .ok (.iload_n 1, 1) := by decide +kernel
theorem dX11_isRuleOrNone_1 : decode cX11_isRuleOrNone 1 = .ok (.iconst (-1), 1) := by decide +kernel
theorem dX11_isRuleOrNone_24 : decode cX11_isRuleOrNone 24 = .ok (.ireturn, 1) := by decide +kernel
theorem dX11_isRuleOrNone_23 : decode cX11_isRuleOrNone 23 = .ok (.iconst 0, 1) := by decide +kernel
theorem dX11_isRuleOrNone_2 : decode cX11_isRuleOrNone 2 = .ok (.if_icmp .lt 21, 3) := by decide +kernel
theorem dX11_isRuleOrNone_5 : decode cX11_isRuleOrNone 5 = .ok (.iload_n 1, 1) := by decide +kernel
theorem dX11_isRuleOrNone_6 : decode cX11_isRuleOrNone 6 = .ok (.aload_n 0, 1) := by decide +kernel
theorem dX11_isRuleOrNone_7 : decode cX11_isRuleOrNone 7 = .ok (.getfield 22, 3) := by decide +kernel
theorem dX11_isRuleOrNone_10 : decode cX11_isRuleOrNone 10 = .ok (.getfield 128, 3) := by decide +kernel
theorem dX11_isRuleOrNone_13 : decode cX11_isRuleOrNone 13 = .ok (.getfield 132, 3) := by decide +kernel
theorem dX11_isRuleOrNone_16 : decode cX11_isRuleOrNone 16 = .ok (.if_icmp .ge 7, 3) := by decide +kernel
theorem dX11_isRuleOrNone_19 : decode cX11_isRuleOrNone 19 = .ok (.iconst 1, 1) := by decide +kernel
theorem dX11_isRuleOrNone_20 : decode cX11_isRuleOrNone 20 = .ok (.goto 4, 3) := by decide +kernel
theorem dX11_obey_0 : decode cX11_obey 0 = .ok (.aload_n 0, 1) := by decide +kernel
theorem dX11_obey_1 : decode cX11_obey 1 = .ok (.iload_n 1, 1) := by decide +kernel
theorem tw_553 : (Jvm.Cond.methodLink "MarshBells" (235 : Nat) ({ cls := "MarshBells", name := "isRuleOrNone", desc := "(I)Z" } : Jvm.MethodName)) ∈ lw_tbl := tk_3 (List.mem_of_getElem? (i := 73) rfl)
theorem tw_556 : (Jvm.Cond.code ({ cls := "MarshBells", name := "isRuleOrNone", desc := "(I)Z" } : Jvm.MethodName) prog_1_method_46_code (2 : Nat) (Option.some Jvm.ClassFile.FieldType.boolean)) ∈ lw_tbl := tk_3 (List.mem_of_getElem? (i := 76) rfl)
theorem tw_555 : (Jvm.Cond.instanceMethod ({ cls := "MarshBells", name := "isRuleOrNone", desc := "(I)Z" } : Jvm.MethodName)) ∈ lw_tbl := tk_3 (List.mem_of_getElem? (i := 75) rfl)
theorem se_X11_isRuleOrNone : Cond.selects RX11 yX11_isRuleOrNone yX11_isRuleOrNone ∈ lw_tbl := List.mem_append_left _ (List.mem_of_getElem? (i := 1) rfl)
theorem li_X11_235 : kLV RX11 235 RX11 yX11_isRuleOrNone cX11_isRuleOrNone 2 (some .boolean) 1 := ⟨tw_553, tw_555, se_X11_isRuleOrNone, tw_556, tw_1, by decide +kernel⟩
theorem dX11_obey_2 : decode cX11_obey 2 = .ok (.invokevirtual 235, 3) := by decide +kernel
theorem dX11_obey_5 : decode cX11_obey 5 = .ok (.ifCond .ne 15, 3) := by decide +kernel
theorem dX11_obey_20 : decode cX11_obey 20 = .ok (.aload_n 0, 1) := by decide +kernel
theorem dX11_obey_21 : decode cX11_obey 21 = .ok (.getfield 41, 3) := by decide +kernel
theorem dX11_obey_24 : decode cX11_obey 24 = .ok (.iconst 4, 1) := by decide +kernel
theorem dX11_obey_25 : decode cX11_obey 25 = .ok (.iconst 0, 1) := by decide +kernel
theorem dX11_obey_26 : decode cX11_obey 26 = .ok (.aload_n 0, 1) := by decide +kernel
theorem dX11_obey_27 : decode cX11_obey 27 = .ok (.getfield 41, 3) := by decide +kernel
theorem dX11_obey_30 : decode cX11_obey 30 = .ok (.getfield 137, 3) := by decide +kernel
theorem dX11_obey_33 : decode cX11_obey 33 = .ok (.invokevirtual 229, 3) := by decide +kernel
theorem dX11_obey_36 : decode cX11_obey 36 = .ok (.aload_n 0, 1) := by decide +kernel
theorem dX11_obey_37 : decode cX11_obey 37 = .ok (.getfield 41, 3) := by decide +kernel
theorem dX11_obey_40 : decode cX11_obey 40 = .ok (.iload_n 1, 1) := by decide +kernel
theorem dX11_obey_41 : decode cX11_obey 41 = .ok (.putfield 137, 3) := by decide +kernel
theorem dX11_obey_44 : decode cX11_obey 44 = .ok (.iconst 1, 1) := by decide +kernel
theorem dX11_obey_45 : decode cX11_obey 45 = .ok (.ireturn, 1) := by decide +kernel
theorem dX11_obey_8 : decode cX11_obey 8 = .ok (.aload_n 0, 1) := by decide +kernel
theorem dX11_obey_9 : decode cX11_obey 9 = .ok (.getfield 13, 3) := by decide +kernel
theorem dX11_obey_12 : decode cX11_obey 12 = .ok (.iconst 1, 1) := by decide +kernel
theorem dX11_obey_13 : decode cX11_obey 13 = .ok (.dup2, 1) := by decide +kernel
theorem dX11_obey_14 : decode cX11_obey 14 = .ok (.iaload, 1) := by decide +kernel
theorem dX11_obey_15 : decode cX11_obey 15 = .ok (.iconst 1, 1) := by decide +kernel
theorem dX11_obey_16 : decode cX11_obey 16 = .ok (.iadd, 1) := by decide +kernel
theorem dX11_obey_17 : decode cX11_obey 17 = .ok (.iastore, 1) := by decide +kernel
theorem dX11_obey_18 : decode cX11_obey 18 = .ok (.iconst 0, 1) := by decide +kernel
theorem dX11_obey_19 : decode cX11_obey 19 = .ok (.ireturn, 1) := by decide +kernel
theorem dX11_undo_0 : decode cX11_undo 0 = .ok (.aload_n 0, 1) := by decide +kernel
theorem dX11_undo_1 : decode cX11_undo 1 = .ok (.getfield 41, 3) := by decide +kernel
theorem tw_572 : (Jvm.Cond.methodLinkNest "MarshBells" (239 : Nat) ({ cls := "MarshBells$Held", name := "takeBackAct", desc := "()I" } : Jvm.MethodName) "MarshBells") ∈ lw_tbl := tk_3 (List.mem_of_getElem? (i := 92) rfl)
theorem tw_575 : (Jvm.Cond.code ({ cls := "MarshBells$Held", name := "takeBackAct", desc := "()I" } : Jvm.MethodName) prog_5_method_9_code (1 : Nat) (Option.some Jvm.ClassFile.FieldType.int)) ∈ lw_tbl := tk_3 (List.mem_of_getElem? (i := 95) rfl)
theorem tw_574 : (Jvm.Cond.instanceMethod ({ cls := "MarshBells$Held", name := "takeBackAct", desc := "()I" } : Jvm.MethodName)) ∈ lw_tbl := tk_3 (List.mem_of_getElem? (i := 94) rfl)
theorem se_X3_takeBackAct : Cond.selects RX3 yX3_takeBackAct yX3_takeBackAct ∈ lw_tbl := List.mem_append_left _ (List.mem_of_getElem? (i := 4) rfl)
theorem li_X11_239 : kLN RX11 239 RX3 yX3_takeBackAct "MarshBells" cX3_takeBackAct 1 (some .int) 0 := ⟨tw_572, tw_574, se_X3_takeBackAct, tw_575, tw_6, by decide +kernel⟩
theorem dX11_undo_4 : decode cX11_undo 4 = .ok (.invokevirtual 239, 3) := by decide +kernel
theorem dX11_undo_7 : decode cX11_undo 7 = .ok (.ireturn, 1) := by decide +kernel
theorem dX11_needWithin_0 : decode cX11_needWithin 0 = .ok (.iload_n 0, 1) := by decide +kernel
theorem dX11_needWithin_1 : decode cX11_needWithin 1 = .ok (.iload_n 1, 1) := by decide +kernel
theorem dX11_needWithin_10 : decode cX11_needWithin 10 = .ok (.new 105, 3) := by decide +kernel
theorem dX11_needWithin_13 : decode cX11_needWithin 13 = .ok (.dup, 1) := by decide +kernel
theorem dX11_needWithin_14 : decode cX11_needWithin 14 = .ok (.invokespecial 107, 3) := by decide +kernel
theorem dX11_needWithin_17 : decode cX11_needWithin 17 = .ok (.athrow, 1) := by decide +kernel
theorem dX11_needWithin_2 : decode cX11_needWithin 2 = .ok (.if_icmp .lt 8, 3) := by decide +kernel
theorem dX11_needWithin_5 : decode cX11_needWithin 5 = .ok (.iload_n 0, 1) := by decide +kernel
theorem dX11_needWithin_6 : decode cX11_needWithin 6 = .ok (.iload_n 2, 1) := by decide +kernel
theorem dX11_needWithin_7 : decode cX11_needWithin 7 = .ok (.if_icmp .le 11, 3) := by decide +kernel
theorem dX11_needWithin_18 : decode cX11_needWithin 18 = .ok (.return_, 1) := by decide +kernel
theorem tw_494 : (Jvm.Cond.fieldLink "MarshBells" (62 : Nat) "MarshBells" "trials" "LMarshBells$Trials;") ∈ lw_tbl := tk_3 (List.mem_of_getElem? (i := 14) rfl)
theorem fl_X11_62 : kFL RX11 62 11 17 9 := ⟨RX11, TX11, rfl, by decide, inWX11, tw_494⟩
theorem dX11_far_0 : decode cX11_far 0 = .ok (.aload_n 0, 1) := by decide +kernel
theorem dX11_far_1 : decode cX11_far 1 = .ok (.iload_n 1, 1) := by decide +kernel
theorem dX11_far_2 : decode cX11_far 2 = .ok (.invokevirtual 156, 3) := by decide +kernel
theorem dX11_far_5 : decode cX11_far 5 = .ok (.iload_n 3, 1) := by decide +kernel
theorem dX11_far_6 : decode cX11_far 6 = .ok (.iconst 2, 1) := by decide +kernel
theorem dX11_far_7 : decode cX11_far 7 = .ok (.invokestatic 121, 3) := by decide +kernel
theorem dX11_far_10 : decode cX11_far 10 = .ok (.iload_n 2, 1) := by decide +kernel
theorem dX11_far_11 : decode cX11_far 11 = .ok (.iconst 0, 1) := by decide +kernel
theorem dX11_far_12 : decode cX11_far 12 = .ok (.bipush 120, 2) := by decide +kernel
theorem tw_1080 : (Jvm.Cond.methodLink "MarshBells" (243 : Nat) ({ cls := "MarshBells", name := "needWithin", desc := "(III)V" } : Jvm.MethodName)) ∈ lw_tbl := tk_5 (List.mem_of_getElem? (i := 120) rfl)
theorem tw_1082 : (Jvm.Cond.code ({ cls := "MarshBells", name := "needWithin", desc := "(III)V" } : Jvm.MethodName) prog_1_method_45_code (3 : Nat) (Option.none : Option Jvm.ClassFile.FieldType)) ∈ lw_tbl := tk_5 (List.mem_of_getElem? (i := 122) rfl)
theorem tw_1081 : (Jvm.Cond.static ({ cls := "MarshBells", name := "needWithin", desc := "(III)V" } : Jvm.MethodName)) ∈ lw_tbl := tk_5 (List.mem_of_getElem? (i := 121) rfl)
theorem li_X11_243 : kLS RX11 243 yX11_needWithin cX11_needWithin 3 none 3 := ⟨tw_1080, tw_1081, tw_1082, tw_1, by decide +kernel⟩
theorem dX11_far_14 : decode cX11_far 14 = .ok (.invokestatic 243, 3) := by decide +kernel
theorem dX11_far_17 : decode cX11_far 17 = .ok (.aload_n 0, 1) := by decide +kernel
theorem dX11_far_18 : decode cX11_far 18 = .ok (.getfield 62, 3) := by decide +kernel
theorem tw_1083 : (Jvm.Cond.methodLinkNest "MarshBells" (246 : Nat) ({ cls := "MarshBells$Trials", name := "keepEnds", desc := "()V" } : Jvm.MethodName) "MarshBells") ∈ lw_tbl := tk_5 (List.mem_of_getElem? (i := 123) rfl)
theorem li_X11_246 : kLN RX11 246 RX10 yX10_keepEnds "MarshBells" cX10_keepEnds 1 none 0 := ⟨tw_1083, tw_1085, se_X10_keepEnds, tw_1086, tw_8, by decide +kernel⟩
theorem dX11_far_21 : decode cX11_far 21 = .ok (.invokevirtual 246, 3) := by decide +kernel
theorem dX11_far_24 : decode cX11_far 24 = .ok (.aload_n 0, 1) := by decide +kernel
theorem dX11_far_25 : decode cX11_far 25 = .ok (.getfield 62, 3) := by decide +kernel
theorem dX11_far_28 : decode cX11_far 28 = .ok (.iload_n 1, 1) := by decide +kernel
theorem dX11_far_29 : decode cX11_far 29 = .ok (.iload_n 2, 1) := by decide +kernel
theorem tw_1089 : (Jvm.Cond.methodLinkNest "MarshBells" (249 : Nat) ({ cls := "MarshBells$Trials", name := "runMore", desc := "(II)V" } : Jvm.MethodName) "MarshBells") ∈ lw_tbl := tk_5 (List.mem_of_getElem? (i := 129) rfl)
theorem li_X11_249 : kLN RX11 249 RX10 yX10_runMore "MarshBells" cX10_runMore 4 none 2 := ⟨tw_1089, tw_1091, se_X10_runMore, tw_1092, tw_8, by decide +kernel⟩
theorem dX11_far_30 : decode cX11_far 30 = .ok (.invokevirtual 249, 3) := by decide +kernel
theorem dX11_far_33 : decode cX11_far 33 = .ok (.iload_n 3, 1) := by decide +kernel
theorem dX11_far_54 : decode cX11_far 54 = .ok (.ireturn, 1) := by decide +kernel
theorem dX11_far_34 : decode cX11_far 34 = .ok (.ifCond .ne 13, 3) := by decide +kernel
theorem dX11_far_47 : decode cX11_far 47 = .ok (.aload_n 0, 1) := by decide +kernel
theorem dX11_far_48 : decode cX11_far 48 = .ok (.getfield 62, 3) := by decide +kernel
theorem tw_1097 : (Jvm.Cond.methodLinkNest "MarshBells" (255 : Nat) ({ cls := "MarshBells$Trials", name := "laterMinutes", desc := "()I" } : Jvm.MethodName) "MarshBells") ∈ lw_tbl := tk_5 (List.mem_of_getElem? (i := 137) rfl)
theorem tw_1100 : (Jvm.Cond.code ({ cls := "MarshBells$Trials", name := "laterMinutes", desc := "()I" } : Jvm.MethodName) prog_12_method_6_code (3 : Nat) (Option.some Jvm.ClassFile.FieldType.int)) ∈ lw_tbl := tk_5 (List.mem_of_getElem? (i := 140) rfl)
theorem tw_1099 : (Jvm.Cond.instanceMethod ({ cls := "MarshBells$Trials", name := "laterMinutes", desc := "()I" } : Jvm.MethodName)) ∈ lw_tbl := tk_5 (List.mem_of_getElem? (i := 139) rfl)
theorem se_X10_laterMinutes : Cond.selects RX10 yX10_laterMinutes yX10_laterMinutes ∈ lw_tbl := List.mem_append_left _ (List.mem_of_getElem? (i := 72) rfl)
theorem li_X11_255 : kLN RX11 255 RX10 yX10_laterMinutes "MarshBells" cX10_laterMinutes 3 (some .int) 0 := ⟨tw_1097, tw_1099, se_X10_laterMinutes, tw_1100, tw_8, by decide +kernel⟩
theorem dX11_far_51 : decode cX11_far 51 = .ok (.invokevirtual 255, 3) := by decide +kernel
theorem dX11_far_37 : decode cX11_far 37 = .ok (.aload_n 0, 1) := by decide +kernel
theorem dX11_far_38 : decode cX11_far 38 = .ok (.getfield 62, 3) := by decide +kernel
theorem tw_1093 : (Jvm.Cond.methodLinkNest "MarshBells" (252 : Nat) ({ cls := "MarshBells$Trials", name := "laterBits", desc := "()I" } : Jvm.MethodName) "MarshBells") ∈ lw_tbl := tk_5 (List.mem_of_getElem? (i := 133) rfl)
theorem li_X11_252 : kLN RX11 252 RX10 yX10_laterBits "MarshBells" cX10_laterBits 3 (some .int) 0 := ⟨tw_1093, tw_1095, se_X10_laterBits, tw_1096, tw_8, by decide +kernel⟩
theorem dX11_far_41 : decode cX11_far 41 = .ok (.invokevirtual 252, 3) := by decide +kernel
theorem dX11_far_44 : decode cX11_far 44 = .ok (.goto 10, 3) := by decide +kernel
theorem dX11_reaches_0 : decode cX11_reaches 0 = .ok (.aload_n 0, 1) := by decide +kernel
theorem dX11_reaches_1 : decode cX11_reaches 1 = .ok (.iload_n 1, 1) := by decide +kernel
theorem dX11_reaches_2 : decode cX11_reaches 2 = .ok (.invokevirtual 156, 3) := by decide +kernel
theorem dX11_reaches_5 : decode cX11_reaches 5 = .ok (.aload_n 0, 1) := by decide +kernel
theorem dX11_reaches_6 : decode cX11_reaches 6 = .ok (.iload_n 2, 1) := by decide +kernel
theorem dX11_reaches_7 : decode cX11_reaches 7 = .ok (.invokevirtual 156, 3) := by decide +kernel
theorem dX11_reaches_10 : decode cX11_reaches 10 = .ok (.iload_n 1, 1) := by decide +kernel
theorem dX11_reaches_11 : decode cX11_reaches 11 = .ok (.iload_n 2, 1) := by decide +kernel
theorem dX11_reaches_12 : decode cX11_reaches 12 = .ok (.if_icmp .ne 11, 3) := by decide +kernel
theorem dX11_reaches_23 : decode cX11_reaches 23 = .ok (.aload_n 0, 1) := by decide +kernel
theorem dX11_reaches_24 : decode cX11_reaches 24 = .ok (.getfield 62, 3) := by decide +kernel
theorem dX11_reaches_27 : decode cX11_reaches 27 = .ok (.iload_n 1, 1) := by decide +kernel
theorem dX11_reaches_28 : decode cX11_reaches 28 = .ok (.iload_n 2, 1) := by decide +kernel
theorem tw_1108 : (Jvm.Cond.methodLinkNest "MarshBells" (258 : Nat) ({ cls := "MarshBells$Trials", name := "leastThatReaches", desc := "(II)I" } : Jvm.MethodName) "MarshBells") ∈ lw_tbl := tk_5 (List.mem_of_getElem? (i := 148) rfl)
theorem tw_1111 : (Jvm.Cond.code ({ cls := "MarshBells$Trials", name := "leastThatReaches", desc := "(II)I" } : Jvm.MethodName) prog_12_method_7_code (4 : Nat) (Option.some Jvm.ClassFile.FieldType.int)) ∈ lw_tbl := tk_5 (List.mem_of_getElem? (i := 151) rfl)
theorem tw_1110 : (Jvm.Cond.instanceMethod ({ cls := "MarshBells$Trials", name := "leastThatReaches", desc := "(II)I" } : Jvm.MethodName)) ∈ lw_tbl := tk_5 (List.mem_of_getElem? (i := 150) rfl)
theorem se_X10_leastThatReaches : Cond.selects RX10 yX10_leastThatReaches yX10_leastThatReaches ∈ lw_tbl := List.mem_append_left _ (List.mem_of_getElem? (i := 73) rfl)
theorem li_X11_258 : kLN RX11 258 RX10 yX10_leastThatReaches "MarshBells" cX10_leastThatReaches 4 (some .int) 2 := ⟨tw_1108, tw_1110, se_X10_leastThatReaches, tw_1111, tw_8, by decide +kernel⟩
theorem dX11_reaches_29 : decode cX11_reaches 29 = .ok (.invokevirtual 258, 3) := by decide +kernel
theorem dX11_reaches_32 : decode cX11_reaches 32 = .ok (.ireturn, 1) := by decide +kernel
theorem dX11_reaches_15 : decode cX11_reaches 15 = .ok (.new 105, 3) := by decide +kernel
theorem dX11_reaches_18 : decode cX11_reaches 18 = .ok (.dup, 1) := by decide +kernel
theorem dX11_reaches_19 : decode cX11_reaches 19 = .ok (.invokespecial 107, 3) := by decide +kernel
theorem dX11_reaches_22 : decode cX11_reaches 22 = .ok (.athrow, 1) := by decide +kernel
theorem dX11_slack_0 : decode cX11_slack 0 = .ok (.aload_n 0, 1) := by decide +kernel
theorem dX11_slack_1 : decode cX11_slack 1 = .ok (.iload_n 1, 1) := by decide +kernel
theorem dX11_slack_2 : decode cX11_slack 2 = .ok (.invokevirtual 156, 3) := by decide +kernel
theorem dX11_slack_5 : decode cX11_slack 5 = .ok (.aload_n 0, 1) := by decide +kernel
theorem dX11_slack_6 : decode cX11_slack 6 = .ok (.getfield 62, 3) := by decide +kernel
theorem dX11_slack_9 : decode cX11_slack 9 = .ok (.iload_n 1, 1) := by decide +kernel
theorem tw_1121 : (Jvm.Cond.methodLinkNest "MarshBells" (261 : Nat) ({ cls := "MarshBells$Trials", name := "mostThatDies", desc := "(I)I" } : Jvm.MethodName) "MarshBells") ∈ lw_tbl := tk_5 (List.mem_of_getElem? (i := 161) rfl)
theorem tw_1124 : (Jvm.Cond.code ({ cls := "MarshBells$Trials", name := "mostThatDies", desc := "(I)I" } : Jvm.MethodName) prog_12_method_8_code (3 : Nat) (Option.some Jvm.ClassFile.FieldType.int)) ∈ lw_tbl := tk_5 (List.mem_of_getElem? (i := 164) rfl)
theorem tw_1123 : (Jvm.Cond.instanceMethod ({ cls := "MarshBells$Trials", name := "mostThatDies", desc := "(I)I" } : Jvm.MethodName)) ∈ lw_tbl := tk_5 (List.mem_of_getElem? (i := 163) rfl)
theorem se_X10_mostThatDies : Cond.selects RX10 yX10_mostThatDies yX10_mostThatDies ∈ lw_tbl := List.mem_append_left _ (List.mem_of_getElem? (i := 74) rfl)
theorem li_X11_261 : kLN RX11 261 RX10 yX10_mostThatDies "MarshBells" cX10_mostThatDies 3 (some .int) 1 := ⟨tw_1121, tw_1123, se_X10_mostThatDies, tw_1124, tw_8, by decide +kernel⟩
theorem dX11_slack_10 : decode cX11_slack 10 = .ok (.invokevirtual 261, 3) := by decide +kernel
theorem dX11_slack_13 : decode cX11_slack 13 = .ok (.ireturn, 1) := by decide +kernel
theorem dJI_bitCount_0 : decode cJI_bitCount 0 = .ok (.iload_n 0, 1) := by decide +kernel
theorem dJI_bitCount_1 : decode cJI_bitCount 1 = .ok (.iload_n 0, 1) := by decide +kernel
theorem dJI_bitCount_2 : decode cJI_bitCount 2 = .ok (.iconst 1, 1) := by decide +kernel
theorem dJI_bitCount_3 : decode cJI_bitCount 3 = .ok (.iushr, 1) := by decide +kernel
theorem tw_1136 : (Jvm.Cond.constant "java/lang/Integer" (265 : Nat) (1431655765 : Int32)) ∈ lw_tbl := tk_5 (List.mem_of_getElem? (i := 176) rfl)
theorem dJI_bitCount_4 : decode cJI_bitCount 4 = .ok (.ldc_w 265, 3) := by decide +kernel
theorem dJI_bitCount_7 : decode cJI_bitCount 7 = .ok (.iand, 1) := by decide +kernel
theorem dJI_bitCount_8 : decode cJI_bitCount 8 = .ok (.isub, 1) := by decide +kernel
theorem dJI_bitCount_9 : decode cJI_bitCount 9 = .ok (.istore_n 0, 1) := by decide +kernel
theorem dJI_bitCount_10 : decode cJI_bitCount 10 = .ok (.iload_n 0, 1) := by decide +kernel
theorem tw_1137 : (Jvm.Cond.constant "java/lang/Integer" (266 : Nat) (858993459 : Int32)) ∈ lw_tbl := tk_5 (List.mem_of_getElem? (i := 177) rfl)
theorem dJI_bitCount_11 : decode cJI_bitCount 11 = .ok (.ldc_w 266, 3) := by decide +kernel
theorem dJI_bitCount_14 : decode cJI_bitCount 14 = .ok (.iand, 1) := by decide +kernel
theorem dJI_bitCount_15 : decode cJI_bitCount 15 = .ok (.iload_n 0, 1) := by decide +kernel
theorem dJI_bitCount_16 : decode cJI_bitCount 16 = .ok (.iconst 2, 1) := by decide +kernel
theorem dJI_bitCount_17 : decode cJI_bitCount 17 = .ok (.iushr, 1) := by decide +kernel
theorem dJI_bitCount_18 : decode cJI_bitCount 18 = .ok (.ldc_w 266, 3) := by decide +kernel
theorem dJI_bitCount_21 : decode cJI_bitCount 21 = .ok (.iand, 1) := by decide +kernel
theorem dJI_bitCount_22 : decode cJI_bitCount 22 = .ok (.iadd, 1) := by decide +kernel
theorem dJI_bitCount_23 : decode cJI_bitCount 23 = .ok (.istore_n 0, 1) := by decide +kernel
theorem dJI_bitCount_24 : decode cJI_bitCount 24 = .ok (.iload_n 0, 1) := by decide +kernel
theorem dJI_bitCount_25 : decode cJI_bitCount 25 = .ok (.iload_n 0, 1) := by decide +kernel
theorem dJI_bitCount_26 : decode cJI_bitCount 26 = .ok (.iconst 4, 1) := by decide +kernel
theorem dJI_bitCount_27 : decode cJI_bitCount 27 = .ok (.iushr, 1) := by decide +kernel
theorem dJI_bitCount_28 : decode cJI_bitCount 28 = .ok (.iadd, 1) := by decide +kernel
theorem tw_1138 : (Jvm.Cond.constant "java/lang/Integer" (267 : Nat) (252645135 : Int32)) ∈ lw_tbl := tk_5 (List.mem_of_getElem? (i := 178) rfl)
theorem dJI_bitCount_29 : decode cJI_bitCount 29 = .ok (.ldc_w 267, 3) := by decide +kernel
theorem dJI_bitCount_32 : decode cJI_bitCount 32 = .ok (.iand, 1) := by decide +kernel
theorem dJI_bitCount_33 : decode cJI_bitCount 33 = .ok (.istore_n 0, 1) := by decide +kernel
theorem dJI_bitCount_34 : decode cJI_bitCount 34 = .ok (.iload_n 0, 1) := by decide +kernel
theorem dJI_bitCount_35 : decode cJI_bitCount 35 = .ok (.iload_n 0, 1) := by decide +kernel
theorem dJI_bitCount_36 : decode cJI_bitCount 36 = .ok (.bipush 8, 2) := by decide +kernel
theorem dJI_bitCount_38 : decode cJI_bitCount 38 = .ok (.iushr, 1) := by decide +kernel
theorem dJI_bitCount_39 : decode cJI_bitCount 39 = .ok (.iadd, 1) := by decide +kernel
theorem dJI_bitCount_40 : decode cJI_bitCount 40 = .ok (.istore_n 0, 1) := by decide +kernel
theorem dJI_bitCount_41 : decode cJI_bitCount 41 = .ok (.iload_n 0, 1) := by decide +kernel
theorem dJI_bitCount_42 : decode cJI_bitCount 42 = .ok (.iload_n 0, 1) := by decide +kernel
theorem dJI_bitCount_43 : decode cJI_bitCount 43 = .ok (.bipush 16, 2) := by decide +kernel
theorem dJI_bitCount_45 : decode cJI_bitCount 45 = .ok (.iushr, 1) := by decide +kernel
theorem dJI_bitCount_46 : decode cJI_bitCount 46 = .ok (.iadd, 1) := by decide +kernel
theorem dJI_bitCount_47 : decode cJI_bitCount 47 = .ok (.istore_n 0, 1) := by decide +kernel
theorem dJI_bitCount_48 : decode cJI_bitCount 48 = .ok (.iload_n 0, 1) := by decide +kernel
theorem dJI_bitCount_49 : decode cJI_bitCount 49 = .ok (.bipush 63, 2) := by decide +kernel
theorem dJI_bitCount_51 : decode cJI_bitCount 51 = .ok (.iand, 1) := by decide +kernel
theorem dJI_bitCount_52 : decode cJI_bitCount 52 = .ok (.ireturn, 1) := by decide +kernel
theorem tw_495 : (Jvm.Cond.fieldLink "MarshBells" (69 : Nat) "MarshBells" "search" "LMarshBells$GapSearch;") ∈ lw_tbl := tk_3 (List.mem_of_getElem? (i := 15) rfl)
theorem fl_X11_69 : kFL RX11 69 11 17 10 := ⟨RX11, TX11, rfl, by decide, inWX11, tw_495⟩
theorem tw_404 : (Jvm.Cond.fieldLinkNest "MarshBells" (273 : Nat) "MarshBells$GapSearch" "found" "[I" "MarshBells") ∈ lw_tbl := tk_2 (List.mem_of_getElem? (i := 164) rfl)
theorem fl_X11_273 : kFN RX11 273 2 9 3 := ⟨RX2, TX2, rfl, by decide, inWX2, tw_404⟩
theorem tw_487 : (Jvm.Cond.fieldLink "MarshBells" (16 : Nat) "MarshBells" "keptGaps" "[I") ∈ lw_tbl := tk_3 (List.mem_of_getElem? (i := 7) rfl)
theorem fl_X11_16 : kFL RX11 16 11 17 2 := ⟨RX11, TX11, rfl, by decide, inWX11, tw_487⟩
theorem dX11_gaps_0 : decode cX11_gaps 0 = .ok (.aload_n 0, 1) := by decide +kernel
theorem dX11_gaps_1 : decode cX11_gaps 1 = .ok (.iload_n 2, 1) := by decide +kernel
theorem dX11_gaps_2 : decode cX11_gaps 2 = .ok (.invokevirtual 156, 3) := by decide +kernel
theorem dX11_gaps_5 : decode cX11_gaps 5 = .ok (.iload_n 3, 1) := by decide +kernel
theorem dX11_gaps_6 : decode cX11_gaps 6 = .ok (.iconst 0, 1) := by decide +kernel
theorem dX11_gaps_7 : decode cX11_gaps 7 = .ok (.sipush 999, 3) := by decide +kernel
theorem dX11_gaps_10 : decode cX11_gaps 10 = .ok (.invokestatic 243, 3) := by decide +kernel
theorem dX11_gaps_13 : decode cX11_gaps 13 = .ok (.iload_n 1, 1) := by decide +kernel
theorem dX11_gaps_14 : decode cX11_gaps 14 = .ok (.aload_n 0, 1) := by decide +kernel
theorem dX11_gaps_15 : decode cX11_gaps 15 = .ok (.getfield 22, 3) := by decide +kernel
theorem dX11_gaps_18 : decode cX11_gaps 18 = .ok (.getfield 125, 3) := by decide +kernel
theorem dX11_gaps_21 : decode cX11_gaps 21 = .ok (.iushr, 1) := by decide +kernel
theorem dX11_gaps_33 : decode cX11_gaps 33 = .ok (.new 105, 3) := by decide +kernel
theorem dX11_gaps_36 : decode cX11_gaps 36 = .ok (.dup, 1) := by decide +kernel
theorem dX11_gaps_37 : decode cX11_gaps 37 = .ok (.invokespecial 107, 3) := by decide +kernel
theorem dX11_gaps_40 : decode cX11_gaps 40 = .ok (.athrow, 1) := by decide +kernel
theorem dX11_gaps_22 : decode cX11_gaps 22 = .ok (.ifCond .ne 11, 3) := by decide +kernel
theorem dX11_gaps_25 : decode cX11_gaps 25 = .ok (.iload_n 1, 1) := by decide +kernel
theorem tw_1133 : (Jvm.Cond.methodLink "MarshBells" (264 : Nat) ({ cls := "java/lang/Integer", name := "bitCount", desc := "(I)I" } : Jvm.MethodName)) ∈ lw_tbl := tk_5 (List.mem_of_getElem? (i := 173) rfl)
theorem tw_25 : (Jvm.Cond.initialized "java/lang/Integer") ∈ lw_tbl := tk_1 (List.mem_of_getElem? (i := 25) rfl)
theorem tw_1135 : (Jvm.Cond.code ({ cls := "java/lang/Integer", name := "bitCount", desc := "(I)I" } : Jvm.MethodName) prog_20_method_49_code (1 : Nat) (Option.some Jvm.ClassFile.FieldType.int)) ∈ lw_tbl := tk_5 (List.mem_of_getElem? (i := 175) rfl)
theorem tw_1134 : (Jvm.Cond.static ({ cls := "java/lang/Integer", name := "bitCount", desc := "(I)I" } : Jvm.MethodName)) ∈ lw_tbl := tk_5 (List.mem_of_getElem? (i := 174) rfl)
theorem li_X11_264 : kLS RX11 264 yJI_bitCount cJI_bitCount 1 (some .int) 1 := ⟨tw_1133, tw_1134, tw_1135, tw_25, by decide +kernel⟩
theorem dX11_gaps_26 : decode cX11_gaps 26 = .ok (.invokestatic 264, 3) := by decide +kernel
theorem dX11_gaps_29 : decode cX11_gaps 29 = .ok (.iconst 5, 1) := by decide +kernel
theorem dX11_gaps_30 : decode cX11_gaps 30 = .ok (.if_icmp .le 11, 3) := by decide +kernel
theorem dX11_gaps_41 : decode cX11_gaps 41 = .ok (.aload_n 0, 1) := by decide +kernel
theorem dX11_gaps_42 : decode cX11_gaps 42 = .ok (.getfield 69, 3) := by decide +kernel
theorem dX11_gaps_45 : decode cX11_gaps 45 = .ok (.iload_n 1, 1) := by decide +kernel
theorem dX11_gaps_46 : decode cX11_gaps 46 = .ok (.iload_n 2, 1) := by decide +kernel
theorem dX11_gaps_47 : decode cX11_gaps 47 = .ok (.iload_n 3, 1) := by decide +kernel
theorem tw_1139 : (Jvm.Cond.methodLinkNest "MarshBells" (269 : Nat) ({ cls := "MarshBells$GapSearch", name := "fewest", desc := "(III)I" } : Jvm.MethodName) "MarshBells") ∈ lw_tbl := tk_5 (List.mem_of_getElem? (i := 179) rfl)
theorem tw_1142 : (Jvm.Cond.code ({ cls := "MarshBells$GapSearch", name := "fewest", desc := "(III)I" } : Jvm.MethodName) prog_4_method_2_code (5 : Nat) (Option.some Jvm.ClassFile.FieldType.int)) ∈ lw_tbl := tk_5 (List.mem_of_getElem? (i := 182) rfl)
theorem tw_1141 : (Jvm.Cond.instanceMethod ({ cls := "MarshBells$GapSearch", name := "fewest", desc := "(III)I" } : Jvm.MethodName)) ∈ lw_tbl := tk_5 (List.mem_of_getElem? (i := 181) rfl)
theorem se_X2_fewest : Cond.selects RX2 yX2_fewest yX2_fewest ∈ lw_tbl := List.mem_append_left _ (List.mem_of_getElem? (i := 75) rfl)
theorem li_X11_269 : kLN RX11 269 RX2 yX2_fewest "MarshBells" cX2_fewest 5 (some .int) 3 := ⟨tw_1139, tw_1141, se_X2_fewest, tw_1142, tw_10, by decide +kernel⟩
theorem dX11_gaps_48 : decode cX11_gaps 48 = .ok (.invokevirtual 269, 3) := by decide +kernel
theorem dX11_gaps_51 : decode cX11_gaps 51 = .ok (.istore 4, 2) := by decide +kernel
theorem dX11_gaps_53 : decode cX11_gaps 53 = .ok (.iload 4, 2) := by decide +kernel
theorem dX11_gaps_55 : decode cX11_gaps 55 = .ok (.iconst (-1), 1) := by decide +kernel
theorem dX11_gaps_82 : decode cX11_gaps 82 = .ok (.iload 4, 2) := by decide +kernel
theorem dX11_gaps_84 : decode cX11_gaps 84 = .ok (.ireturn, 1) := by decide +kernel
theorem dX11_gaps_56 : decode cX11_gaps 56 = .ok (.if_icmp .eq 26, 3) := by decide +kernel
theorem dX11_gaps_59 : decode cX11_gaps 59 = .ok (.aload_n 0, 1) := by decide +kernel
theorem dX11_gaps_60 : decode cX11_gaps 60 = .ok (.getfield 69, 3) := by decide +kernel
theorem dX11_gaps_63 : decode cX11_gaps 63 = .ok (.getfield 273, 3) := by decide +kernel
theorem dX11_gaps_66 : decode cX11_gaps 66 = .ok (.iconst 0, 1) := by decide +kernel
theorem dX11_gaps_67 : decode cX11_gaps 67 = .ok (.aload_n 0, 1) := by decide +kernel
theorem dX11_gaps_68 : decode cX11_gaps 68 = .ok (.getfield 16, 3) := by decide +kernel
theorem dX11_gaps_71 : decode cX11_gaps 71 = .ok (.iconst 0, 1) := by decide +kernel
theorem dX11_gaps_72 : decode cX11_gaps 72 = .ok (.bipush 12, 2) := by decide +kernel
theorem tw_1165 : (Jvm.Cond.methodLink "MarshBells" (276 : Nat) ({ cls := "java/lang/System", name := "arraycopy", desc := "(Ljava/lang/Object;ILjava/lang/Object;II)V" } : Jvm.MethodName)) ∈ lw_tbl := tk_5 (List.mem_of_getElem? (i := 205) rfl)
theorem lc_X11_276 : kLC RX11 276 := ⟨tw_1165, tw_567, tw_566, tw_24⟩
theorem dX11_gaps_74 : decode cX11_gaps 74 = .ok (.invokestatic 276, 3) := by decide +kernel
theorem dX11_gaps_77 : decode cX11_gaps 77 = .ok (.aload_n 0, 1) := by decide +kernel
theorem dX11_gaps_78 : decode cX11_gaps 78 = .ok (.iconst 1, 1) := by decide +kernel
theorem dX11_gaps_79 : decode cX11_gaps 79 = .ok (.putfield 98, 3) := by decide +kernel
theorem dX11_gap_0 : decode cX11_gap 0 = .ok (.aload_n 0, 1) := by decide +kernel
theorem dX11_gap_1 : decode cX11_gap 1 = .ok (.iload_n 1, 1) := by decide +kernel
theorem dX11_gap_2 : decode cX11_gap 2 = .ok (.invokevirtual 156, 3) := by decide +kernel
theorem dX11_gap_5 : decode cX11_gap 5 = .ok (.aload_n 0, 1) := by decide +kernel
theorem dX11_gap_6 : decode cX11_gap 6 = .ok (.getfield 98, 3) := by decide +kernel
theorem dX11_gap_9 : decode cX11_gap 9 = .ok (.ifCond .ne 11, 3) := by decide +kernel
theorem dX11_gap_20 : decode cX11_gap 20 = .ok (.aload_n 0, 1) := by decide +kernel
theorem dX11_gap_21 : decode cX11_gap 21 = .ok (.getfield 16, 3) := by decide +kernel
theorem dX11_gap_24 : decode cX11_gap 24 = .ok (.iload_n 1, 1) := by decide +kernel
theorem dX11_gap_25 : decode cX11_gap 25 = .ok (.iaload, 1) := by decide +kernel
theorem dX11_gap_26 : decode cX11_gap 26 = .ok (.ireturn, 1) := by decide +kernel
theorem dX11_gap_12 : decode cX11_gap 12 = .ok (.new 219, 3) := by decide +kernel
theorem dX11_gap_15 : decode cX11_gap 15 = .ok (.dup, 1) := by decide +kernel
theorem dX11_gap_16 : decode cX11_gap 16 = .ok (.invokespecial 221, 3) := by decide +kernel
theorem dX11_gap_19 : decode cX11_gap 19 = .ok (.athrow, 1) := by decide +kernel
theorem tw_496 : (Jvm.Cond.fieldLink "MarshBells" (76 : Nat) "MarshBells" "chances" "LMarshBells$Chances;") ∈ lw_tbl := tk_3 (List.mem_of_getElem? (i := 16) rfl)
theorem fl_X11_76 : kFL RX11 76 11 17 11 := ⟨RX11, TX11, rfl, by decide, inWX11, tw_496⟩
theorem tw_441 : (Jvm.Cond.fieldLinkNest "MarshBells" (285 : Nat) "MarshBells$Chances" "upper" "J" "MarshBells") ∈ lw_tbl := tk_2 (List.mem_of_getElem? (i := 201) rfl)
theorem fl_X11_285 : kFN RX11 285 0 7 5 := ⟨RX0, TX0, rfl, by decide, inWX0, tw_441⟩
theorem tw_443 : (Jvm.Cond.fieldLinkNest "MarshBells" (289 : Nat) "MarshBells$Chances" "lower" "J" "MarshBells") ∈ lw_tbl := tk_2 (List.mem_of_getElem? (i := 203) rfl)
theorem fl_X11_289 : kFN RX11 289 0 7 6 := ⟨RX0, TX0, rfl, by decide, inWX0, tw_443⟩
theorem dX11_chance_0 : decode cX11_chance 0 = .ok (.aload_n 0, 1) := by decide +kernel
theorem dX11_chance_1 : decode cX11_chance 1 = .ok (.iload_n 1, 1) := by decide +kernel
theorem dX11_chance_2 : decode cX11_chance 2 = .ok (.invokevirtual 156, 3) := by decide +kernel
theorem dX11_chance_5 : decode cX11_chance 5 = .ok (.iload_n 3, 1) := by decide +kernel
theorem dX11_chance_6 : decode cX11_chance 6 = .ok (.iconst 2, 1) := by decide +kernel
theorem dX11_chance_7 : decode cX11_chance 7 = .ok (.invokestatic 121, 3) := by decide +kernel
theorem dX11_chance_10 : decode cX11_chance 10 = .ok (.iload_n 2, 1) := by decide +kernel
theorem dX11_chance_11 : decode cX11_chance 11 = .ok (.iconst 0, 1) := by decide +kernel
theorem dX11_chance_12 : decode cX11_chance 12 = .ok (.sipush 999, 3) := by decide +kernel
theorem dX11_chance_15 : decode cX11_chance 15 = .ok (.invokestatic 243, 3) := by decide +kernel
theorem dX11_chance_18 : decode cX11_chance 18 = .ok (.aload_n 0, 1) := by decide +kernel
theorem dX11_chance_19 : decode cX11_chance 19 = .ok (.getfield 76, 3) := by decide +kernel
theorem dX11_chance_22 : decode cX11_chance 22 = .ok (.iload_n 1, 1) := by decide +kernel
theorem dX11_chance_23 : decode cX11_chance 23 = .ok (.iload_n 2, 1) := by decide +kernel
theorem tw_1180 : (Jvm.Cond.methodLinkNest "MarshBells" (282 : Nat) ({ cls := "MarshBells$Chances", name := "ofLate", desc := "(II)V" } : Jvm.MethodName) "MarshBells") ∈ lw_tbl := tk_5 (List.mem_of_getElem? (i := 220) rfl)
theorem tw_1183 : (Jvm.Cond.code ({ cls := "MarshBells$Chances", name := "ofLate", desc := "(II)V" } : Jvm.MethodName) prog_2_method_2_code (4 : Nat) (Option.none : Option Jvm.ClassFile.FieldType)) ∈ lw_tbl := tk_5 (List.mem_of_getElem? (i := 223) rfl)
theorem tw_1182 : (Jvm.Cond.instanceMethod ({ cls := "MarshBells$Chances", name := "ofLate", desc := "(II)V" } : Jvm.MethodName)) ∈ lw_tbl := tk_5 (List.mem_of_getElem? (i := 222) rfl)
theorem se_X0_ofLate : Cond.selects RX0 yX0_ofLate yX0_ofLate ∈ lw_tbl := List.mem_append_left _ (List.mem_of_getElem? (i := 80) rfl)
theorem li_X11_282 : kLN RX11 282 RX0 yX0_ofLate "MarshBells" cX0_ofLate 4 none 2 := ⟨tw_1180, tw_1182, se_X0_ofLate, tw_1183, tw_11, by decide +kernel⟩
theorem dX11_chance_24 : decode cX11_chance 24 = .ok (.invokevirtual 282, 3) := by decide +kernel
theorem dX11_chance_27 : decode cX11_chance 27 = .ok (.iload_n 3, 1) := by decide +kernel
theorem dX11_chance_48 : decode cX11_chance 48 = .ok (.lreturn, 1) := by decide +kernel
theorem dX11_chance_28 : decode cX11_chance 28 = .ok (.ifCond .ne 13, 3) := by decide +kernel
theorem dX11_chance_41 : decode cX11_chance 41 = .ok (.aload_n 0, 1) := by decide +kernel
theorem dX11_chance_42 : decode cX11_chance 42 = .ok (.getfield 76, 3) := by decide +kernel
theorem dX11_chance_45 : decode cX11_chance 45 = .ok (.getfield 289, 3) := by decide +kernel
theorem dX11_chance_31 : decode cX11_chance 31 = .ok (.aload_n 0, 1) := by decide +kernel
theorem dX11_chance_32 : decode cX11_chance 32 = .ok (.getfield 76, 3) := by decide +kernel
theorem dX11_chance_35 : decode cX11_chance 35 = .ok (.getfield 285, 3) := by decide +kernel
theorem dX11_chance_38 : decode cX11_chance 38 = .ok (.goto 10, 3) := by decide +kernel
theorem dX11_mean_0 : decode cX11_mean 0 = .ok (.aload_n 0, 1) := by decide +kernel
theorem dX11_mean_1 : decode cX11_mean 1 = .ok (.iload_n 1, 1) := by decide +kernel
theorem dX11_mean_2 : decode cX11_mean 2 = .ok (.invokevirtual 156, 3) := by decide +kernel
theorem dX11_mean_5 : decode cX11_mean 5 = .ok (.iload_n 2, 1) := by decide +kernel
theorem dX11_mean_6 : decode cX11_mean 6 = .ok (.iconst 2, 1) := by decide +kernel
theorem dX11_mean_7 : decode cX11_mean 7 = .ok (.invokestatic 121, 3) := by decide +kernel
theorem dX11_mean_10 : decode cX11_mean 10 = .ok (.aload_n 0, 1) := by decide +kernel
theorem dX11_mean_11 : decode cX11_mean 11 = .ok (.getfield 76, 3) := by decide +kernel
theorem dX11_mean_14 : decode cX11_mean 14 = .ok (.iload_n 1, 1) := by decide +kernel
theorem tw_1210 : (Jvm.Cond.methodLinkNest "MarshBells" (292 : Nat) ({ cls := "MarshBells$Chances", name := "meanLate", desc := "(I)V" } : Jvm.MethodName) "MarshBells") ∈ lw_tbl := tk_6 (List.mem_of_getElem? (i := 10) rfl)
theorem tw_1213 : (Jvm.Cond.code ({ cls := "MarshBells$Chances", name := "meanLate", desc := "(I)V" } : Jvm.MethodName) prog_2_method_3_code (3 : Nat) (Option.none : Option Jvm.ClassFile.FieldType)) ∈ lw_tbl := tk_6 (List.mem_of_getElem? (i := 13) rfl)
theorem tw_1212 : (Jvm.Cond.instanceMethod ({ cls := "MarshBells$Chances", name := "meanLate", desc := "(I)V" } : Jvm.MethodName)) ∈ lw_tbl := tk_6 (List.mem_of_getElem? (i := 12) rfl)
theorem se_X0_meanLate : Cond.selects RX0 yX0_meanLate yX0_meanLate ∈ lw_tbl := List.mem_append_left _ (List.mem_of_getElem? (i := 85) rfl)
theorem li_X11_292 : kLN RX11 292 RX0 yX0_meanLate "MarshBells" cX0_meanLate 3 none 1 := ⟨tw_1210, tw_1212, se_X0_meanLate, tw_1213, tw_11, by decide +kernel⟩
theorem dX11_mean_15 : decode cX11_mean 15 = .ok (.invokevirtual 292, 3) := by decide +kernel
theorem dX11_mean_18 : decode cX11_mean 18 = .ok (.iload_n 2, 1) := by decide +kernel
theorem dX11_mean_39 : decode cX11_mean 39 = .ok (.lreturn, 1) := by decide +kernel
theorem dX11_mean_19 : decode cX11_mean 19 = .ok (.ifCond .ne 13, 3) := by decide +kernel
theorem dX11_mean_32 : decode cX11_mean 32 = .ok (.aload_n 0, 1) := by decide +kernel
theorem dX11_mean_33 : decode cX11_mean 33 = .ok (.getfield 76, 3) := by decide +kernel
theorem dX11_mean_36 : decode cX11_mean 36 = .ok (.getfield 289, 3) := by decide +kernel
theorem dX11_mean_22 : decode cX11_mean 22 = .ok (.aload_n 0, 1) := by decide +kernel
theorem dX11_mean_23 : decode cX11_mean 23 = .ok (.getfield 76, 3) := by decide +kernel
theorem dX11_mean_26 : decode cX11_mean 26 = .ok (.getfield 285, 3) := by decide +kernel
theorem dX11_mean_29 : decode cX11_mean 29 = .ok (.goto 10, 3) := by decide +kernel
theorem dX11_swap_0 : decode cX11_swap 0 = .ok (.iload_n 1, 1) := by decide +kernel
theorem dX11_swap_1 : decode cX11_swap 1 = .ok (.iconst 2, 1) := by decide +kernel
theorem dX11_swap_2 : decode cX11_swap 2 = .ok (.invokestatic 121, 3) := by decide +kernel
theorem dX11_swap_5 : decode cX11_swap 5 = .ok (.aload_n 0, 1) := by decide +kernel
theorem dX11_swap_6 : decode cX11_swap 6 = .ok (.getfield 62, 3) := by decide +kernel
theorem dX11_swap_9 : decode cX11_swap 9 = .ok (.iload_n 1, 1) := by decide +kernel
theorem tw_1221 : (Jvm.Cond.methodLinkNest "MarshBells" (295 : Nat) ({ cls := "MarshBells$Trials", name := "swapped", desc := "(I)I" } : Jvm.MethodName) "MarshBells") ∈ lw_tbl := tk_6 (List.mem_of_getElem? (i := 21) rfl)
theorem tw_1224 : (Jvm.Cond.code ({ cls := "MarshBells$Trials", name := "swapped", desc := "(I)I" } : Jvm.MethodName) prog_12_method_10_code (5 : Nat) (Option.some Jvm.ClassFile.FieldType.int)) ∈ lw_tbl := tk_6 (List.mem_of_getElem? (i := 24) rfl)
theorem tw_1223 : (Jvm.Cond.instanceMethod ({ cls := "MarshBells$Trials", name := "swapped", desc := "(I)I" } : Jvm.MethodName)) ∈ lw_tbl := tk_6 (List.mem_of_getElem? (i := 23) rfl)
theorem se_X10_swapped : Cond.selects RX10 yX10_swapped yX10_swapped ∈ lw_tbl := List.mem_append_left _ (List.mem_of_getElem? (i := 86) rfl)
theorem li_X11_295 : kLN RX11 295 RX10 yX10_swapped "MarshBells" cX10_swapped 5 (some .int) 1 := ⟨tw_1221, tw_1223, se_X10_swapped, tw_1224, tw_8, by decide +kernel⟩
theorem dX11_swap_10 : decode cX11_swap 10 = .ok (.invokevirtual 295, 3) := by decide +kernel
theorem dX11_swap_13 : decode cX11_swap 13 = .ok (.ireturn, 1) := by decide +kernel
theorem dX11_room_0 : decode cX11_room 0 = .ok (.aload_n 0, 1) := by decide +kernel
theorem dX11_room_1 : decode cX11_room 1 = .ok (.iload_n 1, 1) := by decide +kernel
theorem dX11_room_2 : decode cX11_room 2 = .ok (.invokevirtual 156, 3) := by decide +kernel
theorem dX11_room_5 : decode cX11_room 5 = .ok (.iload_n 2, 1) := by decide +kernel
theorem dX11_room_6 : decode cX11_room 6 = .ok (.iconst 2, 1) := by decide +kernel
theorem dX11_room_7 : decode cX11_room 7 = .ok (.invokestatic 121, 3) := by decide +kernel
theorem dX11_room_10 : decode cX11_room 10 = .ok (.aload_n 0, 1) := by decide +kernel
theorem dX11_room_11 : decode cX11_room 11 = .ok (.getfield 62, 3) := by decide +kernel
theorem dX11_room_14 : decode cX11_room 14 = .ok (.iconst 2, 1) := by decide +kernel
theorem dX11_room_15 : decode cX11_room 15 = .ok (.iload_n 1, 1) := by decide +kernel
theorem dX11_room_16 : decode cX11_room 16 = .ok (.iload_n 2, 1) := by decide +kernel
theorem tw_1236 : (Jvm.Cond.methodLinkNest "MarshBells" (298 : Nat) ({ cls := "MarshBells$Trials", name := "leastBy", desc := "(III)I" } : Jvm.MethodName) "MarshBells") ∈ lw_tbl := tk_6 (List.mem_of_getElem? (i := 36) rfl)
theorem tw_1239 : (Jvm.Cond.code ({ cls := "MarshBells$Trials", name := "leastBy", desc := "(III)I" } : Jvm.MethodName) prog_12_method_11_code (6 : Nat) (Option.some Jvm.ClassFile.FieldType.int)) ∈ lw_tbl := tk_6 (List.mem_of_getElem? (i := 39) rfl)
theorem tw_1238 : (Jvm.Cond.instanceMethod ({ cls := "MarshBells$Trials", name := "leastBy", desc := "(III)I" } : Jvm.MethodName)) ∈ lw_tbl := tk_6 (List.mem_of_getElem? (i := 38) rfl)
theorem se_X10_leastBy : Cond.selects RX10 yX10_leastBy yX10_leastBy ∈ lw_tbl := List.mem_append_left _ (List.mem_of_getElem? (i := 88) rfl)
theorem li_X11_298 : kLN RX11 298 RX10 yX10_leastBy "MarshBells" cX10_leastBy 6 (some .int) 3 := ⟨tw_1236, tw_1238, se_X10_leastBy, tw_1239, tw_8, by decide +kernel⟩
theorem dX11_room_17 : decode cX11_room 17 = .ok (.invokevirtual 298, 3) := by decide +kernel
theorem dX11_room_20 : decode cX11_room 20 = .ok (.ireturn, 1) := by decide +kernel
theorem dX11_limit_0 : decode cX11_limit 0 = .ok (.aload_n 0, 1) := by decide +kernel
theorem dX11_limit_1 : decode cX11_limit 1 = .ok (.iload_n 1, 1) := by decide +kernel
theorem dX11_limit_2 : decode cX11_limit 2 = .ok (.invokevirtual 156, 3) := by decide +kernel
theorem dX11_limit_5 : decode cX11_limit 5 = .ok (.iload_n 2, 1) := by decide +kernel
theorem dX11_limit_6 : decode cX11_limit 6 = .ok (.iconst 2, 1) := by decide +kernel
theorem dX11_limit_7 : decode cX11_limit 7 = .ok (.invokestatic 121, 3) := by decide +kernel
theorem dX11_limit_10 : decode cX11_limit 10 = .ok (.aload_n 0, 1) := by decide +kernel
theorem dX11_limit_11 : decode cX11_limit 11 = .ok (.getfield 62, 3) := by decide +kernel
theorem dX11_limit_14 : decode cX11_limit 14 = .ok (.iconst 3, 1) := by decide +kernel
theorem dX11_limit_15 : decode cX11_limit 15 = .ok (.iload_n 1, 1) := by decide +kernel
theorem dX11_limit_16 : decode cX11_limit 16 = .ok (.iload_n 2, 1) := by decide +kernel
theorem dX11_limit_17 : decode cX11_limit 17 = .ok (.invokevirtual 298, 3) := by decide +kernel
theorem dX11_limit_20 : decode cX11_limit 20 = .ok (.ireturn, 1) := by decide +kernel
theorem dX11_last_0 : decode cX11_last 0 = .ok (.aload_n 0, 1) := by decide +kernel
theorem dX11_last_1 : decode cX11_last 1 = .ok (.getfield 62, 3) := by decide +kernel
theorem tw_588 : (Jvm.Cond.methodLinkNest "MarshBells" (301 : Nat) ({ cls := "MarshBells$Trials", name := "withoutOne", desc := "()I" } : Jvm.MethodName) "MarshBells") ∈ lw_tbl := tk_3 (List.mem_of_getElem? (i := 108) rfl)
theorem tw_591 : (Jvm.Cond.code ({ cls := "MarshBells$Trials", name := "withoutOne", desc := "()I" } : Jvm.MethodName) prog_12_method_12_code (2 : Nat) (Option.some Jvm.ClassFile.FieldType.int)) ∈ lw_tbl := tk_3 (List.mem_of_getElem? (i := 111) rfl)
theorem tw_590 : (Jvm.Cond.instanceMethod ({ cls := "MarshBells$Trials", name := "withoutOne", desc := "()I" } : Jvm.MethodName)) ∈ lw_tbl := tk_3 (List.mem_of_getElem? (i := 110) rfl)
theorem se_X10_withoutOne : Cond.selects RX10 yX10_withoutOne yX10_withoutOne ∈ lw_tbl := List.mem_append_left _ (List.mem_of_getElem? (i := 7) rfl)
theorem li_X11_301 : kLN RX11 301 RX10 yX10_withoutOne "MarshBells" cX10_withoutOne 2 (some .int) 0 := ⟨tw_588, tw_590, se_X10_withoutOne, tw_591, tw_8, by decide +kernel⟩
theorem dX11_last_4 : decode cX11_last 4 = .ok (.invokevirtual 301, 3) := by decide +kernel
theorem dX11_last_7 : decode cX11_last 7 = .ok (.ireturn, 1) := by decide +kernel
theorem dX11_compare_0 : decode cX11_compare 0 = .ok (.aload_n 0, 1) := by decide +kernel
theorem dX11_compare_1 : decode cX11_compare 1 = .ok (.iload_n 1, 1) := by decide +kernel
theorem dX11_compare_2 : decode cX11_compare 2 = .ok (.invokevirtual 235, 3) := by decide +kernel
theorem dX11_compare_5 : decode cX11_compare 5 = .ok (.ifCond .ne 11, 3) := by decide +kernel
theorem dX11_compare_16 : decode cX11_compare 16 = .ok (.aload_n 0, 1) := by decide +kernel
theorem dX11_compare_17 : decode cX11_compare 17 = .ok (.getfield 62, 3) := by decide +kernel
theorem dX11_compare_20 : decode cX11_compare 20 = .ok (.iload_n 1, 1) := by decide +kernel
theorem tw_1257 : (Jvm.Cond.methodLinkNest "MarshBells" (304 : Nat) ({ cls := "MarshBells$Trials", name := "lostByRule", desc := "(I)I" } : Jvm.MethodName) "MarshBells") ∈ lw_tbl := tk_6 (List.mem_of_getElem? (i := 57) rfl)
theorem li_X11_304 : kLN RX11 304 RX10 yX10_lostByRule "MarshBells" cX10_lostByRule 4 (some .int) 1 := ⟨tw_1257, tw_678, se_X10_lostByRule, tw_679, tw_8, by decide +kernel⟩
theorem dX11_compare_21 : decode cX11_compare 21 = .ok (.invokevirtual 304, 3) := by decide +kernel
theorem dX11_compare_24 : decode cX11_compare 24 = .ok (.ireturn, 1) := by decide +kernel
theorem dX11_compare_8 : decode cX11_compare 8 = .ok (.new 219, 3) := by decide +kernel
theorem dX11_compare_11 : decode cX11_compare 11 = .ok (.dup, 1) := by decide +kernel
theorem dX11_compare_12 : decode cX11_compare 12 = .ok (.invokespecial 221, 3) := by decide +kernel
theorem dX11_compare_15 : decode cX11_compare 15 = .ok (.athrow, 1) := by decide +kernel
theorem dX11_best_0 : decode cX11_best 0 = .ok (.aload_n 0, 1) := by decide +kernel
theorem dX11_best_1 : decode cX11_best 1 = .ok (.getfield 62, 3) := by decide +kernel
theorem tw_672 : (Jvm.Cond.methodLinkNest "MarshBells" (307 : Nat) ({ cls := "MarshBells$Trials", name := "bestRule", desc := "()I" } : Jvm.MethodName) "MarshBells") ∈ lw_tbl := tk_3 (List.mem_of_getElem? (i := 192) rfl)
theorem tw_675 : (Jvm.Cond.code ({ cls := "MarshBells$Trials", name := "bestRule", desc := "()I" } : Jvm.MethodName) prog_12_method_16_code (2 : Nat) (Option.some Jvm.ClassFile.FieldType.int)) ∈ lw_tbl := tk_3 (List.mem_of_getElem? (i := 195) rfl)
theorem tw_674 : (Jvm.Cond.instanceMethod ({ cls := "MarshBells$Trials", name := "bestRule", desc := "()I" } : Jvm.MethodName)) ∈ lw_tbl := tk_3 (List.mem_of_getElem? (i := 194) rfl)
theorem se_X10_bestRule : Cond.selects RX10 yX10_bestRule yX10_bestRule ∈ lw_tbl := List.mem_append_left _ (List.mem_of_getElem? (i := 24) rfl)
theorem li_X11_307 : kLN RX11 307 RX10 yX10_bestRule "MarshBells" cX10_bestRule 2 (some .int) 0 := ⟨tw_672, tw_674, se_X10_bestRule, tw_675, tw_8, by decide +kernel⟩
theorem dX11_best_4 : decode cX11_best 4 = .ok (.invokevirtual 307, 3) := by decide +kernel
theorem dX11_best_7 : decode cX11_best 7 = .ok (.ireturn, 1) := by decide +kernel
theorem dX11_bell_0 : decode cX11_bell 0 = .ok (.iload_n 1, 1) := by decide +kernel
theorem dX11_bell_1 : decode cX11_bell 1 = .ok (.iconst 0, 1) := by decide +kernel
theorem dX11_bell_2 : decode cX11_bell 2 = .ok (.bipush 60, 2) := by decide +kernel
theorem dX11_bell_4 : decode cX11_bell 4 = .ok (.invokestatic 243, 3) := by decide +kernel
theorem dX11_bell_7 : decode cX11_bell 7 = .ok (.aload_n 0, 1) := by decide +kernel
theorem dX11_bell_8 : decode cX11_bell 8 = .ok (.getfield 62, 3) := by decide +kernel
theorem dX11_bell_11 : decode cX11_bell 11 = .ok (.iload_n 1, 1) := by decide +kernel
theorem tw_1265 : (Jvm.Cond.methodLinkNest "MarshBells" (310 : Nat) ({ cls := "MarshBells$Trials", name := "worthOfBell", desc := "(I)I" } : Jvm.MethodName) "MarshBells") ∈ lw_tbl := tk_6 (List.mem_of_getElem? (i := 65) rfl)
theorem tw_1268 : (Jvm.Cond.code ({ cls := "MarshBells$Trials", name := "worthOfBell", desc := "(I)I" } : Jvm.MethodName) prog_12_method_17_code (4 : Nat) (Option.some Jvm.ClassFile.FieldType.int)) ∈ lw_tbl := tk_6 (List.mem_of_getElem? (i := 68) rfl)
theorem tw_1267 : (Jvm.Cond.instanceMethod ({ cls := "MarshBells$Trials", name := "worthOfBell", desc := "(I)I" } : Jvm.MethodName)) ∈ lw_tbl := tk_6 (List.mem_of_getElem? (i := 67) rfl)
theorem se_X10_worthOfBell : Cond.selects RX10 yX10_worthOfBell yX10_worthOfBell ∈ lw_tbl := List.mem_append_left _ (List.mem_of_getElem? (i := 89) rfl)
theorem li_X11_310 : kLN RX11 310 RX10 yX10_worthOfBell "MarshBells" cX10_worthOfBell 4 (some .int) 1 := ⟨tw_1265, tw_1267, se_X10_worthOfBell, tw_1268, tw_8, by decide +kernel⟩
theorem dX11_bell_12 : decode cX11_bell 12 = .ok (.invokevirtual 310, 3) := by decide +kernel
theorem dX11_bell_15 : decode cX11_bell 15 = .ok (.ireturn, 1) := by decide +kernel
theorem dX11_see_0 : decode cX11_see 0 = .ok (.aload_n 0, 1) := by decide +kernel
theorem dX11_see_1 : decode cX11_see 1 = .ok (.iload_n 1, 1) := by decide +kernel
theorem dX11_see_2 : decode cX11_see 2 = .ok (.invokevirtual 156, 3) := by decide +kernel
theorem dX11_see_5 : decode cX11_see 5 = .ok (.iload_n 2, 1) := by decide +kernel
theorem dX11_see_28 : decode cX11_see 28 = .ok (.aload_n 0, 1) := by decide +kernel
theorem dX11_see_29 : decode cX11_see 29 = .ok (.getfield 13, 3) := by decide +kernel
theorem dX11_see_32 : decode cX11_see 32 = .ok (.iconst 2, 1) := by decide +kernel
theorem dX11_see_33 : decode cX11_see 33 = .ok (.dup2, 1) := by decide +kernel
theorem dX11_see_34 : decode cX11_see 34 = .ok (.iaload, 1) := by decide +kernel
theorem dX11_see_35 : decode cX11_see 35 = .ok (.iconst 1, 1) := by decide +kernel
theorem dX11_see_36 : decode cX11_see 36 = .ok (.iadd, 1) := by decide +kernel
theorem dX11_see_37 : decode cX11_see 37 = .ok (.iastore, 1) := by decide +kernel
theorem dX11_see_38 : decode cX11_see 38 = .ok (.iconst (-1), 1) := by decide +kernel
theorem dX11_see_39 : decode cX11_see 39 = .ok (.ireturn, 1) := by decide +kernel
theorem dX11_see_6 : decode cX11_see 6 = .ok (.ifCond .lt 22, 3) := by decide +kernel
theorem dX11_see_9 : decode cX11_see 9 = .ok (.iload_n 2, 1) := by decide +kernel
theorem dX11_see_10 : decode cX11_see 10 = .ok (.sipush 999, 3) := by decide +kernel
theorem dX11_see_13 : decode cX11_see 13 = .ok (.if_icmp .gt 15, 3) := by decide +kernel
theorem dX11_see_16 : decode cX11_see 16 = .ok (.aload_n 0, 1) := by decide +kernel
theorem dX11_see_17 : decode cX11_see 17 = .ok (.getfield 41, 3) := by decide +kernel
theorem dX11_see_20 : decode cX11_see 20 = .ok (.getfield 149, 3) := by decide +kernel
theorem dX11_see_23 : decode cX11_see 23 = .ok (.bipush 8, 2) := by decide +kernel
theorem dX11_see_25 : decode cX11_see 25 = .ok (.if_icmp .lt 15, 3) := by decide +kernel
theorem dX11_see_40 : decode cX11_see 40 = .ok (.aload_n 0, 1) := by decide +kernel
theorem dX11_see_41 : decode cX11_see 41 = .ok (.getfield 41, 3) := by decide +kernel
theorem dX11_see_44 : decode cX11_see 44 = .ok (.iload_n 1, 1) := by decide +kernel
theorem dX11_see_45 : decode cX11_see 45 = .ok (.iload_n 2, 1) := by decide +kernel
theorem tw_1277 : (Jvm.Cond.methodLinkNest "MarshBells" (313 : Nat) ({ cls := "MarshBells$Held", name := "keepSeen", desc := "(II)V" } : Jvm.MethodName) "MarshBells") ∈ lw_tbl := tk_6 (List.mem_of_getElem? (i := 77) rfl)
theorem tw_1280 : (Jvm.Cond.code ({ cls := "MarshBells$Held", name := "keepSeen", desc := "(II)V" } : Jvm.MethodName) prog_5_method_10_code (3 : Nat) (Option.none : Option Jvm.ClassFile.FieldType)) ∈ lw_tbl := tk_6 (List.mem_of_getElem? (i := 80) rfl)
theorem tw_1279 : (Jvm.Cond.instanceMethod ({ cls := "MarshBells$Held", name := "keepSeen", desc := "(II)V" } : Jvm.MethodName)) ∈ lw_tbl := tk_6 (List.mem_of_getElem? (i := 79) rfl)
theorem se_X3_keepSeen : Cond.selects RX3 yX3_keepSeen yX3_keepSeen ∈ lw_tbl := List.mem_append_left _ (List.mem_of_getElem? (i := 90) rfl)
theorem li_X11_313 : kLN RX11 313 RX3 yX3_keepSeen "MarshBells" cX3_keepSeen 3 none 2 := ⟨tw_1277, tw_1279, se_X3_keepSeen, tw_1280, tw_6, by decide +kernel⟩
theorem dX11_see_46 : decode cX11_see 46 = .ok (.invokevirtual 313, 3) := by decide +kernel
theorem dX11_see_49 : decode cX11_see 49 = .ok (.aload_n 0, 1) := by decide +kernel
theorem dX11_see_50 : decode cX11_see 50 = .ok (.getfield 41, 3) := by decide +kernel
theorem dX11_see_53 : decode cX11_see 53 = .ok (.getfield 149, 3) := by decide +kernel
theorem dX11_see_56 : decode cX11_see 56 = .ok (.ireturn, 1) := by decide +kernel
theorem dX11_forget_0 : decode cX11_forget 0 = .ok (.aload_n 0, 1) := by decide +kernel
theorem dX11_forget_1 : decode cX11_forget 1 = .ok (.getfield 41, 3) := by decide +kernel
theorem dX11_forget_4 : decode cX11_forget 4 = .ok (.iconst 0, 1) := by decide +kernel
theorem dX11_forget_5 : decode cX11_forget 5 = .ok (.putfield 149, 3) := by decide +kernel
theorem dX11_forget_8 : decode cX11_forget 8 = .ok (.return_, 1) := by decide +kernel
theorem tw_374 : (Jvm.Cond.fieldLinkNest "MarshBells" (319 : Nat) "MarshBells$Trials" "fitting" "I" "MarshBells") ∈ lw_tbl := tk_2 (List.mem_of_getElem? (i := 134) rfl)
theorem fl_X11_319 : kFN RX11 319 10 7 4 := ⟨RX10, TX10, rfl, by decide, inWX10, tw_374⟩
theorem tw_376 : (Jvm.Cond.fieldLinkNest "MarshBells" (322 : Nat) "MarshBells$Trials" "firstFitting" "I" "MarshBells") ∈ lw_tbl := tk_2 (List.mem_of_getElem? (i := 136) rfl)
theorem fl_X11_322 : kFN RX11 322 10 7 5 := ⟨RX10, TX10, rfl, by decide, inWX10, tw_376⟩
theorem tw_378 : (Jvm.Cond.fieldLinkNest "MarshBells" (325 : Nat) "MarshBells$Trials" "surely" "I" "MarshBells") ∈ lw_tbl := tk_2 (List.mem_of_getElem? (i := 138) rfl)
theorem fl_X11_325 : kFN RX11 325 10 7 6 := ⟨RX10, TX10, rfl, by decide, inWX10, tw_378⟩
theorem dX11_fits_0 : decode cX11_fits 0 = .ok (.iload_n 1, 1) := by decide +kernel
theorem dX11_fits_1 : decode cX11_fits 1 = .ok (.iconst 3, 1) := by decide +kernel
theorem dX11_fits_2 : decode cX11_fits 2 = .ok (.invokestatic 121, 3) := by decide +kernel
theorem dX11_fits_5 : decode cX11_fits 5 = .ok (.aload_n 0, 1) := by decide +kernel
theorem dX11_fits_6 : decode cX11_fits 6 = .ok (.getfield 62, 3) := by decide +kernel
theorem tw_1288 : (Jvm.Cond.methodLinkNest "MarshBells" (316 : Nat) ({ cls := "MarshBells$Trials", name := "findBeginners", desc := "()V" } : Jvm.MethodName) "MarshBells") ∈ lw_tbl := tk_6 (List.mem_of_getElem? (i := 88) rfl)
theorem tw_1291 : (Jvm.Cond.code ({ cls := "MarshBells$Trials", name := "findBeginners", desc := "()V" } : Jvm.MethodName) prog_12_method_18_code (4 : Nat) (Option.none : Option Jvm.ClassFile.FieldType)) ∈ lw_tbl := tk_6 (List.mem_of_getElem? (i := 91) rfl)
theorem tw_1290 : (Jvm.Cond.instanceMethod ({ cls := "MarshBells$Trials", name := "findBeginners", desc := "()V" } : Jvm.MethodName)) ∈ lw_tbl := tk_6 (List.mem_of_getElem? (i := 90) rfl)
theorem se_X10_findBeginners : Cond.selects RX10 yX10_findBeginners yX10_findBeginners ∈ lw_tbl := List.mem_append_left _ (List.mem_of_getElem? (i := 91) rfl)
theorem li_X11_316 : kLN RX11 316 RX10 yX10_findBeginners "MarshBells" cX10_findBeginners 4 none 0 := ⟨tw_1288, tw_1290, se_X10_findBeginners, tw_1291, tw_8, by decide +kernel⟩
theorem dX11_fits_9 : decode cX11_fits 9 = .ok (.invokevirtual 316, 3) := by decide +kernel
theorem dX11_fits_12 : decode cX11_fits 12 = .ok (.iload_n 1, 1) := by decide +kernel
theorem dX11_fits_13 : decode cX11_fits 13 = .ok (.lookupswitch 43 #[(0, 27), (1, 35)], 27) := by decide +kernel
theorem dX11_fits_40 : decode cX11_fits 40 = .ok (.aload_n 0, 1) := by decide +kernel
theorem dX11_fits_41 : decode cX11_fits 41 = .ok (.getfield 62, 3) := by decide +kernel
theorem dX11_fits_44 : decode cX11_fits 44 = .ok (.getfield 319, 3) := by decide +kernel
theorem dX11_fits_47 : decode cX11_fits 47 = .ok (.ireturn, 1) := by decide +kernel
theorem dX11_fits_48 : decode cX11_fits 48 = .ok (.aload_n 0, 1) := by decide +kernel
theorem dX11_fits_49 : decode cX11_fits 49 = .ok (.getfield 62, 3) := by decide +kernel
theorem dX11_fits_52 : decode cX11_fits 52 = .ok (.getfield 322, 3) := by decide +kernel
theorem dX11_fits_55 : decode cX11_fits 55 = .ok (.ireturn, 1) := by decide +kernel
theorem dX11_fits_56 : decode cX11_fits 56 = .ok (.aload_n 0, 1) := by decide +kernel
theorem dX11_fits_57 : decode cX11_fits 57 = .ok (.getfield 62, 3) := by decide +kernel
theorem dX11_fits_60 : decode cX11_fits 60 = .ok (.getfield 325, 3) := by decide +kernel
theorem dX11_fits_63 : decode cX11_fits 63 = .ok (.ireturn, 1) := by decide +kernel
theorem tw_497 : (Jvm.Cond.fieldLink "MarshBells" (83 : Nat) "MarshBells" "stairs" "LMarshBells$Stair;") ∈ lw_tbl := tk_3 (List.mem_of_getElem? (i := 17) rfl)
theorem fl_X11_83 : kFL RX11 83 11 17 12 := ⟨RX11, TX11, rfl, by decide, inWX11, tw_497⟩
theorem dX11_streams_0 : decode cX11_streams 0 = .ok (.aload_n 0, 1) := by decide +kernel
theorem dX11_streams_1 : decode cX11_streams 1 = .ok (.getfield 83, 3) := by decide +kernel
theorem tw_688 : (Jvm.Cond.methodLinkNest "MarshBells" (328 : Nat) ({ cls := "MarshBells$Stair", name := "gather", desc := "()V" } : Jvm.MethodName) "MarshBells") ∈ lw_tbl := tk_3 (List.mem_of_getElem? (i := 208) rfl)
theorem tw_691 : (Jvm.Cond.code ({ cls := "MarshBells$Stair", name := "gather", desc := "()V" } : Jvm.MethodName) prog_11_method_2_code (5 : Nat) (Option.none : Option Jvm.ClassFile.FieldType)) ∈ lw_tbl := tk_3 (List.mem_of_getElem? (i := 211) rfl)
theorem tw_690 : (Jvm.Cond.instanceMethod ({ cls := "MarshBells$Stair", name := "gather", desc := "()V" } : Jvm.MethodName)) ∈ lw_tbl := tk_3 (List.mem_of_getElem? (i := 210) rfl)
theorem se_X9_gather : Cond.selects RX9 yX9_gather yX9_gather ∈ lw_tbl := List.mem_append_left _ (List.mem_of_getElem? (i := 26) rfl)
theorem li_X11_328 : kLN RX11 328 RX9 yX9_gather "MarshBells" cX9_gather 5 none 0 := ⟨tw_688, tw_690, se_X9_gather, tw_691, tw_12, by decide +kernel⟩
theorem dX11_streams_4 : decode cX11_streams 4 = .ok (.invokevirtual 328, 3) := by decide +kernel
theorem dX11_streams_7 : decode cX11_streams 7 = .ok (.aload_n 0, 1) := by decide +kernel
theorem dX11_streams_8 : decode cX11_streams 8 = .ok (.getfield 83, 3) := by decide +kernel
theorem tw_702 : (Jvm.Cond.methodLinkNest "MarshBells" (331 : Nat) ({ cls := "MarshBells$Stair", name := "crossings", desc := "()I" } : Jvm.MethodName) "MarshBells") ∈ lw_tbl := tk_3 (List.mem_of_getElem? (i := 222) rfl)
theorem tw_705 : (Jvm.Cond.code ({ cls := "MarshBells$Stair", name := "crossings", desc := "()I" } : Jvm.MethodName) prog_11_method_4_code (5 : Nat) (Option.some Jvm.ClassFile.FieldType.int)) ∈ lw_tbl := tk_3 (List.mem_of_getElem? (i := 225) rfl)
theorem tw_704 : (Jvm.Cond.instanceMethod ({ cls := "MarshBells$Stair", name := "crossings", desc := "()I" } : Jvm.MethodName)) ∈ lw_tbl := tk_3 (List.mem_of_getElem? (i := 224) rfl)
theorem se_X9_crossings : Cond.selects RX9 yX9_crossings yX9_crossings ∈ lw_tbl := List.mem_append_left _ (List.mem_of_getElem? (i := 29) rfl)
theorem li_X11_331 : kLN RX11 331 RX9 yX9_crossings "MarshBells" cX9_crossings 5 (some .int) 0 := ⟨tw_702, tw_704, se_X9_crossings, tw_705, tw_12, by decide +kernel⟩
theorem dX11_streams_11 : decode cX11_streams 11 = .ok (.invokevirtual 331, 3) := by decide +kernel
theorem dX11_streams_14 : decode cX11_streams 14 = .ok (.ireturn, 1) := by decide +kernel
theorem dX11_term_0 : decode cX11_term 0 = .ok (.aload_n 0, 1) := by decide +kernel
theorem dX11_term_1 : decode cX11_term 1 = .ok (.iload_n 3, 1) := by decide +kernel
theorem dX11_term_2 : decode cX11_term 2 = .ok (.invokevirtual 156, 3) := by decide +kernel
theorem dX11_term_5 : decode cX11_term 5 = .ok (.iload 4, 2) := by decide +kernel
theorem dX11_term_7 : decode cX11_term 7 = .ok (.iconst 3, 1) := by decide +kernel
theorem dX11_term_8 : decode cX11_term 8 = .ok (.invokestatic 121, 3) := by decide +kernel
theorem dX11_term_11 : decode cX11_term 11 = .ok (.iload_n 2, 1) := by decide +kernel
theorem dX11_term_12 : decode cX11_term 12 = .ok (.iconst 0, 1) := by decide +kernel
theorem dX11_term_13 : decode cX11_term 13 = .ok (.bipush 60, 2) := by decide +kernel
theorem dX11_term_15 : decode cX11_term 15 = .ok (.invokestatic 243, 3) := by decide +kernel
theorem dX11_term_18 : decode cX11_term 18 = .ok (.aload_n 0, 1) := by decide +kernel
theorem dX11_term_19 : decode cX11_term 19 = .ok (.getfield 76, 3) := by decide +kernel
theorem dX11_term_22 : decode cX11_term 22 = .ok (.iload_n 1, 1) := by decide +kernel
theorem dX11_term_23 : decode cX11_term 23 = .ok (.iload_n 2, 1) := by decide +kernel
theorem dX11_term_24 : decode cX11_term 24 = .ok (.iload_n 3, 1) := by decide +kernel
theorem dX11_term_25 : decode cX11_term 25 = .ok (.iload 4, 2) := by decide +kernel
theorem tw_1308 : (Jvm.Cond.methodLinkNest "MarshBells" (334 : Nat) ({ cls := "MarshBells$Chances", name := "ofTerm", desc := "(IIII)I" } : Jvm.MethodName) "MarshBells") ∈ lw_tbl := tk_6 (List.mem_of_getElem? (i := 108) rfl)
theorem tw_1311 : (Jvm.Cond.code ({ cls := "MarshBells$Chances", name := "ofTerm", desc := "(IIII)I" } : Jvm.MethodName) prog_2_method_8_code (10 : Nat) (Option.some Jvm.ClassFile.FieldType.int)) ∈ lw_tbl := tk_6 (List.mem_of_getElem? (i := 111) rfl)
theorem tw_1310 : (Jvm.Cond.instanceMethod ({ cls := "MarshBells$Chances", name := "ofTerm", desc := "(IIII)I" } : Jvm.MethodName)) ∈ lw_tbl := tk_6 (List.mem_of_getElem? (i := 110) rfl)
theorem se_X0_ofTerm : Cond.selects RX0 yX0_ofTerm yX0_ofTerm ∈ lw_tbl := List.mem_append_left _ (List.mem_of_getElem? (i := 94) rfl)
theorem li_X11_334 : kLN RX11 334 RX0 yX0_ofTerm "MarshBells" cX0_ofTerm 10 (some .int) 4 := ⟨tw_1308, tw_1310, se_X0_ofTerm, tw_1311, tw_11, by decide +kernel⟩
theorem dX11_term_27 : decode cX11_term 27 = .ok (.invokevirtual 334, 3) := by decide +kernel
theorem dX11_term_30 : decode cX11_term 30 = .ok (.ireturn, 1) := by decide +kernel
theorem dX11_on_0 : decode cX11_on 0 = .ok (.iload_n 2, 1) := by decide +kernel
theorem dX11_on_1 : decode cX11_on 1 = .ok (.iconst 2, 1) := by decide +kernel
theorem dX11_on_2 : decode cX11_on 2 = .ok (.invokestatic 121, 3) := by decide +kernel
theorem dX11_on_5 : decode cX11_on 5 = .ok (.iload_n 1, 1) := by decide +kernel
theorem dX11_on_6 : decode cX11_on 6 = .ok (.iconst 0, 1) := by decide +kernel
theorem dX11_on_7 : decode cX11_on 7 = .ok (.sipush 4000, 3) := by decide +kernel
theorem dX11_on_10 : decode cX11_on 10 = .ok (.invokestatic 243, 3) := by decide +kernel
theorem dX11_on_13 : decode cX11_on 13 = .ok (.aload_n 0, 1) := by decide +kernel
theorem dX11_on_14 : decode cX11_on 14 = .ok (.getfield 83, 3) := by decide +kernel
theorem dX11_on_17 : decode cX11_on 17 = .ok (.invokevirtual 328, 3) := by decide +kernel
theorem dX11_on_20 : decode cX11_on 20 = .ok (.iload_n 2, 1) := by decide +kernel
theorem dX11_on_43 : decode cX11_on 43 = .ok (.ireturn, 1) := by decide +kernel
theorem dX11_on_21 : decode cX11_on 21 = .ok (.ifCond .ne 14, 3) := by decide +kernel
theorem dX11_on_35 : decode cX11_on 35 = .ok (.aload_n 0, 1) := by decide +kernel
theorem dX11_on_36 : decode cX11_on 36 = .ok (.getfield 83, 3) := by decide +kernel
theorem dX11_on_39 : decode cX11_on 39 = .ok (.iload_n 1, 1) := by decide +kernel
theorem tw_1334 : (Jvm.Cond.methodLinkNest "MarshBells" (341 : Nat) ({ cls := "MarshBells$Stair", name := "peopleIn", desc := "(I)I" } : Jvm.MethodName) "MarshBells") ∈ lw_tbl := tk_6 (List.mem_of_getElem? (i := 134) rfl)
theorem li_X11_341 : kLN RX11 341 RX9 yX9_peopleIn "MarshBells" cX9_peopleIn 4 (some .int) 1 := ⟨tw_1334, tw_1336, se_X9_peopleIn, tw_1337, tw_12, by decide +kernel⟩
theorem dX11_on_40 : decode cX11_on 40 = .ok (.invokevirtual 341, 3) := by decide +kernel
theorem dX11_on_24 : decode cX11_on 24 = .ok (.aload_n 0, 1) := by decide +kernel
theorem dX11_on_25 : decode cX11_on 25 = .ok (.getfield 53, 3) := by decide +kernel
theorem dX11_on_28 : decode cX11_on 28 = .ok (.iload_n 1, 1) := by decide +kernel
theorem tw_1330 : (Jvm.Cond.methodLinkNest "MarshBells" (338 : Nat) ({ cls := "MarshBells$Day", name := "onBits", desc := "(I)I" } : Jvm.MethodName) "MarshBells") ∈ lw_tbl := tk_6 (List.mem_of_getElem? (i := 130) rfl)
theorem tw_1333 : (Jvm.Cond.code ({ cls := "MarshBells$Day", name := "onBits", desc := "(I)I" } : Jvm.MethodName) prog_3_method_16_code (4 : Nat) (Option.some Jvm.ClassFile.FieldType.int)) ∈ lw_tbl := tk_6 (List.mem_of_getElem? (i := 133) rfl)
theorem tw_1332 : (Jvm.Cond.instanceMethod ({ cls := "MarshBells$Day", name := "onBits", desc := "(I)I" } : Jvm.MethodName)) ∈ lw_tbl := tk_6 (List.mem_of_getElem? (i := 132) rfl)
theorem se_X1_onBits : Cond.selects RX1 yX1_onBits yX1_onBits ∈ lw_tbl := List.mem_append_left _ (List.mem_of_getElem? (i := 97) rfl)
theorem li_X11_338 : kLN RX11 338 RX1 yX1_onBits "MarshBells" cX1_onBits 4 (some .int) 1 := ⟨tw_1330, tw_1332, se_X1_onBits, tw_1333, tw_7, by decide +kernel⟩
theorem dX11_on_29 : decode cX11_on 29 = .ok (.invokevirtual 338, 3) := by decide +kernel
theorem dX11_on_32 : decode cX11_on 32 = .ok (.goto 11, 3) := by decide +kernel
theorem dX11_clash_0 : decode cX11_clash 0 = .ok (.iload_n 1, 1) := by decide +kernel
theorem dX11_clash_1 : decode cX11_clash 1 = .ok (.iconst 2, 1) := by decide +kernel
theorem dX11_clash_2 : decode cX11_clash 2 = .ok (.invokestatic 121, 3) := by decide +kernel
theorem dX11_clash_5 : decode cX11_clash 5 = .ok (.aload_n 0, 1) := by decide +kernel
theorem dX11_clash_6 : decode cX11_clash 6 = .ok (.getfield 53, 3) := by decide +kernel
theorem dX11_clash_9 : decode cX11_clash 9 = .ok (.iconst 0, 1) := by decide +kernel
theorem dX11_clash_10 : decode cX11_clash 10 = .ok (.invokevirtual 201, 3) := by decide +kernel
theorem dX11_clash_13 : decode cX11_clash 13 = .ok (.iload_n 1, 1) := by decide +kernel
theorem dX11_clash_34 : decode cX11_clash 34 = .ok (.ireturn, 1) := by decide +kernel
theorem dX11_clash_14 : decode cX11_clash 14 = .ok (.ifCond .ne 13, 3) := by decide +kernel
theorem dX11_clash_27 : decode cX11_clash 27 = .ok (.aload_n 0, 1) := by decide +kernel
theorem dX11_clash_28 : decode cX11_clash 28 = .ok (.getfield 53, 3) := by decide +kernel
theorem tw_1353 : (Jvm.Cond.methodLinkNest "MarshBells" (347 : Nat) ({ cls := "MarshBells$Day", name := "firstClash", desc := "()I" } : Jvm.MethodName) "MarshBells") ∈ lw_tbl := tk_6 (List.mem_of_getElem? (i := 153) rfl)
theorem tw_1356 : (Jvm.Cond.code ({ cls := "MarshBells$Day", name := "firstClash", desc := "()I" } : Jvm.MethodName) prog_3_method_19_code (5 : Nat) (Option.some Jvm.ClassFile.FieldType.int)) ∈ lw_tbl := tk_6 (List.mem_of_getElem? (i := 156) rfl)
theorem tw_1355 : (Jvm.Cond.instanceMethod ({ cls := "MarshBells$Day", name := "firstClash", desc := "()I" } : Jvm.MethodName)) ∈ lw_tbl := tk_6 (List.mem_of_getElem? (i := 155) rfl)
theorem se_X1_firstClash : Cond.selects RX1 yX1_firstClash yX1_firstClash ∈ lw_tbl := List.mem_append_left _ (List.mem_of_getElem? (i := 101) rfl)
theorem li_X11_347 : kLN RX11 347 RX1 yX1_firstClash "MarshBells" cX1_firstClash 5 (some .int) 0 := ⟨tw_1353, tw_1355, se_X1_firstClash, tw_1356, tw_7, by decide +kernel⟩
theorem dX11_clash_31 : decode cX11_clash 31 = .ok (.invokevirtual 347, 3) := by decide +kernel
theorem dX11_clash_17 : decode cX11_clash 17 = .ok (.aload_n 0, 1) := by decide +kernel
theorem dX11_clash_18 : decode cX11_clash 18 = .ok (.getfield 53, 3) := by decide +kernel
theorem tw_1345 : (Jvm.Cond.methodLinkNest "MarshBells" (344 : Nat) ({ cls := "MarshBells$Day", name := "clashes", desc := "()I" } : Jvm.MethodName) "MarshBells") ∈ lw_tbl := tk_6 (List.mem_of_getElem? (i := 145) rfl)
theorem tw_1348 : (Jvm.Cond.code ({ cls := "MarshBells$Day", name := "clashes", desc := "()I" } : Jvm.MethodName) prog_3_method_18_code (4 : Nat) (Option.some Jvm.ClassFile.FieldType.int)) ∈ lw_tbl := tk_6 (List.mem_of_getElem? (i := 148) rfl)
theorem tw_1347 : (Jvm.Cond.instanceMethod ({ cls := "MarshBells$Day", name := "clashes", desc := "()I" } : Jvm.MethodName)) ∈ lw_tbl := tk_6 (List.mem_of_getElem? (i := 147) rfl)
theorem se_X1_clashes : Cond.selects RX1 yX1_clashes yX1_clashes ∈ lw_tbl := List.mem_append_left _ (List.mem_of_getElem? (i := 99) rfl)
theorem li_X11_344 : kLN RX11 344 RX1 yX1_clashes "MarshBells" cX1_clashes 4 (some .int) 0 := ⟨tw_1345, tw_1347, se_X1_clashes, tw_1348, tw_7, by decide +kernel⟩
theorem dX11_clash_21 : decode cX11_clash 21 = .ok (.invokevirtual 344, 3) := by decide +kernel
theorem dX11_clash_24 : decode cX11_clash 24 = .ok (.goto 10, 3) := by decide +kernel
theorem dX11_busiest_0 : decode cX11_busiest 0 = .ok (.iload_n 1, 1) := by decide +kernel
theorem dX11_busiest_1 : decode cX11_busiest 1 = .ok (.iconst 2, 1) := by decide +kernel
theorem dX11_busiest_2 : decode cX11_busiest 2 = .ok (.invokestatic 121, 3) := by decide +kernel
theorem dX11_busiest_5 : decode cX11_busiest 5 = .ok (.aload_n 0, 1) := by decide +kernel
theorem dX11_busiest_6 : decode cX11_busiest 6 = .ok (.getfield 83, 3) := by decide +kernel
theorem dX11_busiest_9 : decode cX11_busiest 9 = .ok (.invokevirtual 328, 3) := by decide +kernel
theorem dX11_busiest_12 : decode cX11_busiest 12 = .ok (.aload_n 0, 1) := by decide +kernel
theorem dX11_busiest_13 : decode cX11_busiest 13 = .ok (.getfield 83, 3) := by decide +kernel
theorem tw_1364 : (Jvm.Cond.methodLinkNest "MarshBells" (350 : Nat) ({ cls := "MarshBells$Stair", name := "busiestMinute", desc := "()I" } : Jvm.MethodName) "MarshBells") ∈ lw_tbl := tk_6 (List.mem_of_getElem? (i := 164) rfl)
theorem tw_1367 : (Jvm.Cond.code ({ cls := "MarshBells$Stair", name := "busiestMinute", desc := "()I" } : Jvm.MethodName) prog_11_method_6_code (5 : Nat) (Option.some Jvm.ClassFile.FieldType.int)) ∈ lw_tbl := tk_6 (List.mem_of_getElem? (i := 167) rfl)
theorem tw_1366 : (Jvm.Cond.instanceMethod ({ cls := "MarshBells$Stair", name := "busiestMinute", desc := "()I" } : Jvm.MethodName)) ∈ lw_tbl := tk_6 (List.mem_of_getElem? (i := 166) rfl)
theorem se_X9_busiestMinute : Cond.selects RX9 yX9_busiestMinute yX9_busiestMinute ∈ lw_tbl := List.mem_append_left _ (List.mem_of_getElem? (i := 102) rfl)
theorem li_X11_350 : kLN RX11 350 RX9 yX9_busiestMinute "MarshBells" cX9_busiestMinute 5 (some .int) 0 := ⟨tw_1364, tw_1366, se_X9_busiestMinute, tw_1367, tw_12, by decide +kernel⟩
theorem dX11_busiest_16 : decode cX11_busiest 16 = .ok (.invokevirtual 350, 3) := by decide +kernel
theorem dX11_busiest_19 : decode cX11_busiest 19 = .ok (.istore_n 2, 1) := by decide +kernel
theorem dX11_busiest_20 : decode cX11_busiest 20 = .ok (.iload_n 1, 1) := by decide +kernel
theorem dX11_busiest_21 : decode cX11_busiest 21 = .ok (.iconst 1, 1) := by decide +kernel
theorem dX11_busiest_22 : decode cX11_busiest 22 = .ok (.if_icmp .ne 5, 3) := by decide +kernel
theorem dX11_busiest_27 : decode cX11_busiest 27 = .ok (.iload_n 2, 1) := by decide +kernel
theorem dX11_busiest_28 : decode cX11_busiest 28 = .ok (.iconst (-1), 1) := by decide +kernel
theorem dX11_busiest_44 : decode cX11_busiest 44 = .ok (.ireturn, 1) := by decide +kernel
theorem dX11_busiest_29 : decode cX11_busiest 29 = .ok (.if_icmp .ne 7, 3) := by decide +kernel
theorem dX11_busiest_36 : decode cX11_busiest 36 = .ok (.aload_n 0, 1) := by decide +kernel
theorem dX11_busiest_37 : decode cX11_busiest 37 = .ok (.getfield 83, 3) := by decide +kernel
theorem dX11_busiest_40 : decode cX11_busiest 40 = .ok (.iload_n 2, 1) := by decide +kernel
theorem dX11_busiest_41 : decode cX11_busiest 41 = .ok (.invokevirtual 341, 3) := by decide +kernel
theorem dX11_busiest_32 : decode cX11_busiest 32 = .ok (.iconst 0, 1) := by decide +kernel
theorem dX11_busiest_33 : decode cX11_busiest 33 = .ok (.goto 11, 3) := by decide +kernel
theorem dX11_busiest_25 : decode cX11_busiest 25 = .ok (.iload_n 2, 1) := by decide +kernel
theorem dX11_busiest_26 : decode cX11_busiest 26 = .ok (.ireturn, 1) := by decide +kernel
theorem dX11_idle_0 : decode cX11_idle 0 = .ok (.aload_n 0, 1) := by decide +kernel
theorem dX11_idle_1 : decode cX11_idle 1 = .ok (.getfield 53, 3) := by decide +kernel
theorem dX11_idle_4 : decode cX11_idle 4 = .ok (.iconst 0, 1) := by decide +kernel
theorem dX11_idle_5 : decode cX11_idle 5 = .ok (.invokevirtual 201, 3) := by decide +kernel
theorem dX11_idle_8 : decode cX11_idle 8 = .ok (.aload_n 0, 1) := by decide +kernel
theorem dX11_idle_9 : decode cX11_idle 9 = .ok (.getfield 53, 3) := by decide +kernel
theorem tw_713 : (Jvm.Cond.methodLinkNest "MarshBells" (353 : Nat) ({ cls := "MarshBells$Day", name := "idleMinutes", desc := "()I" } : Jvm.MethodName) "MarshBells") ∈ lw_tbl := tk_3 (List.mem_of_getElem? (i := 233) rfl)
theorem tw_716 : (Jvm.Cond.code ({ cls := "MarshBells$Day", name := "idleMinutes", desc := "()I" } : Jvm.MethodName) prog_3_method_20_code (7 : Nat) (Option.some Jvm.ClassFile.FieldType.int)) ∈ lw_tbl := tk_3 (List.mem_of_getElem? (i := 236) rfl)
theorem tw_715 : (Jvm.Cond.instanceMethod ({ cls := "MarshBells$Day", name := "idleMinutes", desc := "()I" } : Jvm.MethodName)) ∈ lw_tbl := tk_3 (List.mem_of_getElem? (i := 235) rfl)
theorem se_X1_idleMinutes : Cond.selects RX1 yX1_idleMinutes yX1_idleMinutes ∈ lw_tbl := List.mem_append_left _ (List.mem_of_getElem? (i := 30) rfl)
theorem li_X11_353 : kLN RX11 353 RX1 yX1_idleMinutes "MarshBells" cX1_idleMinutes 7 (some .int) 0 := ⟨tw_713, tw_715, se_X1_idleMinutes, tw_716, tw_7, by decide +kernel⟩
theorem dX11_idle_12 : decode cX11_idle 12 = .ok (.invokevirtual 353, 3) := by decide +kernel
theorem dX11_idle_15 : decode cX11_idle 15 = .ok (.ireturn, 1) := by decide +kernel
theorem dX11_shift_0 : decode cX11_shift 0 = .ok (.aload_n 0, 1) := by decide +kernel
theorem dX11_shift_1 : decode cX11_shift 1 = .ok (.iload_n 1, 1) := by decide +kernel
theorem dX11_shift_2 : decode cX11_shift 2 = .ok (.invokevirtual 156, 3) := by decide +kernel
theorem dX11_shift_5 : decode cX11_shift 5 = .ok (.iload_n 2, 1) := by decide +kernel
theorem dX11_shift_6 : decode cX11_shift 6 = .ok (.iconst 2, 1) := by decide +kernel
theorem dX11_shift_7 : decode cX11_shift 7 = .ok (.invokestatic 121, 3) := by decide +kernel
theorem dX11_shift_10 : decode cX11_shift 10 = .ok (.aload_n 0, 1) := by decide +kernel
theorem dX11_shift_11 : decode cX11_shift 11 = .ok (.getfield 62, 3) := by decide +kernel
theorem dX11_shift_14 : decode cX11_shift 14 = .ok (.iload_n 1, 1) := by decide +kernel
theorem dX11_shift_15 : decode cX11_shift 15 = .ok (.iload_n 2, 1) := by decide +kernel
theorem tw_1376 : (Jvm.Cond.methodLinkNest "MarshBells" (356 : Nat) ({ cls := "MarshBells$Trials", name := "leastByShift", desc := "(II)I" } : Jvm.MethodName) "MarshBells") ∈ lw_tbl := tk_6 (List.mem_of_getElem? (i := 176) rfl)
theorem tw_1379 : (Jvm.Cond.code ({ cls := "MarshBells$Trials", name := "leastByShift", desc := "(II)I" } : Jvm.MethodName) prog_12_method_21_code (7 : Nat) (Option.some Jvm.ClassFile.FieldType.int)) ∈ lw_tbl := tk_6 (List.mem_of_getElem? (i := 179) rfl)
theorem tw_1378 : (Jvm.Cond.instanceMethod ({ cls := "MarshBells$Trials", name := "leastByShift", desc := "(II)I" } : Jvm.MethodName)) ∈ lw_tbl := tk_6 (List.mem_of_getElem? (i := 178) rfl)
theorem se_X10_leastByShift : Cond.selects RX10 yX10_leastByShift yX10_leastByShift ∈ lw_tbl := List.mem_append_left _ (List.mem_of_getElem? (i := 103) rfl)
theorem li_X11_356 : kLN RX11 356 RX10 yX10_leastByShift "MarshBells" cX10_leastByShift 7 (some .int) 2 := ⟨tw_1376, tw_1378, se_X10_leastByShift, tw_1379, tw_8, by decide +kernel⟩
theorem dX11_shift_16 : decode cX11_shift 16 = .ok (.invokevirtual 356, 3) := by decide +kernel
theorem dX11_shift_19 : decode cX11_shift 19 = .ok (.ireturn, 1) := by decide +kernel
theorem dX11_harm_0 : decode cX11_harm 0 = .ok (.aload_n 0, 1) := by decide +kernel
theorem dX11_harm_1 : decode cX11_harm 1 = .ok (.iload_n 1, 1) := by decide +kernel
theorem dX11_harm_2 : decode cX11_harm 2 = .ok (.invokevirtual 156, 3) := by decide +kernel
theorem dX11_harm_5 : decode cX11_harm 5 = .ok (.aload_n 0, 1) := by decide +kernel
theorem dX11_harm_6 : decode cX11_harm 6 = .ok (.iload_n 2, 1) := by decide +kernel
theorem dX11_harm_7 : decode cX11_harm 7 = .ok (.invokevirtual 156, 3) := by decide +kernel
theorem dX11_harm_10 : decode cX11_harm 10 = .ok (.aload_n 0, 1) := by decide +kernel
theorem dX11_harm_11 : decode cX11_harm 11 = .ok (.getfield 62, 3) := by decide +kernel
theorem dX11_harm_14 : decode cX11_harm 14 = .ok (.iload_n 1, 1) := by decide +kernel
theorem dX11_harm_15 : decode cX11_harm 15 = .ok (.iload_n 2, 1) := by decide +kernel
theorem tw_1387 : (Jvm.Cond.methodLinkNest "MarshBells" (359 : Nat) ({ cls := "MarshBells$Trials", name := "harmDone", desc := "(II)I" } : Jvm.MethodName) "MarshBells") ∈ lw_tbl := tk_6 (List.mem_of_getElem? (i := 187) rfl)
theorem tw_1390 : (Jvm.Cond.code ({ cls := "MarshBells$Trials", name := "harmDone", desc := "(II)I" } : Jvm.MethodName) prog_12_method_22_code (5 : Nat) (Option.some Jvm.ClassFile.FieldType.int)) ∈ lw_tbl := tk_6 (List.mem_of_getElem? (i := 190) rfl)
theorem tw_1389 : (Jvm.Cond.instanceMethod ({ cls := "MarshBells$Trials", name := "harmDone", desc := "(II)I" } : Jvm.MethodName)) ∈ lw_tbl := tk_6 (List.mem_of_getElem? (i := 189) rfl)
theorem se_X10_harmDone : Cond.selects RX10 yX10_harmDone yX10_harmDone ∈ lw_tbl := List.mem_append_left _ (List.mem_of_getElem? (i := 104) rfl)
theorem li_X11_359 : kLN RX11 359 RX10 yX10_harmDone "MarshBells" cX10_harmDone 5 (some .int) 2 := ⟨tw_1387, tw_1389, se_X10_harmDone, tw_1390, tw_8, by decide +kernel⟩
theorem dX11_harm_16 : decode cX11_harm 16 = .ok (.invokevirtual 359, 3) := by decide +kernel
theorem dX11_harm_19 : decode cX11_harm 19 = .ok (.ireturn, 1) := by decide +kernel
theorem dX11_pair_0 : decode cX11_pair 0 = .ok (.iload_n 1, 1) := by decide +kernel
theorem dX11_pair_1 : decode cX11_pair 1 = .ok (.iconst 2, 1) := by decide +kernel
theorem dX11_pair_2 : decode cX11_pair 2 = .ok (.invokestatic 121, 3) := by decide +kernel
theorem dX11_pair_5 : decode cX11_pair 5 = .ok (.aload_n 0, 1) := by decide +kernel
theorem dX11_pair_6 : decode cX11_pair 6 = .ok (.getfield 62, 3) := by decide +kernel
theorem dX11_pair_9 : decode cX11_pair 9 = .ok (.iload_n 1, 1) := by decide +kernel
theorem tw_1398 : (Jvm.Cond.methodLinkNest "MarshBells" (362 : Nat) ({ cls := "MarshBells$Trials", name := "withoutTwo", desc := "(I)I" } : Jvm.MethodName) "MarshBells") ∈ lw_tbl := tk_6 (List.mem_of_getElem? (i := 198) rfl)
theorem tw_1401 : (Jvm.Cond.code ({ cls := "MarshBells$Trials", name := "withoutTwo", desc := "(I)I" } : Jvm.MethodName) prog_12_method_13_code (4 : Nat) (Option.some Jvm.ClassFile.FieldType.int)) ∈ lw_tbl := tk_6 (List.mem_of_getElem? (i := 201) rfl)
theorem tw_1400 : (Jvm.Cond.instanceMethod ({ cls := "MarshBells$Trials", name := "withoutTwo", desc := "(I)I" } : Jvm.MethodName)) ∈ lw_tbl := tk_6 (List.mem_of_getElem? (i := 200) rfl)
theorem se_X10_withoutTwo : Cond.selects RX10 yX10_withoutTwo yX10_withoutTwo ∈ lw_tbl := List.mem_append_left _ (List.mem_of_getElem? (i := 105) rfl)
theorem li_X11_362 : kLN RX11 362 RX10 yX10_withoutTwo "MarshBells" cX10_withoutTwo 4 (some .int) 1 := ⟨tw_1398, tw_1400, se_X10_withoutTwo, tw_1401, tw_8, by decide +kernel⟩
theorem dX11_pair_10 : decode cX11_pair 10 = .ok (.invokevirtual 362, 3) := by decide +kernel
theorem dX11_pair_13 : decode cX11_pair 13 = .ok (.ireturn, 1) := by decide +kernel
theorem dX11_pause_0 : decode cX11_pause 0 = .ok (.iload_n 2, 1) := by decide +kernel
theorem dX11_pause_1 : decode cX11_pause 1 = .ok (.iconst 2, 1) := by decide +kernel
theorem dX11_pause_2 : decode cX11_pause 2 = .ok (.invokestatic 121, 3) := by decide +kernel
theorem dX11_pause_5 : decode cX11_pause 5 = .ok (.iload_n 1, 1) := by decide +kernel
theorem dX11_pause_6 : decode cX11_pause 6 = .ok (.iconst 1, 1) := by decide +kernel
theorem dX11_pause_7 : decode cX11_pause 7 = .ok (.bipush 30, 2) := by decide +kernel
theorem dX11_pause_9 : decode cX11_pause 9 = .ok (.invokestatic 243, 3) := by decide +kernel
theorem dX11_pause_12 : decode cX11_pause 12 = .ok (.aload_n 0, 1) := by decide +kernel
theorem dX11_pause_13 : decode cX11_pause 13 = .ok (.getfield 62, 3) := by decide +kernel
theorem dX11_pause_16 : decode cX11_pause 16 = .ok (.iload_n 1, 1) := by decide +kernel
theorem dX11_pause_17 : decode cX11_pause 17 = .ok (.iload_n 2, 1) := by decide +kernel
theorem tw_1409 : (Jvm.Cond.methodLinkNest "MarshBells" (365 : Nat) ({ cls := "MarshBells$Trials", name := "leastByPause", desc := "(II)I" } : Jvm.MethodName) "MarshBells") ∈ lw_tbl := tk_6 (List.mem_of_getElem? (i := 209) rfl)
theorem tw_1412 : (Jvm.Cond.code ({ cls := "MarshBells$Trials", name := "leastByPause", desc := "(II)I" } : Jvm.MethodName) prog_12_method_23_code (5 : Nat) (Option.some Jvm.ClassFile.FieldType.int)) ∈ lw_tbl := tk_6 (List.mem_of_getElem? (i := 212) rfl)
theorem tw_1411 : (Jvm.Cond.instanceMethod ({ cls := "MarshBells$Trials", name := "leastByPause", desc := "(II)I" } : Jvm.MethodName)) ∈ lw_tbl := tk_6 (List.mem_of_getElem? (i := 211) rfl)
theorem se_X10_leastByPause : Cond.selects RX10 yX10_leastByPause yX10_leastByPause ∈ lw_tbl := List.mem_append_left _ (List.mem_of_getElem? (i := 106) rfl)
theorem li_X11_365 : kLN RX11 365 RX10 yX10_leastByPause "MarshBells" cX10_leastByPause 5 (some .int) 2 := ⟨tw_1409, tw_1411, se_X10_leastByPause, tw_1412, tw_8, by decide +kernel⟩
theorem dX11_pause_18 : decode cX11_pause 18 = .ok (.invokevirtual 365, 3) := by decide +kernel
theorem dX11_pause_21 : decode cX11_pause 21 = .ok (.ireturn, 1) := by decide +kernel
theorem tw_492 : (Jvm.Cond.fieldLink "MarshBells" (45 : Nat) "MarshBells" "kept" "LMarshBells$Held;") ∈ lw_tbl := tk_3 (List.mem_of_getElem? (i := 12) rfl)
theorem fl_X11_45 : kFL RX11 45 11 17 7 := ⟨RX11, TX11, rfl, by decide, inWX11, tw_492⟩
theorem dX11_image_0 : decode cX11_image 0 = .ok (.aload_n 0, 1) := by decide +kernel
theorem dX11_image_1 : decode cX11_image 1 = .ok (.getfield 45, 3) := by decide +kernel
theorem dX11_image_4 : decode cX11_image 4 = .ok (.aload_n 0, 1) := by decide +kernel
theorem dX11_image_5 : decode cX11_image 5 = .ok (.getfield 41, 3) := by decide +kernel
theorem tw_721 : (Jvm.Cond.methodLinkNest "MarshBells" (368 : Nat) ({ cls := "MarshBells$Held", name := "copy", desc := "(LMarshBells$Held;)V" } : Jvm.MethodName) "MarshBells") ∈ lw_tbl := tk_4 (List.mem_of_getElem? (i := 1) rfl)
theorem tw_724 : (Jvm.Cond.code ({ cls := "MarshBells$Held", name := "copy", desc := "(LMarshBells$Held;)V" } : Jvm.MethodName) prog_5_method_3_code (2 : Nat) (Option.none : Option Jvm.ClassFile.FieldType)) ∈ lw_tbl := tk_4 (List.mem_of_getElem? (i := 4) rfl)
theorem tw_723 : (Jvm.Cond.instanceMethod ({ cls := "MarshBells$Held", name := "copy", desc := "(LMarshBells$Held;)V" } : Jvm.MethodName)) ∈ lw_tbl := tk_4 (List.mem_of_getElem? (i := 3) rfl)
theorem se_X3_copy : Cond.selects RX3 yX3_copy yX3_copy ∈ lw_tbl := List.mem_append_left _ (List.mem_of_getElem? (i := 31) rfl)
theorem li_X11_368 : kLN RX11 368 RX3 yX3_copy "MarshBells" cX3_copy 2 none 1 := ⟨tw_721, tw_723, se_X3_copy, tw_724, tw_6, by decide +kernel⟩
theorem dX11_image_8 : decode cX11_image 8 = .ok (.invokevirtual 368, 3) := by decide +kernel
theorem dX11_image_11 : decode cX11_image 11 = .ok (.aload_n 0, 1) := by decide +kernel
theorem dX11_image_12 : decode cX11_image 12 = .ok (.iconst 1, 1) := by decide +kernel
theorem dX11_image_13 : decode cX11_image 13 = .ok (.putfield 94, 3) := by decide +kernel
theorem dX11_image_16 : decode cX11_image 16 = .ok (.return_, 1) := by decide +kernel
theorem dX11_restore_0 : decode cX11_restore 0 = .ok (.aload_n 0, 1) := by decide +kernel
theorem dX11_restore_1 : decode cX11_restore 1 = .ok (.getfield 94, 3) := by decide +kernel
theorem dX11_restore_4 : decode cX11_restore 4 = .ok (.ifCond .ne 5, 3) := by decide +kernel
theorem dX11_restore_9 : decode cX11_restore 9 = .ok (.aload_n 0, 1) := by decide +kernel
theorem dX11_restore_10 : decode cX11_restore 10 = .ok (.getfield 41, 3) := by decide +kernel
theorem dX11_restore_13 : decode cX11_restore 13 = .ok (.aload_n 0, 1) := by decide +kernel
theorem dX11_restore_14 : decode cX11_restore 14 = .ok (.getfield 45, 3) := by decide +kernel
theorem dX11_restore_17 : decode cX11_restore 17 = .ok (.invokevirtual 368, 3) := by decide +kernel
theorem dX11_restore_20 : decode cX11_restore 20 = .ok (.iconst 1, 1) := by decide +kernel
theorem dX11_restore_21 : decode cX11_restore 21 = .ok (.ireturn, 1) := by decide +kernel
theorem dX11_restore_7 : decode cX11_restore 7 = .ok (.iconst 0, 1) := by decide +kernel
theorem dX11_restore_8 : decode cX11_restore 8 = .ok (.ireturn, 1) := by decide +kernel
def fX11_put_0_p45 (fu : Nat) (k3 : Int32 × (Nat → Nat → Int32) × (Nat → Nat → Int64) → Option ((Unit) × zS)) (v1 : Int32) (v2 : Int32) (g : Nat → Nat → Int32) (L : Nat → Nat → Int64) : Option ((Unit) × zS) :=
  k3 ((v2 + (-8)), g, L)
def fX11_put_0_s3 (fu : Nat) (v1 : Int32) (k3 : Int32 × (Nat → Nat → Int32) × (Nat → Nat → Int64) → Option ((Unit) × zS)) (v2 : Int32) (g : Nat → Nat → Int32) (L : Nat → Nat → Int64) : Option ((Unit) × zS) :=
  if v2 < 0 then some ((), (g, L))
  else if 700 ≤ (g 0 13) then fX11_put_0_p45 fu k3 v1 v2 g L
  else ck (g 0 13) 700 (sti g 14 (Int32.toNatClampNeg (g 0 13)) ((Int32.toUInt32 v1 >>> (Int32.toUInt32 v2 &&& Int32.toUInt32 31)).toInt32 &&& 255) (fun g3 =>
  sti g3 0 13 ((g3 0 13) + 1) (fun g4 =>
  fX11_put_0_p45 fu k3 v1 v2 g4 L)))
def fX11_put_0_l3 (fu : Nat) (v1 : Int32) (v2 : Int32) (g : Nat → Nat → Int32) (L : Nat → Nat → Int64) : Option ((Unit) × zS) :=
  whileK (fun k v => fX11_put_0_s3 fu v1 k v.1 v.2.1 v.2.2) fu (v2, g, L)
def fX11_put_0 (fu : Nat) (p1 : Int32) (g : Nat → Nat → Int32) (L : Nat → Nat → Int64) : Option ((Unit) × zS) :=
  fX11_put_0_l3 fu p1 24 g L
set_option maxHeartbeats 4000000 in
set_option maxRecDepth 100000 in
theorem rX11_put_0 (l : Launch) (G : kG) (sz : Nat) (b : Nat) (a : Nat → Nat) (fu : Nat) (g : Nat → Nat → Int32) (L : Nat → Nat → Int64) (p1 : Int32) (res : Unit) (s9 : zS) (h : fX11_put_0 fu p1 g L = some (res, s9)) : kM l yX11_put cX11_put 3 none { frames := 6, cells := 0, slots := 0, locals := 110 } G [.ref (a 0), .int p1] (zw G (XS b) 105 a g L) sz (kQv G (S := Unit) (fun _ => True) (fun _ => zw G (XS b) 105 a s9.1 s9.2)) := by
  refine kM.of (by decide) (Nat.le_of_ble_eq_true rfl) ?_
  intro p e s m below meth c A ls H C hr hlk hnm hP hD hS hl
  have C : kC G p s m c cX11_put 3 RX11 A := C
  have hx := C.1
  have hb := C.2.1
  have hl : lv_has ls 3 [(0, .ref (a 0)), (1, .int p1)] := hl
  obtain ⟨locs, hlocs⟩ : ∃ q : List Loc, q = [] := ⟨_, rfl⟩
  rw [← hlocs] at hS
  rw [← hlocs]
  unfold fX11_put_0 at h
  refine lv_bipush (v := 24) hx hb dX11_put_0 (by decide) ?_
  refine lv_istore_n (lv' := [(2, .int 24), (0, .ref (a 0)), (1, .int p1)]) hx hb dX11_put_2 rfl hl (by decide) rfl (fun ls hl => ?_)
  have lp3 : ∀ (v1 : Int32), ∀ (n : Nat) (v : Int32 × (Nat → Nat → Int32) × (Nat → Nat → Int64)), whileK (fun k v => fX11_put_0_s3 fu v1 k v.1 v.2.1 v.2.2) n v = some (res, s9) → ∀ (H : Heap) (locs : List Loc) (ls : Array Slot), va_P G.1 vwCl (zw G (XS b) 105 a (v.2.1) (v.2.2)) H → va_D A (zw G (XS b) 105 a (v.2.1) (v.2.2)) → va_S A s.heap H locs → lv_has ls 3 [(0, .ref (a 0)), (1, .int v1), (2, .int (v.1))] → W p l e { frames := 6, cells := 0, slots := 0, locals := 110 } s m [.ref (a 0), .int p1].toArray below meth c H locs 0 0 (MQ below ((kQv G (S := Unit) (fun _ => True) (fun _ => zw G (XS b) 105 a s9.1 s9.2)) A) [.ref (a 0), .int p1].toArray s 0 0 A) (F0 m 3 ls []) := by
    intro v1
    refine while_ind (fun k3 ih3 v h => ?_)
    obtain ⟨v2, g, L⟩ := v
    intro H locs ls hP hD hS hl
    have h : fX11_put_0_s3 fu v1 k3 v2 g L = some (res, s9) := h
    have hP : va_P G.1 vwCl (zw G (XS b) 105 a g L) H := hP
    have hD : va_D A (zw G (XS b) 105 a g L) := hD
    have hl : lv_has ls 3 [(0, .ref (a 0)), (1, .int v1), (2, .int v2)] := hl
    show W p l e { frames := 6, cells := 0, slots := 0, locals := 110 } s m [.ref (a 0), .int p1].toArray below meth c H locs 0 0 (MQ below ((kQv G (S := Unit) (fun _ => True) (fun _ => zw G (XS b) 105 a s9.1 s9.2)) A) [.ref (a 0), .int p1].toArray s 0 0 A) (F0 m 3 ls [])
    unfold fX11_put_0_s3 at h
    refine lv_iload_n hx hb dX11_put_3 rfl (lv_at hl 2 rfl) ?_
    refine lv_if_lt (x := v2) (tgt := 51) hx hb dX11_put_4 (by decide) (fun c1 => ?_) (fun c1 => ?_)
    ·
      have h := ite_t c1 h
      exact y_vret C hr hlk hP hD hS h (Nat.le_of_ble_eq_true rfl) (Nat.le_of_ble_eq_true rfl) dX11_put_51
    ·
      have h := ite_e c1 h
      refine lv_aload_n hx hb dX11_put_7 rfl (lv_at hl 0 rfl) ?_
      refine x_getv (v := .int (g 0 13)) (Or.inl fl_X11_87) C hP (by decide) xs_0 rfl dX11_put_8 ?_
      refine lv_aload_n hx hb dX11_put_11 rfl (lv_at hl 0 rfl) ?_
      refine x_getr (Or.inl fl_X11_9) C hP (by decide) xs_0 rfl dX11_put_12 ?_
      refine x_alen (v := 700) C hP (by decide) xs_14 rfl dX11_put_15 ?_
      have J45 : ∀ (v2 : Int32) (g : Nat → Nat → Int32) (L : Nat → Nat → Int64) (H : Heap) (locs : List Loc) (ls : Array Slot), fX11_put_0_p45 fu k3 v1 v2 g L = some (res, s9) → va_P G.1 vwCl (zw G (XS b) 105 a g L) H → va_D A (zw G (XS b) 105 a g L) → va_S A s.heap H locs → lv_has ls 3 [(0, .ref (a 0)), (1, .int v1), (2, .int v2)] → W p l e { frames := 6, cells := 0, slots := 0, locals := 110 } s m [.ref (a 0), .int p1].toArray below meth c H locs 0 0 (MQ below ((kQv G (S := Unit) (fun _ => True) (fun _ => zw G (XS b) 105 a s9.1 s9.2)) A) [.ref (a 0), .int p1].toArray s 0 0 A) (F0 m 45 ls []) := by
        intro v2 g L H locs ls h hP hD hS hl
        unfold fX11_put_0_p45 at h
        refine lv_iinc (v := (v2 + (-8))) (lv' := [(2, .int (v2 + (-8))), (0, .ref (a 0)), (1, .int v1)]) hx hb dX11_put_45 hl (k := 2) rfl rfl (by decide) rfl (fun ls hl => ?_)
        refine lv_goto (tgt := 3) hx hb dX11_put_48 (by decide) ?_
        exact ih3 ((v2 + (-8)), g, L) h H locs ls hP hD hS (lv_sub hl [1, 2, 0] rfl)
      refine lv_icmp_ge (x := (g 0 13)) (y := 700) (tgt := 45) hx hb dX11_put_16 (by decide) (fun c2 => ?_) (fun c2 => ?_)
      ·
        have h := ite_t c2 h
        exact J45 v2 g L H locs ls h hP hD hS (lv_sub hl [0, 1, 2] rfl)
      ·
        have h := ite_e c2 h
        refine lv_aload_n hx hb dX11_put_19 rfl (lv_at hl 0 rfl) ?_
        refine x_getr (Or.inl fl_X11_9) C hP (by decide) xs_0 rfl dX11_put_20 ?_
        refine lv_aload_n hx hb dX11_put_23 rfl (lv_at hl 0 rfl) ?_
        refine x_getv (v := .int (g 0 13)) (Or.inl fl_X11_87) C hP (by decide) xs_0 rfl dX11_put_24 ?_
        refine lv_iload_n hx hb dX11_put_27 rfl (lv_at hl 1 rfl) ?_
        refine lv_iload_n hx hb dX11_put_28 rfl (lv_at hl 2 rfl) ?_
        refine lv_iushr hx hb dX11_put_29 rfl ?_
        refine lv_sipush (v := 255) hx hb dX11_put_30 (by decide) ?_
        refine lv_iand hx hb dX11_put_33 ?_
        refine y_ast C hP hD hS (by decide) xs_14 dX11_put_34 h (fun g3 H locs h hP hD hS => ?_)
        refine lv_aload_n hx hb dX11_put_35 rfl (lv_at hl 0 rfl) ?_
        refine lv_dup hx hb dX11_put_36 rfl ?_
        refine x_getv (v := .int (g3 0 13)) (Or.inl fl_X11_87) C hP (by decide) xs_0 rfl dX11_put_37 ?_
        refine lv_iconst (v := 1) hx hb dX11_put_40 (by decide) ?_
        refine lv_iadd hx hb dX11_put_41 ?_
        refine y_puti (Or.inl fl_X11_87) ft_X11_13 C hP hD hS (by decide) xs_0 rfl rfl rfl dX11_put_42 h (fun g4 H locs h hP hD hS => ?_)
        exact J45 v2 g4 L H locs ls h hP hD hS (lv_sub hl [0, 1, 2] rfl)
  exact lp3 p1 fu (24, g, L) h H locs ls hP hD hS (lv_sub hl [1, 2, 0] rfl)
def fX11_feed_0 (fu : Nat) (p1 : Int32) (p2 : Int32) (p3 : Int32) (p4 : Int32) (p5 : Int32) (g : Nat → Nat → Int32) (L : Nat → Nat → Int64) : Option ((Int32) × zS) :=
  if ((g 0 13) + 20) ≤ 700 then cb (fX11_put_0 fu p1 g L) (fun x2 g3 L4 =>
  cb (fX11_put_0 fu p2 g3 L4) (fun x6 g7 L8 =>
  cb (fX11_put_0 fu p3 g7 L8) (fun x10 g11 L12 =>
  cb (fX11_put_0 fu p4 g11 L12) (fun x14 g15 L16 =>
  cb (fX11_put_0 fu p5 g15 L16) (fun x18 g19 L20 =>
  some ((g19 0 13), (g19, L20)))))))
  else some ((-1), (g, L))
set_option maxHeartbeats 4000000 in
set_option maxRecDepth 100000 in
theorem rX11_feed_0 (l : Launch) (G : kG) (sz : Nat) (b : Nat) (a : Nat → Nat) (fu : Nat) (g : Nat → Nat → Int32) (L : Nat → Nat → Int64) (p1 : Int32) (p2 : Int32) (p3 : Int32) (p4 : Int32) (p5 : Int32) (res : Int32) (s9 : zS) (h : fX11_feed_0 fu p1 p2 p3 p4 p5 g L = some (res, s9)) : kM l yX11_feed cX11_feed 6 (some .int) { frames := 7, cells := 0, slots := 0, locals := 132 } G [.ref (a 0), .int p1, .int p2, .int p3, .int p4, .int p5] (zw G (XS b) 105 a g L) sz (kQi G (S := Unit) (fun r' _ => r' = res) (fun _ => zw G (XS b) 105 a s9.1 s9.2)) := by
  refine kM.of (by decide) (Nat.le_of_ble_eq_true rfl) ?_
  intro p e s m below meth c A ls H C hr hlk hnm hP hD hS hl
  have C : kC G p s m c cX11_feed 6 RX11 A := C
  have hx := C.1
  have hb := C.2.1
  have hl : lv_has ls 6 [(0, .ref (a 0)), (1, .int p1), (2, .int p2), (3, .int p3), (4, .int p4), (5, .int p5)] := hl
  obtain ⟨locs, hlocs⟩ : ∃ q : List Loc, q = [] := ⟨_, rfl⟩
  rw [← hlocs] at hS
  rw [← hlocs]
  unfold fX11_feed_0 at h
  refine lv_aload_n hx hb dX11_feed_0 rfl (lv_at hl 0 rfl) ?_
  refine x_getv (v := .int (g 0 13)) (Or.inl fl_X11_87) C hP (by decide) xs_0 rfl dX11_feed_1 ?_
  refine lv_bipush (v := 20) hx hb dX11_feed_4 (by decide) ?_
  refine lv_iadd hx hb dX11_feed_6 ?_
  refine lv_sipush (v := 700) hx hb dX11_feed_7 (by decide) ?_
  refine lv_icmp_le (x := ((g 0 13) + 20)) (y := 700) (tgt := 15) hx hb dX11_feed_10 (by decide) (fun c1 => ?_) (fun c1 => ?_)
  ·
    have h := ite_t c1 h
    refine lv_aload_n hx hb dX11_feed_15 rfl (lv_at hl 0 rfl) ?_
    refine lv_iload_n hx hb dX11_feed_16 rfl (lv_at hl 1 rfl) ?_
    obtain ⟨z_, g3, L4, hf5, h⟩ := cb_some h
    refine x_callVv (rest := []) li_X11_101 C (rX11_put_0 l G H.size b a fu g L p1 z_ (g3, L4) hf5) (kR rfl) hP hD hS 0 11 rfl (zat (by decide) xs_0) rfl hl.1 rfl (Nat.le_of_ble_eq_true rfl) dX11_feed_17 (fun u_ H locs e_ hP hD hS => ?_)
    have hP : va_P G.1 vwCl (zw G (XS b) 105 a g3 L4) H := hP
    have hD : va_D A (zw G (XS b) 105 a g3 L4) := hD
    refine lv_aload_n hx hb dX11_feed_20 rfl (lv_at hl 0 rfl) ?_
    refine lv_iload_n hx hb dX11_feed_21 rfl (lv_at hl 2 rfl) ?_
    obtain ⟨z_, g7, L8, hf9, h⟩ := cb_some h
    refine x_callVv (rest := []) li_X11_101 C (rX11_put_0 l G H.size b a fu g3 L4 p2 z_ (g7, L8) hf9) (kR rfl) hP hD hS 0 11 rfl (zat (by decide) xs_0) rfl hl.1 rfl (Nat.le_of_ble_eq_true rfl) dX11_feed_22 (fun u_ H locs e_ hP hD hS => ?_)
    have hP : va_P G.1 vwCl (zw G (XS b) 105 a g7 L8) H := hP
    have hD : va_D A (zw G (XS b) 105 a g7 L8) := hD
    refine lv_aload_n hx hb dX11_feed_25 rfl (lv_at hl 0 rfl) ?_
    refine lv_iload_n hx hb dX11_feed_26 rfl (lv_at hl 3 rfl) ?_
    obtain ⟨z_, g11, L12, hf13, h⟩ := cb_some h
    refine x_callVv (rest := []) li_X11_101 C (rX11_put_0 l G H.size b a fu g7 L8 p3 z_ (g11, L12) hf13) (kR rfl) hP hD hS 0 11 rfl (zat (by decide) xs_0) rfl hl.1 rfl (Nat.le_of_ble_eq_true rfl) dX11_feed_27 (fun u_ H locs e_ hP hD hS => ?_)
    have hP : va_P G.1 vwCl (zw G (XS b) 105 a g11 L12) H := hP
    have hD : va_D A (zw G (XS b) 105 a g11 L12) := hD
    refine lv_aload_n hx hb dX11_feed_30 rfl (lv_at hl 0 rfl) ?_
    refine lv_iload hx hb dX11_feed_31 (lv_at hl 4 rfl) ?_
    obtain ⟨z_, g15, L16, hf17, h⟩ := cb_some h
    refine x_callVv (rest := []) li_X11_101 C (rX11_put_0 l G H.size b a fu g11 L12 p4 z_ (g15, L16) hf17) (kR rfl) hP hD hS 0 11 rfl (zat (by decide) xs_0) rfl hl.1 rfl (Nat.le_of_ble_eq_true rfl) dX11_feed_33 (fun u_ H locs e_ hP hD hS => ?_)
    have hP : va_P G.1 vwCl (zw G (XS b) 105 a g15 L16) H := hP
    have hD : va_D A (zw G (XS b) 105 a g15 L16) := hD
    refine lv_aload_n hx hb dX11_feed_36 rfl (lv_at hl 0 rfl) ?_
    refine lv_iload hx hb dX11_feed_37 (lv_at hl 5 rfl) ?_
    obtain ⟨z_, g19, L20, hf21, h⟩ := cb_some h
    refine x_callVv (rest := []) li_X11_101 C (rX11_put_0 l G H.size b a fu g15 L16 p5 z_ (g19, L20) hf21) (kR rfl) hP hD hS 0 11 rfl (zat (by decide) xs_0) rfl hl.1 rfl (Nat.le_of_ble_eq_true rfl) dX11_feed_39 (fun u_ H locs e_ hP hD hS => ?_)
    have hP : va_P G.1 vwCl (zw G (XS b) 105 a g19 L20) H := hP
    have hD : va_D A (zw G (XS b) 105 a g19 L20) := hD
    refine lv_aload_n hx hb dX11_feed_42 rfl (lv_at hl 0 rfl) ?_
    refine x_getv (v := .int (g19 0 13)) (Or.inl fl_X11_87) C hP (by decide) xs_0 rfl dX11_feed_43 ?_
    exact y_iret C hr hlk hP hD hS h (Nat.le_of_ble_eq_true rfl) (Nat.le_of_ble_eq_true rfl) dX11_feed_46
  ·
    have h := ite_e c1 h
    refine lv_iconst (v := -1) hx hb dX11_feed_13 (by decide) ?_
    exact y_iret C hr hlk hP hD hS h (Nat.le_of_ble_eq_true rfl) (Nat.le_of_ble_eq_true rfl) dX11_feed_14
def fX11_fault_0 (fu : Nat) (g : Nat → Nat → Int32) (L : Nat → Nat → Int64) : Option ((Int32) × zS) :=
  some ((g 0 14), (g, L))
set_option maxHeartbeats 4000000 in
set_option maxRecDepth 100000 in
theorem rX11_fault_0 (l : Launch) (G : kG) (sz : Nat) (b : Nat) (a : Nat → Nat) (fu : Nat) (g : Nat → Nat → Int32) (L : Nat → Nat → Int64) (res : Int32) (s9 : zS) (h : fX11_fault_0 fu g L = some (res, s9)) : kM l yX11_fault cX11_fault 1 (some .int) { frames := 6, cells := 0, slots := 0, locals := 110 } G [.ref (a 0)] (zw G (XS b) 105 a g L) sz (kQi G (S := Unit) (fun r' _ => r' = res) (fun _ => zw G (XS b) 105 a s9.1 s9.2)) := by
  refine kM.of (by decide) (Nat.le_of_ble_eq_true rfl) ?_
  intro p e s m below meth c A ls H C hr hlk hnm hP hD hS hl
  have C : kC G p s m c cX11_fault 1 RX11 A := C
  have hx := C.1
  have hb := C.2.1
  have hl : lv_has ls 1 [(0, .ref (a 0))] := hl
  obtain ⟨locs, hlocs⟩ : ∃ q : List Loc, q = [] := ⟨_, rfl⟩
  rw [← hlocs] at hS
  rw [← hlocs]
  unfold fX11_fault_0 at h
  refine lv_aload_n hx hb dX11_fault_0 rfl (lv_at hl 0 rfl) ?_
  refine x_getv (v := .int (g 0 14)) (Or.inl fl_X11_91) C hP (by decide) xs_0 rfl dX11_fault_1 ?_
  exact y_iret C hr hlk hP hD hS h (Nat.le_of_ble_eq_true rfl) (Nat.le_of_ble_eq_true rfl) dX11_fault_4
def fX11_needWhat_p9 (fu : Nat) (g : Nat → Nat → Int32) (L : Nat → Nat → Int64) : Option ((Except String Unit) × zS) :=
  some (.error "java/util/NoSuchElementException", (g, L))
def fX11_needWhat (fu : Nat) (p1 : Int32) (p2 : Int32) (g : Nat → Nat → Int32) (L : Nat → Nat → Int64) : Option ((Except String Unit) × zS) :=
  if p1 < 0 then fX11_needWhat_p9 fu g L
  else if (p1 : Int32) < p2 then some (.ok (), (g, L))
  else fX11_needWhat_p9 fu g L
set_option maxHeartbeats 4000000 in
set_option maxRecDepth 100000 in
theorem rX11_needWhat (l : Launch) (hst : l.stackTraces = false) (G : kG) (sz : Nat) (b : Nat) (a : Nat → Nat) (fu : Nat) (g : Nat → Nat → Int32) (L : Nat → Nat → Int64) (p1 : Int32) (p2 : Int32) (res : Except String Unit) (s9 : zS) (h : fX11_needWhat fu p1 p2 g L = some (res, s9)) : kMX l yX11_needWhat cX11_needWhat 2 none { frames := 6, cells := 1, slots := 6, locals := 110 } G [.int p1, .int p2] (zw G (XS b) 105 a g L) sz (kQv G (S := Unit) (fun _ => res = .ok ()) (fun _ => zw G (XS b) 105 a s9.1 s9.2)) (kXC G (S := Unit) (fun E _ => res = .error E) (fun _ => zw G (XS b) 105 a s9.1 s9.2)) := by
  refine kMX.of (by decide) (Nat.le_of_ble_eq_true rfl) ?_
  intro p e s m below meth c A ls H C hr hlk hno hP hD hS hl
  have C : kC G p s m c cX11_needWhat 2 RX11 A := C
  have hx := C.1
  have hb := C.2.1
  have hl : lv_has ls 2 [(0, .int p1), (1, .int p2)] := hl
  obtain ⟨locs, hlocs⟩ : ∃ q : List Loc, q = [] := ⟨_, rfl⟩
  rw [← hlocs] at hS
  rw [← hlocs]
  unfold fX11_needWhat at h
  refine lv_iload_n hx hb dX11_needWhat_0 rfl (lv_at hl 0 rfl) ?_
  have J9 : ∀ (g : Nat → Nat → Int32) (L : Nat → Nat → Int64) (H : Heap) (locs : List Loc) (ls : Array Slot), fX11_needWhat_p9 fu g L = some (res, s9) → va_P G.1 vwCl (zw G (XS b) 105 a g L) H → va_D A (zw G (XS b) 105 a g L) → va_S A s.heap H locs → lv_has ls 2 [] → W p l e { frames := 6, cells := 1, slots := 6, locals := 110 } s m [.int p1, .int p2].toArray below meth c H locs 0 0 (vx_MQ below ((kQv G (S := Unit) (fun _ => res = .ok ()) (fun _ => zw G (XS b) 105 a s9.1 s9.2)) A) ((kXC G (S := Unit) (fun E _ => res = .error E) (fun _ => zw G (XS b) 105 a s9.1 s9.2)) A) [.int p1, .int p2].toArray s 1 6 A) (F0 m 9 ls []) := by
    intro g L H locs ls h hP hD hS hl
    unfold fX11_needWhat_p9 at h
    exact y_throw hst ⟨by decide +kernel, by decide +kernel⟩ th_X11_219_221 hno hlk C hl.1 hP hD hS dX11_needWhat_9 dX11_needWhat_12 dX11_needWhat_13 dX11_needWhat_16 (Nat.lt_of_lt_of_le (by decide) (Nat.le_of_ble_eq_true rfl : 6 ≤ _)) (Nat.le_of_ble_eq_true rfl) ⟨(Nat.le_of_ble_eq_true rfl), (Nat.le_of_ble_eq_true rfl)⟩ h (Nat.le_of_ble_eq_true rfl) (Nat.le_of_ble_eq_true rfl)
  refine lv_if_lt (x := p1) (tgt := 9) hx hb dX11_needWhat_1 (by decide) (fun c1 => ?_) (fun c1 => ?_)
  ·
    have h := ite_t c1 h
    exact J9 g L H locs ls h hP hD hS (lv_sub hl [] rfl)
  ·
    have h := ite_e c1 h
    refine lv_iload_n hx hb dX11_needWhat_4 rfl (lv_at hl 0 rfl) ?_
    refine lv_iload_n hx hb dX11_needWhat_5 rfl (lv_at hl 1 rfl) ?_
    refine lv_icmp_lt (x := p1) (y := p2) (tgt := 17) hx hb dX11_needWhat_6 (by decide) (fun c2 => ?_) (fun c2 => ?_)
    ·
      have h := ite_t c2 h
      exact y_xvret C hr hlk hP hD hS h (Nat.le_of_ble_eq_true rfl) (Nat.le_of_ble_eq_true rfl) dX11_needWhat_17
    ·
      have h := ite_e c2 h
      exact J9 g L H locs ls h hP hD hS (lv_sub hl [] rfl)
def fX11_countOfDay_0 (fu : Nat) (p1 : Int32) (g : Nat → Nat → Int32) (L : Nat → Nat → Int64) : Option ((Int32) × zS) :=
  cb (fX1_runFrom_8 fu 0 g L) (fun x1 g2 L3 =>
  if (Int32.toInt p1) = 7 then (cb (fX1_lost_8 fu g2 L3) (fun x6 g7 L8 =>
  some (x6, (g7, L8)))) else
  if (Int32.toInt p1) = 12 then (cb (fX1_lateOnes_8 fu g2 L3) (fun x11 g12 L13 =>
  some (x11, (g12, L13)))) else
  if (Int32.toInt p1) = 13 then (cb (fX1_latest_8 fu g2 L3) (fun x16 g17 L18 =>
  some (x16, (g17, L18)))) else
  cb (fX1_begunLater_8 fu g2 L3) (fun x20 g21 L22 =>
  some (x20, (g21, L22))))
set_option maxHeartbeats 4000000 in
set_option maxRecDepth 100000 in
theorem rX11_countOfDay_0 (l : Launch) (G : kG) (sz : Nat) (b : Nat) (a : Nat → Nat) (fu : Nat) (g : Nat → Nat → Int32) (L : Nat → Nat → Int64) (p1 : Int32) (res : Int32) (s9 : zS) (h : fX11_countOfDay_0 fu p1 g L = some (res, s9)) : kM l yX11_countOfDay cX11_countOfDay 2 (some .int) { frames := 11, cells := 0, slots := 0, locals := 225 } G [.ref (a 0), .int p1] (zw G (XS b) 105 a g L) sz (kQi G (S := Unit) (fun r' _ => r' = res) (fun _ => zw G (XS b) 105 a s9.1 s9.2)) := by
  refine kM.of (by decide) (Nat.le_of_ble_eq_true rfl) ?_
  intro p e s m below meth c A ls H C hr hlk hnm hP hD hS hl
  have C : kC G p s m c cX11_countOfDay 2 RX11 A := C
  have hx := C.1
  have hb := C.2.1
  have hl : lv_has ls 2 [(0, .ref (a 0)), (1, .int p1)] := hl
  obtain ⟨locs, hlocs⟩ : ∃ q : List Loc, q = [] := ⟨_, rfl⟩
  rw [← hlocs] at hS
  rw [← hlocs]
  unfold fX11_countOfDay_0 at h
  refine lv_aload_n hx hb dX11_countOfDay_0 rfl (lv_at hl 0 rfl) ?_
  refine x_getr (Or.inl fl_X11_53) C hP (by decide) xs_0 rfl dX11_countOfDay_1 ?_
  refine lv_iconst (v := 0) hx hb dX11_countOfDay_4 (by decide) ?_
  obtain ⟨z_, g2, L3, hf4, h⟩ := cb_some h
  refine x_callNv (rest := []) li_X11_201 C (rX1_runFrom_8 l G H.size b a fu g L 0 z_ (g2, L3) hf4) (kR rfl) hP hD hS 8 1 rfl (zat (by decide) xs_8) rfl hl.1 rfl (Nat.le_of_ble_eq_true rfl) dX11_countOfDay_5 (fun u_ H locs e_ hP hD hS => ?_)
  have hP : va_P G.1 vwCl (zw G (XS b) 105 a g2 L3) H := hP
  have hD : va_D A (zw G (XS b) 105 a g2 L3) := hD
  refine lv_iload_n hx hb dX11_countOfDay_8 rfl (lv_at hl 1 rfl) ?_
  by_cases c5 : (Int32.toInt p1) = 7
  ·
    have h := ite_t c5 h
    refine lv_lookup (off := 35) (tgt := 44) hx hb dX11_countOfDay_9 (by decide) (by rw [c5]; decide) (by decide) ?_
    refine lv_aload_n hx hb dX11_countOfDay_44 rfl (lv_at hl 0 rfl) ?_
    refine x_getr (Or.inl fl_X11_53) C hP (by decide) xs_0 rfl dX11_countOfDay_45 ?_
    obtain ⟨z_, g7, L8, hf9, h⟩ := cb_some h
    refine x_callNi (rest := []) li_X11_372 C (rX1_lost_8 l G H.size b a fu g2 L3 z_ (g7, L8) hf9) (kR rfl) hP hD hS 8 1 rfl (zat (by decide) xs_8) rfl hl.1 rfl (Nat.le_of_ble_eq_true rfl) dX11_countOfDay_48 (fun x6 u_ H locs e_ hP hD hS => ?_)
    have e_ : x6 = z_ := e_
    subst e_
    have hP : va_P G.1 vwCl (zw G (XS b) 105 a g7 L8) H := hP
    have hD : va_D A (zw G (XS b) 105 a g7 L8) := hD
    exact y_iret C hr hlk hP hD hS h (Nat.le_of_ble_eq_true rfl) (Nat.le_of_ble_eq_true rfl) dX11_countOfDay_51
  have h := ite_e c5 h
  by_cases c10 : (Int32.toInt p1) = 12
  ·
    have h := ite_t c10 h
    refine lv_lookup (off := 43) (tgt := 52) hx hb dX11_countOfDay_9 (by decide) (by rw [c10]; decide) (by decide) ?_
    refine lv_aload_n hx hb dX11_countOfDay_52 rfl (lv_at hl 0 rfl) ?_
    refine x_getr (Or.inl fl_X11_53) C hP (by decide) xs_0 rfl dX11_countOfDay_53 ?_
    obtain ⟨z_, g12, L13, hf14, h⟩ := cb_some h
    refine x_callNi (rest := []) li_X11_375 C (rX1_lateOnes_8 l G H.size b a fu g2 L3 z_ (g12, L13) hf14) (kR rfl) hP hD hS 8 1 rfl (zat (by decide) xs_8) rfl hl.1 rfl (Nat.le_of_ble_eq_true rfl) dX11_countOfDay_56 (fun x11 u_ H locs e_ hP hD hS => ?_)
    have e_ : x11 = z_ := e_
    subst e_
    have hP : va_P G.1 vwCl (zw G (XS b) 105 a g12 L13) H := hP
    have hD : va_D A (zw G (XS b) 105 a g12 L13) := hD
    exact y_iret C hr hlk hP hD hS h (Nat.le_of_ble_eq_true rfl) (Nat.le_of_ble_eq_true rfl) dX11_countOfDay_59
  have h := ite_e c10 h
  by_cases c15 : (Int32.toInt p1) = 13
  ·
    have h := ite_t c15 h
    refine lv_lookup (off := 51) (tgt := 60) hx hb dX11_countOfDay_9 (by decide) (by rw [c15]; decide) (by decide) ?_
    refine lv_aload_n hx hb dX11_countOfDay_60 rfl (lv_at hl 0 rfl) ?_
    refine x_getr (Or.inl fl_X11_53) C hP (by decide) xs_0 rfl dX11_countOfDay_61 ?_
    obtain ⟨z_, g17, L18, hf19, h⟩ := cb_some h
    refine x_callNi (rest := []) li_X11_378 C (rX1_latest_8 l G H.size b a fu g2 L3 z_ (g17, L18) hf19) (kR rfl) hP hD hS 8 1 rfl (zat (by decide) xs_8) rfl hl.1 rfl (Nat.le_of_ble_eq_true rfl) dX11_countOfDay_64 (fun x16 u_ H locs e_ hP hD hS => ?_)
    have e_ : x16 = z_ := e_
    subst e_
    have hP : va_P G.1 vwCl (zw G (XS b) 105 a g17 L18) H := hP
    have hD : va_D A (zw G (XS b) 105 a g17 L18) := hD
    exact y_iret C hr hlk hP hD hS h (Nat.le_of_ble_eq_true rfl) (Nat.le_of_ble_eq_true rfl) dX11_countOfDay_67
  have h := ite_e c15 h
  refine lv_lookup (off := 59) (tgt := 68) hx hb dX11_countOfDay_9 (by decide) (by simp [Op.lookupswitch.offset, Ne.symm c5, Ne.symm c10, Ne.symm c15]) (by decide) ?_
  refine lv_aload_n hx hb dX11_countOfDay_68 rfl (lv_at hl 0 rfl) ?_
  refine x_getr (Or.inl fl_X11_53) C hP (by decide) xs_0 rfl dX11_countOfDay_69 ?_
  obtain ⟨z_, g21, L22, hf23, h⟩ := cb_some h
  refine x_callNi (rest := []) li_X11_381 C (rX1_begunLater_8 l G H.size b a fu g2 L3 z_ (g21, L22) hf23) (kR rfl) hP hD hS 8 1 rfl (zat (by decide) xs_8) rfl hl.1 rfl (Nat.le_of_ble_eq_true rfl) dX11_countOfDay_72 (fun x20 u_ H locs e_ hP hD hS => ?_)
  have e_ : x20 = z_ := e_
  subst e_
  have hP : va_P G.1 vwCl (zw G (XS b) 105 a g21 L22) H := hP
  have hD : va_D A (zw G (XS b) 105 a g21 L22) := hD
  exact y_iret C hr hlk hP hD hS h (Nat.le_of_ble_eq_true rfl) (Nat.le_of_ble_eq_true rfl) dX11_countOfDay_75
def fX11_count_0 (fu : Nat) (p1 : Int32) (g : Nat → Nat → Int32) (L : Nat → Nat → Int64) : Option ((Except String Int32) × zS) :=
  cbx (fX11_needWhat fu p1 15 g L) (fun x1 g2 L3 =>
  if (Int32.toInt p1) = 0 then (some (.ok (g2 1 2), (g2, L3))) else
  if (Int32.toInt p1) = 1 then (some (.ok (g2 3 3), (g2, L3))) else
  if (Int32.toInt p1) = 2 then (some (.ok (g2 6 11), (g2, L3))) else
  if (Int32.toInt p1) = 3 then (some (.ok (g2 1 3), (g2, L3))) else
  if (Int32.toInt p1) = 4 then (some (.ok (g2 1 4), (g2, L3))) else
  if (Int32.toInt p1) = 5 then (some (.ok (g2 6 9), (g2, L3))) else
  if (Int32.toInt p1) = 6 then (some (.ok (g2 6 10), (g2, L3))) else
  if (Int32.toInt p1) = 7 then (cb (fX11_countOfDay_0 fu p1 g2 L3) (fun x13 g14 L15 =>
  some (.ok x13, (g14, L15)))) else
  if (Int32.toInt p1) = 8 then (some (.ok (g2 0 13), (g2, L3))) else
  if (Int32.toInt p1) = 9 then (ck 0 3 (
  some (.ok (g2 15 (Int32.toNatClampNeg 0)), (g2, L3)))) else
  if (Int32.toInt p1) = 10 then (ck 1 3 (
  some (.ok (g2 15 (Int32.toNatClampNeg 1)), (g2, L3)))) else
  if (Int32.toInt p1) = 11 then (ck 2 3 (
  some (.ok (g2 15 (Int32.toNatClampNeg 2)), (g2, L3)))) else
  cb (fX11_countOfDay_0 fu p1 g2 L3) (fun x21 g22 L23 =>
  some (.ok x21, (g22, L23))))
set_option maxHeartbeats 4000000 in
set_option maxRecDepth 100000 in
theorem rX11_count_0 (l : Launch) (hst : l.stackTraces = false) (G : kG) (sz : Nat) (b : Nat) (a : Nat → Nat) (fu : Nat) (g : Nat → Nat → Int32) (L : Nat → Nat → Int64) (p1 : Int32) (res : Except String Int32) (s9 : zS) (h : fX11_count_0 fu p1 g L = some (res, s9)) : kMX l yX11_count cX11_count 2 (some .int) { frames := 12, cells := 1, slots := 6, locals := 246 } G [.ref (a 0), .int p1] (zw G (XS b) 105 a g L) sz (kQi G (S := Unit) (fun r' _ => res = .ok r') (fun _ => zw G (XS b) 105 a s9.1 s9.2)) (kXC G (S := Unit) (fun E _ => res = .error E) (fun _ => zw G (XS b) 105 a s9.1 s9.2)) := by
  refine kMX.of (by decide) (Nat.le_of_ble_eq_true rfl) ?_
  intro p e s m below meth c A ls H C hr hlk hno hP hD hS hl
  have C : kC G p s m c cX11_count 2 RX11 A := C
  have hx := C.1
  have hb := C.2.1
  have hl : lv_has ls 2 [(0, .ref (a 0)), (1, .int p1)] := hl
  obtain ⟨locs, hlocs⟩ : ∃ q : List Loc, q = [] := ⟨_, rfl⟩
  rw [← hlocs] at hS
  rw [← hlocs]
  unfold fX11_count_0 at h
  refine lv_iload_n hx hb dX11_count_0 rfl (lv_at hl 1 rfl) ?_
  refine lv_bipush (v := 15) hx hb dX11_count_1 (by decide) ?_
  obtain ⟨z_, g2, L3, hf4, h⟩ := cbx_some h
  refine x_xcallSv (rest := []) li_X11_121 C (rX11_needWhat l hst G H.size b a fu g L p1 15 z_ (g2, L3) hf4) (kR rfl) hP hD hS rfl hl.1 rfl (Nat.le_of_ble_eq_true rfl) dX11_count_3 (fun E ce q9 u_ H locs e_ hP hD hS hc1 hc2 hc3 => ?_) (fun u_ H locs e_ hP hD hS => ?_)
  ·
    obtain ⟨e1_, e2_⟩ := cbx_err h e_
    exact x_xout hno hlk hP hD hS hc1 hc2 hc3 () (by rw [e2_]) e1_ (Nat.le_of_ble_eq_true rfl) (Nat.le_of_ble_eq_true rfl)
  ·
    have h := cbx_ok h e_
    have hP : va_P G.1 vwCl (zw G (XS b) 105 a g2 L3) H := hP
    have hD : va_D A (zw G (XS b) 105 a g2 L3) := hD
    refine lv_iload_n hx hb dX11_count_6 rfl (lv_at hl 1 rfl) ?_
    by_cases c5 : (Int32.toInt p1) = 0
    ·
      have h := ite_t c5 h
      refine lv_tableIn (off := 61) (tgt := 68) hx hb dX11_count_7 (by omega) (by omega) (by rw [c5]; rfl) (by decide) ?_
      refine lv_aload_n hx hb dX11_count_68 rfl (lv_at hl 0 rfl) ?_
      refine x_getr (Or.inl fl_X11_22) C hP (by decide) xs_0 rfl dX11_count_69 ?_
      refine x_getv (v := .int (g2 1 2)) (Or.inr fl_X11_125) C hP (by decide) xs_1 rfl dX11_count_72 ?_
      exact y_xiret C hr hlk hP hD hS h (Nat.le_of_ble_eq_true rfl) (Nat.le_of_ble_eq_true rfl) dX11_count_75
    have h := ite_e c5 h
    by_cases c6 : (Int32.toInt p1) = 1
    ·
      have h := ite_t c6 h
      refine lv_tableIn (off := 69) (tgt := 76) hx hb dX11_count_7 (by omega) (by omega) (by rw [c6]; rfl) (by decide) ?_
      refine lv_aload_n hx hb dX11_count_76 rfl (lv_at hl 0 rfl) ?_
      refine x_getr (Or.inl fl_X11_22) C hP (by decide) xs_0 rfl dX11_count_77 ?_
      refine x_getr (Or.inr fl_X11_128) C hP (by decide) xs_1 rfl dX11_count_80 ?_
      refine x_getv (v := .int (g2 3 3)) (Or.inr fl_X11_132) C hP (by decide) xs_3 rfl dX11_count_83 ?_
      exact y_xiret C hr hlk hP hD hS h (Nat.le_of_ble_eq_true rfl) (Nat.le_of_ble_eq_true rfl) dX11_count_86
    have h := ite_e c6 h
    by_cases c7 : (Int32.toInt p1) = 2
    ·
      have h := ite_t c7 h
      refine lv_tableIn (off := 80) (tgt := 87) hx hb dX11_count_7 (by omega) (by omega) (by rw [c7]; rfl) (by decide) ?_
      refine lv_aload_n hx hb dX11_count_87 rfl (lv_at hl 0 rfl) ?_
      refine x_getr (Or.inl fl_X11_41) C hP (by decide) xs_0 rfl dX11_count_88 ?_
      refine x_getv (v := .int (g2 6 11)) (Or.inr fl_X11_137) C hP (by decide) xs_6 rfl dX11_count_91 ?_
      exact y_xiret C hr hlk hP hD hS h (Nat.le_of_ble_eq_true rfl) (Nat.le_of_ble_eq_true rfl) dX11_count_94
    have h := ite_e c7 h
    by_cases c8 : (Int32.toInt p1) = 3
    ·
      have h := ite_t c8 h
      refine lv_tableIn (off := 88) (tgt := 95) hx hb dX11_count_7 (by omega) (by omega) (by rw [c8]; rfl) (by decide) ?_
      refine lv_aload_n hx hb dX11_count_95 rfl (lv_at hl 0 rfl) ?_
      refine x_getr (Or.inl fl_X11_22) C hP (by decide) xs_0 rfl dX11_count_96 ?_
      refine x_getv (v := .int (g2 1 3)) (Or.inr fl_X11_140) C hP (by decide) xs_1 rfl dX11_count_99 ?_
      exact y_xiret C hr hlk hP hD hS h (Nat.le_of_ble_eq_true rfl) (Nat.le_of_ble_eq_true rfl) dX11_count_102
    have h := ite_e c8 h
    by_cases c9 : (Int32.toInt p1) = 4
    ·
      have h := ite_t c9 h
      refine lv_tableIn (off := 96) (tgt := 103) hx hb dX11_count_7 (by omega) (by omega) (by rw [c9]; rfl) (by decide) ?_
      refine lv_aload_n hx hb dX11_count_103 rfl (lv_at hl 0 rfl) ?_
      refine x_getr (Or.inl fl_X11_22) C hP (by decide) xs_0 rfl dX11_count_104 ?_
      refine x_getv (v := .int (g2 1 4)) (Or.inr fl_X11_143) C hP (by decide) xs_1 rfl dX11_count_107 ?_
      exact y_xiret C hr hlk hP hD hS h (Nat.le_of_ble_eq_true rfl) (Nat.le_of_ble_eq_true rfl) dX11_count_110
    have h := ite_e c9 h
    by_cases c10 : (Int32.toInt p1) = 5
    ·
      have h := ite_t c10 h
      refine lv_tableIn (off := 104) (tgt := 111) hx hb dX11_count_7 (by omega) (by omega) (by rw [c10]; rfl) (by decide) ?_
      refine lv_aload_n hx hb dX11_count_111 rfl (lv_at hl 0 rfl) ?_
      refine x_getr (Or.inl fl_X11_41) C hP (by decide) xs_0 rfl dX11_count_112 ?_
      refine x_getv (v := .int (g2 6 9)) (Or.inr fl_X11_146) C hP (by decide) xs_6 rfl dX11_count_115 ?_
      exact y_xiret C hr hlk hP hD hS h (Nat.le_of_ble_eq_true rfl) (Nat.le_of_ble_eq_true rfl) dX11_count_118
    have h := ite_e c10 h
    by_cases c11 : (Int32.toInt p1) = 6
    ·
      have h := ite_t c11 h
      refine lv_tableIn (off := 112) (tgt := 119) hx hb dX11_count_7 (by omega) (by omega) (by rw [c11]; rfl) (by decide) ?_
      refine lv_aload_n hx hb dX11_count_119 rfl (lv_at hl 0 rfl) ?_
      refine x_getr (Or.inl fl_X11_41) C hP (by decide) xs_0 rfl dX11_count_120 ?_
      refine x_getv (v := .int (g2 6 10)) (Or.inr fl_X11_149) C hP (by decide) xs_6 rfl dX11_count_123 ?_
      exact y_xiret C hr hlk hP hD hS h (Nat.le_of_ble_eq_true rfl) (Nat.le_of_ble_eq_true rfl) dX11_count_126
    have h := ite_e c11 h
    by_cases c12 : (Int32.toInt p1) = 7
    ·
      have h := ite_t c12 h
      refine lv_tableIn (off := 146) (tgt := 153) hx hb dX11_count_7 (by omega) (by omega) (by rw [c12]; rfl) (by decide) ?_
      refine lv_aload_n hx hb dX11_count_153 rfl (lv_at hl 0 rfl) ?_
      refine lv_iload_n hx hb dX11_count_154 rfl (lv_at hl 1 rfl) ?_
      obtain ⟨z_, g14, L15, hf16, h⟩ := cb_some h
      refine x_callVi (rest := []) li_X11_152 C (rX11_countOfDay_0 l G H.size b a fu g2 L3 p1 z_ (g14, L15) hf16) (kR rfl) hP hD hS 0 11 rfl (zat (by decide) xs_0) rfl hl.1 rfl (Nat.le_of_ble_eq_true rfl) dX11_count_155 (fun x13 u_ H locs e_ hP hD hS => ?_)
      have e_ : x13 = z_ := e_
      subst e_
      have hP : va_P G.1 vwCl (zw G (XS b) 105 a g14 L15) H := hP
      have hD : va_D A (zw G (XS b) 105 a g14 L15) := hD
      exact y_xiret C hr hlk hP hD hS h (Nat.le_of_ble_eq_true rfl) (Nat.le_of_ble_eq_true rfl) dX11_count_158
    have h := ite_e c12 h
    by_cases c17 : (Int32.toInt p1) = 8
    ·
      have h := ite_t c17 h
      refine lv_tableIn (off := 120) (tgt := 127) hx hb dX11_count_7 (by omega) (by omega) (by rw [c17]; rfl) (by decide) ?_
      refine lv_aload_n hx hb dX11_count_127 rfl (lv_at hl 0 rfl) ?_
      refine x_getv (v := .int (g2 0 13)) (Or.inl fl_X11_87) C hP (by decide) xs_0 rfl dX11_count_128 ?_
      exact y_xiret C hr hlk hP hD hS h (Nat.le_of_ble_eq_true rfl) (Nat.le_of_ble_eq_true rfl) dX11_count_131
    have h := ite_e c17 h
    by_cases c18 : (Int32.toInt p1) = 9
    ·
      have h := ite_t c18 h
      refine lv_tableIn (off := 125) (tgt := 132) hx hb dX11_count_7 (by omega) (by omega) (by rw [c18]; rfl) (by decide) ?_
      refine lv_aload_n hx hb dX11_count_132 rfl (lv_at hl 0 rfl) ?_
      refine x_getr (Or.inl fl_X11_13) C hP (by decide) xs_0 rfl dX11_count_133 ?_
      refine lv_iconst (v := 0) hx hb dX11_count_136 (by decide) ?_
      refine y_ald C hP (by decide) xs_15 dX11_count_137 h (fun h => ?_)
      exact y_xiret C hr hlk hP hD hS h (Nat.le_of_ble_eq_true rfl) (Nat.le_of_ble_eq_true rfl) dX11_count_138
    have h := ite_e c18 h
    by_cases c19 : (Int32.toInt p1) = 10
    ·
      have h := ite_t c19 h
      refine lv_tableIn (off := 132) (tgt := 139) hx hb dX11_count_7 (by omega) (by omega) (by rw [c19]; rfl) (by decide) ?_
      refine lv_aload_n hx hb dX11_count_139 rfl (lv_at hl 0 rfl) ?_
      refine x_getr (Or.inl fl_X11_13) C hP (by decide) xs_0 rfl dX11_count_140 ?_
      refine lv_iconst (v := 1) hx hb dX11_count_143 (by decide) ?_
      refine y_ald C hP (by decide) xs_15 dX11_count_144 h (fun h => ?_)
      exact y_xiret C hr hlk hP hD hS h (Nat.le_of_ble_eq_true rfl) (Nat.le_of_ble_eq_true rfl) dX11_count_145
    have h := ite_e c19 h
    by_cases c20 : (Int32.toInt p1) = 11
    ·
      have h := ite_t c20 h
      refine lv_tableIn (off := 139) (tgt := 146) hx hb dX11_count_7 (by omega) (by omega) (by rw [c20]; rfl) (by decide) ?_
      refine lv_aload_n hx hb dX11_count_146 rfl (lv_at hl 0 rfl) ?_
      refine x_getr (Or.inl fl_X11_13) C hP (by decide) xs_0 rfl dX11_count_147 ?_
      refine lv_iconst (v := 2) hx hb dX11_count_150 (by decide) ?_
      refine y_ald C hP (by decide) xs_15 dX11_count_151 h (fun h => ?_)
      exact y_xiret C hr hlk hP hD hS h (Nat.le_of_ble_eq_true rfl) (Nat.le_of_ble_eq_true rfl) dX11_count_152
    have h := ite_e c20 h
    refine lv_tableOut (tgt := 153) hx hb dX11_count_7 (by omega) (by decide) ?_
    refine lv_aload_n hx hb dX11_count_153 rfl (lv_at hl 0 rfl) ?_
    refine lv_iload_n hx hb dX11_count_154 rfl (lv_at hl 1 rfl) ?_
    obtain ⟨z_, g22, L23, hf24, h⟩ := cb_some h
    refine x_callVi (rest := []) li_X11_152 C (rX11_countOfDay_0 l G H.size b a fu g2 L3 p1 z_ (g22, L23) hf24) (kR rfl) hP hD hS 0 11 rfl (zat (by decide) xs_0) rfl hl.1 rfl (Nat.le_of_ble_eq_true rfl) dX11_count_155 (fun x21 u_ H locs e_ hP hD hS => ?_)
    have e_ : x21 = z_ := e_
    subst e_
    have hP : va_P G.1 vwCl (zw G (XS b) 105 a g22 L23) H := hP
    have hD : va_D A (zw G (XS b) 105 a g22 L23) := hD
    exact y_xiret C hr hlk hP hD hS h (Nat.le_of_ble_eq_true rfl) (Nat.le_of_ble_eq_true rfl) dX11_count_158
def fX11_needLesson_0_p15 (fu : Nat) (g : Nat → Nat → Int32) (L : Nat → Nat → Int64) : Option ((Except String Unit) × zS) :=
  some (.error "java/util/NoSuchElementException", (g, L))
def fX11_needLesson_0 (fu : Nat) (p1 : Int32) (g : Nat → Nat → Int32) (L : Nat → Nat → Int64) : Option ((Except String Unit) × zS) :=
  if p1 < 0 then fX11_needLesson_0_p15 fu g L
  else if p1 < (g 1 2) then some (.ok (), (g, L))
  else fX11_needLesson_0_p15 fu g L
set_option maxHeartbeats 4000000 in
set_option maxRecDepth 100000 in
theorem rX11_needLesson_0 (l : Launch) (hst : l.stackTraces = false) (G : kG) (sz : Nat) (b : Nat) (a : Nat → Nat) (fu : Nat) (g : Nat → Nat → Int32) (L : Nat → Nat → Int64) (p1 : Int32) (res : Except String Unit) (s9 : zS) (h : fX11_needLesson_0 fu p1 g L = some (res, s9)) : kMX l yX11_needLesson cX11_needLesson 2 none { frames := 6, cells := 1, slots := 6, locals := 110 } G [.ref (a 0), .int p1] (zw G (XS b) 105 a g L) sz (kQv G (S := Unit) (fun _ => res = .ok ()) (fun _ => zw G (XS b) 105 a s9.1 s9.2)) (kXC G (S := Unit) (fun E _ => res = .error E) (fun _ => zw G (XS b) 105 a s9.1 s9.2)) := by
  refine kMX.of (by decide) (Nat.le_of_ble_eq_true rfl) ?_
  intro p e s m below meth c A ls H C hr hlk hno hP hD hS hl
  have C : kC G p s m c cX11_needLesson 2 RX11 A := C
  have hx := C.1
  have hb := C.2.1
  have hl : lv_has ls 2 [(0, .ref (a 0)), (1, .int p1)] := hl
  obtain ⟨locs, hlocs⟩ : ∃ q : List Loc, q = [] := ⟨_, rfl⟩
  rw [← hlocs] at hS
  rw [← hlocs]
  unfold fX11_needLesson_0 at h
  refine lv_iload_n hx hb dX11_needLesson_0 rfl (lv_at hl 1 rfl) ?_
  have J15 : ∀ (g : Nat → Nat → Int32) (L : Nat → Nat → Int64) (H : Heap) (locs : List Loc) (ls : Array Slot), fX11_needLesson_0_p15 fu g L = some (res, s9) → va_P G.1 vwCl (zw G (XS b) 105 a g L) H → va_D A (zw G (XS b) 105 a g L) → va_S A s.heap H locs → lv_has ls 2 [] → W p l e { frames := 6, cells := 1, slots := 6, locals := 110 } s m [.ref (a 0), .int p1].toArray below meth c H locs 0 0 (vx_MQ below ((kQv G (S := Unit) (fun _ => res = .ok ()) (fun _ => zw G (XS b) 105 a s9.1 s9.2)) A) ((kXC G (S := Unit) (fun E _ => res = .error E) (fun _ => zw G (XS b) 105 a s9.1 s9.2)) A) [.ref (a 0), .int p1].toArray s 1 6 A) (F0 m 15 ls []) := by
    intro g L H locs ls h hP hD hS hl
    unfold fX11_needLesson_0_p15 at h
    exact y_throw hst ⟨by decide +kernel, by decide +kernel⟩ th_X11_219_221 hno hlk C hl.1 hP hD hS dX11_needLesson_15 dX11_needLesson_18 dX11_needLesson_19 dX11_needLesson_22 (Nat.lt_of_lt_of_le (by decide) (Nat.le_of_ble_eq_true rfl : 6 ≤ _)) (Nat.le_of_ble_eq_true rfl) ⟨(Nat.le_of_ble_eq_true rfl), (Nat.le_of_ble_eq_true rfl)⟩ h (Nat.le_of_ble_eq_true rfl) (Nat.le_of_ble_eq_true rfl)
  refine lv_if_lt (x := p1) (tgt := 15) hx hb dX11_needLesson_1 (by decide) (fun c1 => ?_) (fun c1 => ?_)
  ·
    have h := ite_t c1 h
    exact J15 g L H locs ls h hP hD hS (lv_sub hl [] rfl)
  ·
    have h := ite_e c1 h
    refine lv_iload_n hx hb dX11_needLesson_4 rfl (lv_at hl 1 rfl) ?_
    refine lv_aload_n hx hb dX11_needLesson_5 rfl (lv_at hl 0 rfl) ?_
    refine x_getr (Or.inl fl_X11_22) C hP (by decide) xs_0 rfl dX11_needLesson_6 ?_
    refine x_getv (v := .int (g 1 2)) (Or.inr fl_X11_125) C hP (by decide) xs_1 rfl dX11_needLesson_9 ?_
    refine lv_icmp_lt (x := p1) (y := (g 1 2)) (tgt := 23) hx hb dX11_needLesson_12 (by decide) (fun c2 => ?_) (fun c2 => ?_)
    ·
      have h := ite_t c2 h
      exact y_xvret C hr hlk hP hD hS h (Nat.le_of_ble_eq_true rfl) (Nat.le_of_ble_eq_true rfl) dX11_needLesson_23
    ·
      have h := ite_e c2 h
      exact J15 g L H locs ls h hP hD hS (lv_sub hl [] rfl)
def fX11_lesson_0 (fu : Nat) (p1 : Int32) (p2 : Int32) (g : Nat → Nat → Int32) (L : Nat → Nat → Int64) : Option ((Except String Int32) × zS) :=
  cbx (fX11_needLesson_0 fu p1 g L) (fun x1 g2 L3 =>
  cbx (fX11_needWhat fu p2 12 g2 L3) (fun x5 g6 L7 =>
  ck p1 12 (ltn (57 + (Int32.toNatClampNeg p1) % 12) (fun q9 =>
  if (Int32.toInt p2) = 0 then (some (.ok (g6 q9 3), (g6, L7))) else
  if (Int32.toInt p2) = 1 then (some (.ok (g6 q9 4), (g6, L7))) else
  if (Int32.toInt p2) = 2 then (some (.ok (g6 q9 5), (g6, L7))) else
  if (Int32.toInt p2) = 3 then (ck p1 12 (
  some (.ok (g6 25 (Int32.toNatClampNeg p1)), (g6, L7)))) else
  if (Int32.toInt p2) = 4 then (ck p1 12 (
  some (.ok (g6 27 (Int32.toNatClampNeg p1)), (g6, L7)))) else
  if (Int32.toInt p2) = 5 then (some (.ok (g6 q9 8), (g6, L7))) else
  if (Int32.toInt p2) = 6 then (some (.ok (g6 q9 9), (g6, L7))) else
  if (Int32.toInt p2) = 7 then (some (.ok (g6 q9 10), (g6, L7))) else
  if (Int32.toInt p2) = 8 then (some (.ok (g6 q9 2), (g6, L7))) else
  if (Int32.toInt p2) = 9 then (ck p1 12 (
  some (.ok (g6 28 (Int32.toNatClampNeg p1)), (g6, L7)))) else
  if (Int32.toInt p2) = 10 then (some (.ok (g6 q9 12), (g6, L7))) else
  ck p1 12 (
  some (.ok (g6 26 (Int32.toNatClampNeg p1)), (g6, L7)))))))
set_option maxHeartbeats 4000000 in
set_option maxRecDepth 100000 in
theorem rX11_lesson_0 (l : Launch) (hst : l.stackTraces = false) (G : kG) (sz : Nat) (b : Nat) (a : Nat → Nat) (fu : Nat) (g : Nat → Nat → Int32) (L : Nat → Nat → Int64) (p1 : Int32) (p2 : Int32) (res : Except String Int32) (s9 : zS) (h : fX11_lesson_0 fu p1 p2 g L = some (res, s9)) : kMX l yX11_lesson cX11_lesson 4 (some .int) { frames := 7, cells := 2, slots := 12, locals := 131 } G [.ref (a 0), .int p1, .int p2] (zw G (XS b) 105 a g L) sz (kQi G (S := Unit) (fun r' _ => res = .ok r') (fun _ => zw G (XS b) 105 a s9.1 s9.2)) (kXC G (S := Unit) (fun E _ => res = .error E) (fun _ => zw G (XS b) 105 a s9.1 s9.2)) := by
  refine kMX.of (by decide) (Nat.le_of_ble_eq_true rfl) ?_
  intro p e s m below meth c A ls H C hr hlk hno hP hD hS hl
  have C : kC G p s m c cX11_lesson 4 RX11 A := C
  have hx := C.1
  have hb := C.2.1
  have hl : lv_has ls 4 [(0, .ref (a 0)), (1, .int p1), (2, .int p2)] := hl
  obtain ⟨locs, hlocs⟩ : ∃ q : List Loc, q = [] := ⟨_, rfl⟩
  rw [← hlocs] at hS
  rw [← hlocs]
  unfold fX11_lesson_0 at h
  refine lv_aload_n hx hb dX11_lesson_0 rfl (lv_at hl 0 rfl) ?_
  refine lv_iload_n hx hb dX11_lesson_1 rfl (lv_at hl 1 rfl) ?_
  obtain ⟨z_, g2, L3, hf4, h⟩ := cbx_some h
  refine x_xcallVv (rest := []) li_X11_156 C (rX11_needLesson_0 l hst G H.size b a fu g L p1 z_ (g2, L3) hf4) (kR rfl) hP hD hS 0 11 rfl (zat (by decide) xs_0) rfl hl.1 rfl (Nat.le_of_ble_eq_true rfl) dX11_lesson_2 (fun E ce q9 u_ H locs e_ hP hD hS hc1 hc2 hc3 => ?_) (fun u_ H locs e_ hP hD hS => ?_)
  ·
    obtain ⟨e1_, e2_⟩ := cbx_err h e_
    exact x_xout hno hlk hP hD hS hc1 hc2 hc3 () (by rw [e2_]) e1_ (Nat.le_of_ble_eq_true rfl) (Nat.le_of_ble_eq_true rfl)
  ·
    have h := cbx_ok h e_
    have hP : va_P G.1 vwCl (zw G (XS b) 105 a g2 L3) H := hP
    have hD : va_D A (zw G (XS b) 105 a g2 L3) := hD
    refine lv_iload_n hx hb dX11_lesson_5 rfl (lv_at hl 2 rfl) ?_
    refine lv_bipush (v := 12) hx hb dX11_lesson_6 (by decide) ?_
    obtain ⟨z_, g6, L7, hf8, h⟩ := cbx_some h
    refine x_xcallSv (rest := []) li_X11_121 C (rX11_needWhat l hst G H.size b a fu g2 L3 p2 12 z_ (g6, L7) hf8) (kR rfl) hP hD hS rfl hl.1 rfl (Nat.le_of_ble_eq_true rfl) dX11_lesson_8 (fun E ce q9 u_ H locs e_ hP hD hS hc1 hc2 hc3 => ?_) (fun u_ H locs e_ hP hD hS => ?_)
    ·
      obtain ⟨e1_, e2_⟩ := cbx_err h e_
      exact x_xout hno hlk hP hD hS hc1 hc2 hc3 () (by rw [e2_]) e1_ (Nat.le_of_ble_eq_true rfl) (Nat.le_of_ble_eq_true rfl)
    ·
      have h := cbx_ok h e_
      have hP : va_P G.1 vwCl (zw G (XS b) 105 a g6 L7) H := hP
      have hD : va_D A (zw G (XS b) 105 a g6 L7) := hD
      refine lv_aload_n hx hb dX11_lesson_11 rfl (lv_at hl 0 rfl) ?_
      refine x_getr (Or.inl fl_X11_22) C hP (by decide) xs_0 rfl dX11_lesson_12 ?_
      refine x_getr (Or.inr fl_X11_159) C hP (by decide) xs_1 rfl dX11_lesson_15 ?_
      refine lv_iload_n hx hb dX11_lesson_18 rfl (lv_at hl 1 rfl) ?_
      refine y_aald (t := 57) C hP (by decide) xs_17 dX11_lesson_19 h (fun q9 q9l q9h h => ?_)
      refine lv_astore_n (lv' := [(3, .ref (a q9)), (0, .ref (a 0)), (1, .int p1), (2, .int p2)]) hx hb dX11_lesson_20 rfl hl (by decide) rfl (fun ls hl => ?_)
      refine lv_iload_n hx hb dX11_lesson_21 rfl (lv_at hl 3 rfl) ?_
      by_cases c10 : (Int32.toInt p2) = 0
      ·
        have h := ite_t c10 h
        refine lv_tableIn (off := 58) (tgt := 80) hx hb dX11_lesson_22 (by omega) (by omega) (by rw [c10]; rfl) (by decide) ?_
        refine lv_aload_n hx hb dX11_lesson_80 rfl (lv_at hl 0 rfl) ?_
        refine x_getv (v := .int (g6 q9 3)) (Or.inr fl_X11_163) C hP (by omega) (xs_les (by omega) (by omega)) rfl dX11_lesson_81 ?_
        exact y_xiret C hr hlk hP hD hS h (Nat.le_of_ble_eq_true rfl) (Nat.le_of_ble_eq_true rfl) dX11_lesson_84
      have h := ite_e c10 h
      by_cases c11 : (Int32.toInt p2) = 1
      ·
        have h := ite_t c11 h
        refine lv_tableIn (off := 63) (tgt := 85) hx hb dX11_lesson_22 (by omega) (by omega) (by rw [c11]; rfl) (by decide) ?_
        refine lv_aload_n hx hb dX11_lesson_85 rfl (lv_at hl 0 rfl) ?_
        refine x_getv (v := .int (g6 q9 4)) (Or.inr fl_X11_168) C hP (by omega) (xs_les (by omega) (by omega)) rfl dX11_lesson_86 ?_
        exact y_xiret C hr hlk hP hD hS h (Nat.le_of_ble_eq_true rfl) (Nat.le_of_ble_eq_true rfl) dX11_lesson_89
      have h := ite_e c11 h
      by_cases c12 : (Int32.toInt p2) = 2
      ·
        have h := ite_t c12 h
        refine lv_tableIn (off := 68) (tgt := 90) hx hb dX11_lesson_22 (by omega) (by omega) (by rw [c12]; rfl) (by decide) ?_
        refine lv_aload_n hx hb dX11_lesson_90 rfl (lv_at hl 0 rfl) ?_
        refine x_getv (v := .int (g6 q9 5)) (Or.inr fl_X11_171) C hP (by omega) (xs_les (by omega) (by omega)) rfl dX11_lesson_91 ?_
        exact y_xiret C hr hlk hP hD hS h (Nat.le_of_ble_eq_true rfl) (Nat.le_of_ble_eq_true rfl) dX11_lesson_94
      have h := ite_e c12 h
      by_cases c13 : (Int32.toInt p2) = 3
      ·
        have h := ite_t c13 h
        refine lv_tableIn (off := 73) (tgt := 95) hx hb dX11_lesson_22 (by omega) (by omega) (by rw [c13]; rfl) (by decide) ?_
        refine lv_aload_n hx hb dX11_lesson_95 rfl (lv_at hl 1 rfl) ?_
        refine x_getr (Or.inl fl_X11_41) C hP (by decide) xs_0 rfl dX11_lesson_96 ?_
        refine x_getr (Or.inr fl_X11_174) C hP (by decide) xs_6 rfl dX11_lesson_99 ?_
        refine lv_iload_n hx hb dX11_lesson_102 rfl (lv_at hl 2 rfl) ?_
        refine y_ald C hP (by decide) xs_25 dX11_lesson_103 h (fun h => ?_)
        exact y_xiret C hr hlk hP hD hS h (Nat.le_of_ble_eq_true rfl) (Nat.le_of_ble_eq_true rfl) dX11_lesson_104
      have h := ite_e c13 h
      by_cases c14 : (Int32.toInt p2) = 4
      ·
        have h := ite_t c14 h
        refine lv_tableIn (off := 83) (tgt := 105) hx hb dX11_lesson_22 (by omega) (by omega) (by rw [c14]; rfl) (by decide) ?_
        refine lv_aload_n hx hb dX11_lesson_105 rfl (lv_at hl 1 rfl) ?_
        refine x_getr (Or.inl fl_X11_41) C hP (by decide) xs_0 rfl dX11_lesson_106 ?_
        refine x_getr (Or.inr fl_X11_177) C hP (by decide) xs_6 rfl dX11_lesson_109 ?_
        refine lv_iload_n hx hb dX11_lesson_112 rfl (lv_at hl 2 rfl) ?_
        refine y_ald C hP (by decide) xs_27 dX11_lesson_113 h (fun h => ?_)
        exact y_xiret C hr hlk hP hD hS h (Nat.le_of_ble_eq_true rfl) (Nat.le_of_ble_eq_true rfl) dX11_lesson_114
      have h := ite_e c14 h
      by_cases c15 : (Int32.toInt p2) = 5
      ·
        have h := ite_t c15 h
        refine lv_tableIn (off := 93) (tgt := 115) hx hb dX11_lesson_22 (by omega) (by omega) (by rw [c15]; rfl) (by decide) ?_
        refine lv_aload_n hx hb dX11_lesson_115 rfl (lv_at hl 0 rfl) ?_
        refine x_getv (v := .int (g6 q9 8)) (Or.inr fl_X11_180) C hP (by omega) (xs_les (by omega) (by omega)) rfl dX11_lesson_116 ?_
        exact y_xiret C hr hlk hP hD hS h (Nat.le_of_ble_eq_true rfl) (Nat.le_of_ble_eq_true rfl) dX11_lesson_119
      have h := ite_e c15 h
      by_cases c16 : (Int32.toInt p2) = 6
      ·
        have h := ite_t c16 h
        refine lv_tableIn (off := 98) (tgt := 120) hx hb dX11_lesson_22 (by omega) (by omega) (by rw [c16]; rfl) (by decide) ?_
        refine lv_aload_n hx hb dX11_lesson_120 rfl (lv_at hl 0 rfl) ?_
        refine x_getv (v := .int (g6 q9 9)) (Or.inr fl_X11_183) C hP (by omega) (xs_les (by omega) (by omega)) rfl dX11_lesson_121 ?_
        exact y_xiret C hr hlk hP hD hS h (Nat.le_of_ble_eq_true rfl) (Nat.le_of_ble_eq_true rfl) dX11_lesson_124
      have h := ite_e c16 h
      by_cases c17 : (Int32.toInt p2) = 7
      ·
        have h := ite_t c17 h
        refine lv_tableIn (off := 103) (tgt := 125) hx hb dX11_lesson_22 (by omega) (by omega) (by rw [c17]; rfl) (by decide) ?_
        refine lv_aload_n hx hb dX11_lesson_125 rfl (lv_at hl 0 rfl) ?_
        refine x_getv (v := .int (g6 q9 10)) (Or.inr fl_X11_186) C hP (by omega) (xs_les (by omega) (by omega)) rfl dX11_lesson_126 ?_
        exact y_xiret C hr hlk hP hD hS h (Nat.le_of_ble_eq_true rfl) (Nat.le_of_ble_eq_true rfl) dX11_lesson_129
      have h := ite_e c17 h
      by_cases c18 : (Int32.toInt p2) = 8
      ·
        have h := ite_t c18 h
        refine lv_tableIn (off := 108) (tgt := 130) hx hb dX11_lesson_22 (by omega) (by omega) (by rw [c18]; rfl) (by decide) ?_
        refine lv_aload_n hx hb dX11_lesson_130 rfl (lv_at hl 0 rfl) ?_
        refine x_getv (v := .int (g6 q9 2)) (Or.inr fl_X11_189) C hP (by omega) (xs_les (by omega) (by omega)) rfl dX11_lesson_131 ?_
        exact y_xiret C hr hlk hP hD hS h (Nat.le_of_ble_eq_true rfl) (Nat.le_of_ble_eq_true rfl) dX11_lesson_134
      have h := ite_e c18 h
      by_cases c19 : (Int32.toInt p2) = 9
      ·
        have h := ite_t c19 h
        refine lv_tableIn (off := 113) (tgt := 135) hx hb dX11_lesson_22 (by omega) (by omega) (by rw [c19]; rfl) (by decide) ?_
        refine lv_aload_n hx hb dX11_lesson_135 rfl (lv_at hl 1 rfl) ?_
        refine x_getr (Or.inl fl_X11_41) C hP (by decide) xs_0 rfl dX11_lesson_136 ?_
        refine x_getr (Or.inr fl_X11_192) C hP (by decide) xs_6 rfl dX11_lesson_139 ?_
        refine lv_iload_n hx hb dX11_lesson_142 rfl (lv_at hl 2 rfl) ?_
        refine y_ald C hP (by decide) xs_28 dX11_lesson_143 h (fun h => ?_)
        exact y_xiret C hr hlk hP hD hS h (Nat.le_of_ble_eq_true rfl) (Nat.le_of_ble_eq_true rfl) dX11_lesson_144
      have h := ite_e c19 h
      by_cases c20 : (Int32.toInt p2) = 10
      ·
        have h := ite_t c20 h
        refine lv_tableIn (off := 123) (tgt := 145) hx hb dX11_lesson_22 (by omega) (by omega) (by rw [c20]; rfl) (by decide) ?_
        refine lv_aload_n hx hb dX11_lesson_145 rfl (lv_at hl 0 rfl) ?_
        refine x_getv (v := .int (g6 q9 12)) (Or.inr fl_X11_195) C hP (by omega) (xs_les (by omega) (by omega)) rfl dX11_lesson_146 ?_
        exact y_xiret C hr hlk hP hD hS h (Nat.le_of_ble_eq_true rfl) (Nat.le_of_ble_eq_true rfl) dX11_lesson_149
      have h := ite_e c20 h
      refine lv_tableOut (tgt := 150) hx hb dX11_lesson_22 (by omega) (by decide) ?_
      refine lv_aload_n hx hb dX11_lesson_150 rfl (lv_at hl 1 rfl) ?_
      refine x_getr (Or.inl fl_X11_41) C hP (by decide) xs_0 rfl dX11_lesson_151 ?_
      refine x_getr (Or.inr fl_X11_198) C hP (by decide) xs_6 rfl dX11_lesson_154 ?_
      refine lv_iload_n hx hb dX11_lesson_157 rfl (lv_at hl 2 rfl) ?_
      refine y_ald C hP (by decide) xs_26 dX11_lesson_158 h (fun h => ?_)
      exact y_xiret C hr hlk hP hD hS h (Nat.le_of_ble_eq_true rfl) (Nat.le_of_ble_eq_true rfl) dX11_lesson_159
def fX11_day_0 (fu : Nat) (p1 : Int32) (p2 : Int32) (g : Nat → Nat → Int32) (L : Nat → Nat → Int64) : Option ((Except String Int32) × zS) :=
  cbx (fX11_needLesson_0 fu p1 g L) (fun x1 g2 L3 =>
  cbx (fX11_needWhat fu p2 5 g2 L3) (fun x5 g6 L7 =>
  cb (fX1_runFrom_8 fu 0 g6 L7) (fun x9 g10 L11 =>
  if (Int32.toInt p2) = 0 then (ck p1 12 (
  some (.ok (g10 43 (Int32.toNatClampNeg p1)), (g10, L11)))) else
  if (Int32.toInt p2) = 1 then (ck p1 12 (
  some (.ok (g10 44 (Int32.toNatClampNeg p1)), (g10, L11)))) else
  if (Int32.toInt p2) = 2 then (cb (fX1_late_8 fu p1 g10 L11) (fun x16 g17 L18 =>
  some (.ok x16, (g17, L18)))) else
  if (Int32.toInt p2) = 3 then (ck p1 12 (
  some (.ok (g10 45 (Int32.toNatClampNeg p1)), (g10, L11)))) else
  ck p1 12 (
  some (.ok (g10 46 (Int32.toNatClampNeg p1)), (g10, L11))))))
set_option maxHeartbeats 4000000 in
set_option maxRecDepth 100000 in
theorem rX11_day_0 (l : Launch) (hst : l.stackTraces = false) (G : kG) (sz : Nat) (b : Nat) (a : Nat → Nat) (fu : Nat) (g : Nat → Nat → Int32) (L : Nat → Nat → Int64) (p1 : Int32) (p2 : Int32) (res : Except String Int32) (s9 : zS) (h : fX11_day_0 fu p1 p2 g L = some (res, s9)) : kMX l yX11_day cX11_day 3 (some .int) { frames := 11, cells := 2, slots := 12, locals := 225 } G [.ref (a 0), .int p1, .int p2] (zw G (XS b) 105 a g L) sz (kQi G (S := Unit) (fun r' _ => res = .ok r') (fun _ => zw G (XS b) 105 a s9.1 s9.2)) (kXC G (S := Unit) (fun E _ => res = .error E) (fun _ => zw G (XS b) 105 a s9.1 s9.2)) := by
  refine kMX.of (by decide) (Nat.le_of_ble_eq_true rfl) ?_
  intro p e s m below meth c A ls H C hr hlk hno hP hD hS hl
  have C : kC G p s m c cX11_day 3 RX11 A := C
  have hx := C.1
  have hb := C.2.1
  have hl : lv_has ls 3 [(0, .ref (a 0)), (1, .int p1), (2, .int p2)] := hl
  obtain ⟨locs, hlocs⟩ : ∃ q : List Loc, q = [] := ⟨_, rfl⟩
  rw [← hlocs] at hS
  rw [← hlocs]
  unfold fX11_day_0 at h
  refine lv_aload_n hx hb dX11_day_0 rfl (lv_at hl 0 rfl) ?_
  refine lv_iload_n hx hb dX11_day_1 rfl (lv_at hl 1 rfl) ?_
  obtain ⟨z_, g2, L3, hf4, h⟩ := cbx_some h
  refine x_xcallVv (rest := []) li_X11_156 C (rX11_needLesson_0 l hst G H.size b a fu g L p1 z_ (g2, L3) hf4) (kR rfl) hP hD hS 0 11 rfl (zat (by decide) xs_0) rfl hl.1 rfl (Nat.le_of_ble_eq_true rfl) dX11_day_2 (fun E ce q9 u_ H locs e_ hP hD hS hc1 hc2 hc3 => ?_) (fun u_ H locs e_ hP hD hS => ?_)
  ·
    obtain ⟨e1_, e2_⟩ := cbx_err h e_
    exact x_xout hno hlk hP hD hS hc1 hc2 hc3 () (by rw [e2_]) e1_ (Nat.le_of_ble_eq_true rfl) (Nat.le_of_ble_eq_true rfl)
  ·
    have h := cbx_ok h e_
    have hP : va_P G.1 vwCl (zw G (XS b) 105 a g2 L3) H := hP
    have hD : va_D A (zw G (XS b) 105 a g2 L3) := hD
    refine lv_iload_n hx hb dX11_day_5 rfl (lv_at hl 2 rfl) ?_
    refine lv_iconst (v := 5) hx hb dX11_day_6 (by decide) ?_
    obtain ⟨z_, g6, L7, hf8, h⟩ := cbx_some h
    refine x_xcallSv (rest := []) li_X11_121 C (rX11_needWhat l hst G H.size b a fu g2 L3 p2 5 z_ (g6, L7) hf8) (kR rfl) hP hD hS rfl hl.1 rfl (Nat.le_of_ble_eq_true rfl) dX11_day_7 (fun E ce q9 u_ H locs e_ hP hD hS hc1 hc2 hc3 => ?_) (fun u_ H locs e_ hP hD hS => ?_)
    ·
      obtain ⟨e1_, e2_⟩ := cbx_err h e_
      exact x_xout hno hlk hP hD hS hc1 hc2 hc3 () (by rw [e2_]) e1_ (Nat.le_of_ble_eq_true rfl) (Nat.le_of_ble_eq_true rfl)
    ·
      have h := cbx_ok h e_
      have hP : va_P G.1 vwCl (zw G (XS b) 105 a g6 L7) H := hP
      have hD : va_D A (zw G (XS b) 105 a g6 L7) := hD
      refine lv_aload_n hx hb dX11_day_10 rfl (lv_at hl 0 rfl) ?_
      refine x_getr (Or.inl fl_X11_53) C hP (by decide) xs_0 rfl dX11_day_11 ?_
      refine lv_iconst (v := 0) hx hb dX11_day_14 (by decide) ?_
      obtain ⟨z_, g10, L11, hf12, h⟩ := cb_some h
      refine x_callNv (rest := []) li_X11_201 C (rX1_runFrom_8 l G H.size b a fu g6 L7 0 z_ (g10, L11) hf12) (kR rfl) hP hD hS 8 1 rfl (zat (by decide) xs_8) rfl hl.1 rfl (Nat.le_of_ble_eq_true rfl) dX11_day_15 (fun u_ H locs e_ hP hD hS => ?_)
      have hP : va_P G.1 vwCl (zw G (XS b) 105 a g10 L11) H := hP
      have hD : va_D A (zw G (XS b) 105 a g10 L11) := hD
      refine lv_iload_n hx hb dX11_day_18 rfl (lv_at hl 2 rfl) ?_
      by_cases c13 : (Int32.toInt p2) = 0
      ·
        have h := ite_t c13 h
        refine lv_tableIn (off := 29) (tgt := 48) hx hb dX11_day_19 (by omega) (by omega) (by rw [c13]; rfl) (by decide) ?_
        refine lv_aload_n hx hb dX11_day_48 rfl (lv_at hl 0 rfl) ?_
        refine x_getr (Or.inl fl_X11_53) C hP (by decide) xs_0 rfl dX11_day_49 ?_
        refine x_getr (Or.inr fl_X11_204) C hP (by decide) xs_8 rfl dX11_day_52 ?_
        refine lv_iload_n hx hb dX11_day_55 rfl (lv_at hl 1 rfl) ?_
        refine y_ald C hP (by decide) xs_43 dX11_day_56 h (fun h => ?_)
        exact y_xiret C hr hlk hP hD hS h (Nat.le_of_ble_eq_true rfl) (Nat.le_of_ble_eq_true rfl) dX11_day_57
      have h := ite_e c13 h
      by_cases c14 : (Int32.toInt p2) = 1
      ·
        have h := ite_t c14 h
        refine lv_tableIn (off := 39) (tgt := 58) hx hb dX11_day_19 (by omega) (by omega) (by rw [c14]; rfl) (by decide) ?_
        refine lv_aload_n hx hb dX11_day_58 rfl (lv_at hl 0 rfl) ?_
        refine x_getr (Or.inl fl_X11_53) C hP (by decide) xs_0 rfl dX11_day_59 ?_
        refine x_getr (Or.inr fl_X11_207) C hP (by decide) xs_8 rfl dX11_day_62 ?_
        refine lv_iload_n hx hb dX11_day_65 rfl (lv_at hl 1 rfl) ?_
        refine y_ald C hP (by decide) xs_44 dX11_day_66 h (fun h => ?_)
        exact y_xiret C hr hlk hP hD hS h (Nat.le_of_ble_eq_true rfl) (Nat.le_of_ble_eq_true rfl) dX11_day_67
      have h := ite_e c14 h
      by_cases c15 : (Int32.toInt p2) = 2
      ·
        have h := ite_t c15 h
        refine lv_tableIn (off := 49) (tgt := 68) hx hb dX11_day_19 (by omega) (by omega) (by rw [c15]; rfl) (by decide) ?_
        refine lv_aload_n hx hb dX11_day_68 rfl (lv_at hl 0 rfl) ?_
        refine x_getr (Or.inl fl_X11_53) C hP (by decide) xs_0 rfl dX11_day_69 ?_
        refine lv_iload_n hx hb dX11_day_72 rfl (lv_at hl 1 rfl) ?_
        obtain ⟨z_, g17, L18, hf19, h⟩ := cb_some h
        refine x_callNi (rest := []) li_X11_210 C (rX1_late_8 l G H.size b a fu g10 L11 p1 z_ (g17, L18) hf19) (kR rfl) hP hD hS 8 1 rfl (zat (by decide) xs_8) rfl hl.1 rfl (Nat.le_of_ble_eq_true rfl) dX11_day_73 (fun x16 u_ H locs e_ hP hD hS => ?_)
        have e_ : x16 = z_ := e_
        subst e_
        have hP : va_P G.1 vwCl (zw G (XS b) 105 a g17 L18) H := hP
        have hD : va_D A (zw G (XS b) 105 a g17 L18) := hD
        exact y_xiret C hr hlk hP hD hS h (Nat.le_of_ble_eq_true rfl) (Nat.le_of_ble_eq_true rfl) dX11_day_76
      have h := ite_e c15 h
      by_cases c20 : (Int32.toInt p2) = 3
      ·
        have h := ite_t c20 h
        refine lv_tableIn (off := 58) (tgt := 77) hx hb dX11_day_19 (by omega) (by omega) (by rw [c20]; rfl) (by decide) ?_
        refine lv_aload_n hx hb dX11_day_77 rfl (lv_at hl 0 rfl) ?_
        refine x_getr (Or.inl fl_X11_53) C hP (by decide) xs_0 rfl dX11_day_78 ?_
        refine x_getr (Or.inr fl_X11_213) C hP (by decide) xs_8 rfl dX11_day_81 ?_
        refine lv_iload_n hx hb dX11_day_84 rfl (lv_at hl 1 rfl) ?_
        refine y_ald C hP (by decide) xs_45 dX11_day_85 h (fun h => ?_)
        exact y_xiret C hr hlk hP hD hS h (Nat.le_of_ble_eq_true rfl) (Nat.le_of_ble_eq_true rfl) dX11_day_86
      have h := ite_e c20 h
      refine lv_tableOut (tgt := 87) hx hb dX11_day_19 (by omega) (by decide) ?_
      refine lv_aload_n hx hb dX11_day_87 rfl (lv_at hl 0 rfl) ?_
      refine x_getr (Or.inl fl_X11_53) C hP (by decide) xs_0 rfl dX11_day_88 ?_
      refine x_getr (Or.inr fl_X11_216) C hP (by decide) xs_8 rfl dX11_day_91 ?_
      refine lv_iload_n hx hb dX11_day_94 rfl (lv_at hl 1 rfl) ?_
      refine y_ald C hP (by decide) xs_46 dX11_day_95 h (fun h => ?_)
      exact y_xiret C hr hlk hP hD hS h (Nat.le_of_ble_eq_true rfl) (Nat.le_of_ble_eq_true rfl) dX11_day_96
def fX11_chain_0_p64 (fu : Nat) (v3 : Int32) (g : Nat → Nat → Int32) (L : Nat → Nat → Int64) : Option ((Except String Int32) × zS) :=
  some (.ok v3, (g, L))
def fX11_chain_0_s30 (fu : Nat) (v2 : Int32) (k30 : Int32 × Int32 × (Nat → Nat → Int32) × (Nat → Nat → Int64) → Option ((Except String Int32) × zS)) (v3 : Int32) (v4 : Int32) (g : Nat → Nat → Int32) (L : Nat → Nat → Int64) : Option ((Except String Int32) × zS) :=
  if v2 ≤ (v4 : Int32) then fX11_chain_0_p64 fu v3 g L
  else if (v3 : Int32) = (-1) then fX11_chain_0_p64 fu v3 g L
  else if 12 ≤ (v4 : Int32) then fX11_chain_0_p64 fu v3 g L
  else ck v3 12 (
  lti (g 46 (Int32.toNatClampNeg v3)) (fun x13 =>
  k30 (x13, (v4 + 1), g, L)))
def fX11_chain_0_l30 (fu : Nat) (v2 : Int32) (v3 : Int32) (v4 : Int32) (g : Nat → Nat → Int32) (L : Nat → Nat → Int64) : Option ((Except String Int32) × zS) :=
  whileK (fun k v => fX11_chain_0_s30 fu v2 k v.1 v.2.1 v.2.2.1 v.2.2.2) fu (v3, v4, g, L)
def fX11_chain_0 (fu : Nat) (p1 : Int32) (p2 : Int32) (g : Nat → Nat → Int32) (L : Nat → Nat → Int64) : Option ((Except String Int32) × zS) :=
  cbx (fX11_needLesson_0 fu p1 g L) (fun x1 g2 L3 =>
  if 0 ≤ p2 then cb (fX1_runFrom_8 fu 0 g2 L3) (fun x6 g7 L8 =>
  fX11_chain_0_l30 fu p2 p1 0 g7 L8)
  else some (.error "java/util/NoSuchElementException", (g2, L3)))
set_option maxHeartbeats 4000000 in
set_option maxRecDepth 100000 in
theorem rX11_chain_0 (l : Launch) (hst : l.stackTraces = false) (G : kG) (sz : Nat) (b : Nat) (a : Nat → Nat) (fu : Nat) (g : Nat → Nat → Int32) (L : Nat → Nat → Int64) (p1 : Int32) (p2 : Int32) (res : Except String Int32) (s9 : zS) (h : fX11_chain_0 fu p1 p2 g L = some (res, s9)) : kMX l yX11_chain cX11_chain 5 (some .int) { frames := 11, cells := 2, slots := 12, locals := 225 } G [.ref (a 0), .int p1, .int p2] (zw G (XS b) 105 a g L) sz (kQi G (S := Unit) (fun r' _ => res = .ok r') (fun _ => zw G (XS b) 105 a s9.1 s9.2)) (kXC G (S := Unit) (fun E _ => res = .error E) (fun _ => zw G (XS b) 105 a s9.1 s9.2)) := by
  refine kMX.of (by decide) (Nat.le_of_ble_eq_true rfl) ?_
  intro p e s m below meth c A ls H C hr hlk hno hP hD hS hl
  have C : kC G p s m c cX11_chain 5 RX11 A := C
  have hx := C.1
  have hb := C.2.1
  have hl : lv_has ls 5 [(0, .ref (a 0)), (1, .int p1), (2, .int p2)] := hl
  obtain ⟨locs, hlocs⟩ : ∃ q : List Loc, q = [] := ⟨_, rfl⟩
  rw [← hlocs] at hS
  rw [← hlocs]
  unfold fX11_chain_0 at h
  refine lv_aload_n hx hb dX11_chain_0 rfl (lv_at hl 0 rfl) ?_
  refine lv_iload_n hx hb dX11_chain_1 rfl (lv_at hl 1 rfl) ?_
  obtain ⟨z_, g2, L3, hf4, h⟩ := cbx_some h
  refine x_xcallVv (rest := []) li_X11_156 C (rX11_needLesson_0 l hst G H.size b a fu g L p1 z_ (g2, L3) hf4) (kR rfl) hP hD hS 0 11 rfl (zat (by decide) xs_0) rfl hl.1 rfl (Nat.le_of_ble_eq_true rfl) dX11_chain_2 (fun E ce q9 u_ H locs e_ hP hD hS hc1 hc2 hc3 => ?_) (fun u_ H locs e_ hP hD hS => ?_)
  ·
    obtain ⟨e1_, e2_⟩ := cbx_err h e_
    exact x_xout hno hlk hP hD hS hc1 hc2 hc3 () (by rw [e2_]) e1_ (Nat.le_of_ble_eq_true rfl) (Nat.le_of_ble_eq_true rfl)
  ·
    have h := cbx_ok h e_
    have hP : va_P G.1 vwCl (zw G (XS b) 105 a g2 L3) H := hP
    have hD : va_D A (zw G (XS b) 105 a g2 L3) := hD
    refine lv_iload_n hx hb dX11_chain_5 rfl (lv_at hl 2 rfl) ?_
    refine lv_if_ge (x := p2) (tgt := 17) hx hb dX11_chain_6 (by decide) (fun c5 => ?_) (fun c5 => ?_)
    ·
      have h := ite_t c5 h
      refine lv_aload_n hx hb dX11_chain_17 rfl (lv_at hl 0 rfl) ?_
      refine x_getr (Or.inl fl_X11_53) C hP (by decide) xs_0 rfl dX11_chain_18 ?_
      refine lv_iconst (v := 0) hx hb dX11_chain_21 (by decide) ?_
      obtain ⟨z_, g7, L8, hf9, h⟩ := cb_some h
      refine x_callNv (rest := []) li_X11_201 C (rX1_runFrom_8 l G H.size b a fu g2 L3 0 z_ (g7, L8) hf9) (kR rfl) hP hD hS 8 1 rfl (zat (by decide) xs_8) rfl hl.1 rfl (Nat.le_of_ble_eq_true rfl) dX11_chain_22 (fun u_ H locs e_ hP hD hS => ?_)
      have hP : va_P G.1 vwCl (zw G (XS b) 105 a g7 L8) H := hP
      have hD : va_D A (zw G (XS b) 105 a g7 L8) := hD
      refine lv_iload_n hx hb dX11_chain_25 rfl (lv_at hl 1 rfl) ?_
      refine lv_istore_n (lv' := [(3, .int p1), (0, .ref (a 0)), (1, .int p1), (2, .int p2)]) hx hb dX11_chain_26 rfl hl (by decide) rfl (fun ls hl => ?_)
      refine lv_iconst (v := 0) hx hb dX11_chain_27 (by decide) ?_
      refine lv_istore (lv' := [(4, .int 0), (3, .int p1), (0, .ref (a 0)), (1, .int p1), (2, .int p2)]) hx hb dX11_chain_28 hl (by decide) rfl (fun ls hl => ?_)
      have lp30 : ∀ (v2 : Int32), ∀ (n : Nat) (v : Int32 × Int32 × (Nat → Nat → Int32) × (Nat → Nat → Int64)), whileK (fun k v => fX11_chain_0_s30 fu v2 k v.1 v.2.1 v.2.2.1 v.2.2.2) n v = some (res, s9) → ∀ (H : Heap) (locs : List Loc) (ls : Array Slot), va_P G.1 vwCl (zw G (XS b) 105 a (v.2.2.1) (v.2.2.2)) H → va_D A (zw G (XS b) 105 a (v.2.2.1) (v.2.2.2)) → va_S A s.heap H locs → lv_has ls 5 [(0, .ref (a 0)), (2, .int v2), (3, .int (v.1)), (4, .int (v.2.1))] → W p l e { frames := 11, cells := 2, slots := 12, locals := 225 } s m [.ref (a 0), .int p1, .int p2].toArray below meth c H locs 1 6 (vx_MQ below ((kQi G (S := Unit) (fun r' _ => res = .ok r') (fun _ => zw G (XS b) 105 a s9.1 s9.2)) A) ((kXC G (S := Unit) (fun E _ => res = .error E) (fun _ => zw G (XS b) 105 a s9.1 s9.2)) A) [.ref (a 0), .int p1, .int p2].toArray s 2 12 A) (F0 m 30 ls []) := by
        intro v2
        refine while_ind (fun k30 ih30 v h => ?_)
        obtain ⟨v3, v4, g, L⟩ := v
        intro H locs ls hP hD hS hl
        have h : fX11_chain_0_s30 fu v2 k30 v3 v4 g L = some (res, s9) := h
        have hP : va_P G.1 vwCl (zw G (XS b) 105 a g L) H := hP
        have hD : va_D A (zw G (XS b) 105 a g L) := hD
        have hl : lv_has ls 5 [(0, .ref (a 0)), (2, .int v2), (3, .int v3), (4, .int v4)] := hl
        show W p l e { frames := 11, cells := 2, slots := 12, locals := 225 } s m [.ref (a 0), .int p1, .int p2].toArray below meth c H locs 1 6 (vx_MQ below ((kQi G (S := Unit) (fun r' _ => res = .ok r') (fun _ => zw G (XS b) 105 a s9.1 s9.2)) A) ((kXC G (S := Unit) (fun E _ => res = .error E) (fun _ => zw G (XS b) 105 a s9.1 s9.2)) A) [.ref (a 0), .int p1, .int p2].toArray s 2 12 A) (F0 m 30 ls [])
        unfold fX11_chain_0_s30 at h
        refine lv_iload hx hb dX11_chain_30 (lv_at hl 3 rfl) ?_
        refine lv_iload_n hx hb dX11_chain_32 rfl (lv_at hl 1 rfl) ?_
        have J64 : ∀ (v3 : Int32) (g : Nat → Nat → Int32) (L : Nat → Nat → Int64) (H : Heap) (locs : List Loc) (ls : Array Slot), fX11_chain_0_p64 fu v3 g L = some (res, s9) → va_P G.1 vwCl (zw G (XS b) 105 a g L) H → va_D A (zw G (XS b) 105 a g L) → va_S A s.heap H locs → lv_has ls 5 [(3, .int v3)] → W p l e { frames := 11, cells := 2, slots := 12, locals := 225 } s m [.ref (a 0), .int p1, .int p2].toArray below meth c H locs 1 6 (vx_MQ below ((kQi G (S := Unit) (fun r' _ => res = .ok r') (fun _ => zw G (XS b) 105 a s9.1 s9.2)) A) ((kXC G (S := Unit) (fun E _ => res = .error E) (fun _ => zw G (XS b) 105 a s9.1 s9.2)) A) [.ref (a 0), .int p1, .int p2].toArray s 2 12 A) (F0 m 64 ls []) := by
          intro v3 g L H locs ls h hP hD hS hl
          unfold fX11_chain_0_p64 at h
          refine lv_iload_n hx hb dX11_chain_64 rfl (lv_at hl 0 rfl) ?_
          exact y_xiret C hr hlk hP hD hS h (Nat.le_of_ble_eq_true rfl) (Nat.le_of_ble_eq_true rfl) dX11_chain_65
        refine lv_icmp_ge (x := v4) (y := v2) (tgt := 64) hx hb dX11_chain_33 (by decide) (fun c10 => ?_) (fun c10 => ?_)
        ·
          have h := ite_t c10 h
          exact J64 v3 g L H locs ls h hP hD hS (lv_sub hl [2] rfl)
        ·
          have h := ite_e c10 h
          refine lv_iload_n hx hb dX11_chain_36 rfl (lv_at hl 2 rfl) ?_
          refine lv_iconst (v := -1) hx hb dX11_chain_37 (by decide) ?_
          refine lv_icmp_eq (x := v3) (y := (-1)) (tgt := 64) hx hb dX11_chain_38 (by decide) (fun c11 => ?_) (fun c11 => ?_)
          ·
            have h := ite_t c11 h
            exact J64 v3 g L H locs ls h hP hD hS (lv_sub hl [2] rfl)
          ·
            have h := ite_e c11 h
            refine lv_iload hx hb dX11_chain_41 (lv_at hl 3 rfl) ?_
            refine lv_bipush (v := 12) hx hb dX11_chain_43 (by decide) ?_
            refine lv_icmp_ge (x := v4) (y := 12) (tgt := 64) hx hb dX11_chain_45 (by decide) (fun c12 => ?_) (fun c12 => ?_)
            ·
              have h := ite_t c12 h
              exact J64 v3 g L H locs ls h hP hD hS (lv_sub hl [2] rfl)
            ·
              have h := ite_e c12 h
              refine lv_aload_n hx hb dX11_chain_48 rfl (lv_at hl 0 rfl) ?_
              refine x_getr (Or.inl fl_X11_53) C hP (by decide) xs_0 rfl dX11_chain_49 ?_
              refine x_getr (Or.inr fl_X11_216) C hP (by decide) xs_8 rfl dX11_chain_52 ?_
              refine lv_iload_n hx hb dX11_chain_55 rfl (lv_at hl 2 rfl) ?_
              refine y_ald C hP (by decide) xs_46 dX11_chain_56 h (fun h => ?_)
              refine y_let h (fun x13 h => ?_)
              refine lv_istore_n (lv' := [(3, .int x13), (0, .ref (a 0)), (2, .int v2), (4, .int v4)]) hx hb dX11_chain_57 rfl hl (by decide) rfl (fun ls hl => ?_)
              refine lv_iinc (v := (v4 + 1)) (lv' := [(4, .int (v4 + 1)), (3, .int x13), (0, .ref (a 0)), (2, .int v2)]) hx hb dX11_chain_58 hl (k := 3) rfl rfl (by decide) rfl (fun ls hl => ?_)
              refine lv_goto (tgt := 30) hx hb dX11_chain_61 (by decide) ?_
              exact ih30 (x13, (v4 + 1), g, L) h H locs ls hP hD hS (lv_sub hl [2, 3, 1, 0] rfl)
      exact lp30 p2 fu (p1, 0, g7, L8) h H locs ls hP hD hS (lv_sub hl [2, 4, 1, 0] rfl)
    ·
      have h := ite_e c5 h
      exact y_throw hst ⟨by decide +kernel, by decide +kernel⟩ th_X11_219_221 hno hlk C hl.1 hP hD hS dX11_chain_9 dX11_chain_12 dX11_chain_13 dX11_chain_16 (Nat.lt_of_lt_of_le (by decide) (Nat.le_of_ble_eq_true rfl : 6 ≤ _)) (Nat.le_of_ble_eq_true rfl) ⟨(Nat.le_of_ble_eq_true rfl), (Nat.le_of_ble_eq_true rfl)⟩ h (Nat.le_of_ble_eq_true rfl) (Nat.le_of_ble_eq_true rfl)
def fX11_become_0_p22 (fu : Nat) (g : Nat → Nat → Int32) (L : Nat → Nat → Int64) : Option ((Except String Int32) × zS) :=
  ck 1 3 (
  ck 1 3 (sti g 15 (Int32.toNatClampNeg 1) ((g 15 (Int32.toNatClampNeg 1)) + 1) (fun g9 =>
  some (.ok (-1), (g9, L)))))
def fX11_become_0 (fu : Nat) (p1 : Int32) (p2 : Int32) (p3 : Int32) (g : Nat → Nat → Int32) (L : Nat → Nat → Int64) : Option ((Except String Int32) × zS) :=
  cbx (fX11_needLesson_0 fu p1 g L) (fun x1 g2 L3 =>
  cbx (fX11_needWhat fu p2 4 g2 L3) (fun x5 g6 L7 =>
  if p3 < 0 then fX11_become_0_p22 fu g6 L7
  else cb (fX11_mostOf fu p2 g6 L7) (fun x11 g12 L13 =>
  if (p3 : Int32) ≤ x11 then cb (fX3_value_6 fu p2 p1 g12 L13) (fun x16 g17 L18 =>
  cb (fX3_keepAct_6 fu p2 p1 x16 g17 L18) (fun x20 g21 L22 =>
  cb (fX3_put_6 fu p2 p1 p3 g21 L22) (fun x24 g25 L26 =>
  some (.ok x16, (g25, L26)))))
  else fX11_become_0_p22 fu g12 L13)))
set_option maxHeartbeats 4000000 in
set_option maxRecDepth 100000 in
theorem rX11_become_0 (l : Launch) (hst : l.stackTraces = false) (G : kG) (sz : Nat) (b : Nat) (a : Nat → Nat) (fu : Nat) (g : Nat → Nat → Int32) (L : Nat → Nat → Int64) (p1 : Int32) (p2 : Int32) (p3 : Int32) (res : Except String Int32) (s9 : zS) (h : fX11_become_0 fu p1 p2 p3 g L = some (res, s9)) : kMX l yX11_become cX11_become 5 (some .int) { frames := 8, cells := 2, slots := 12, locals := 154 } G [.ref (a 0), .int p1, .int p2, .int p3] (zw G (XS b) 105 a g L) sz (kQi G (S := Unit) (fun r' _ => res = .ok r') (fun _ => zw G (XS b) 105 a s9.1 s9.2)) (kXC G (S := Unit) (fun E _ => res = .error E) (fun _ => zw G (XS b) 105 a s9.1 s9.2)) := by
  refine kMX.of (by decide) (Nat.le_of_ble_eq_true rfl) ?_
  intro p e s m below meth c A ls H C hr hlk hno hP hD hS hl
  have C : kC G p s m c cX11_become 5 RX11 A := C
  have hx := C.1
  have hb := C.2.1
  have hl : lv_has ls 5 [(0, .ref (a 0)), (1, .int p1), (2, .int p2), (3, .int p3)] := hl
  obtain ⟨locs, hlocs⟩ : ∃ q : List Loc, q = [] := ⟨_, rfl⟩
  rw [← hlocs] at hS
  rw [← hlocs]
  unfold fX11_become_0 at h
  refine lv_aload_n hx hb dX11_become_0 rfl (lv_at hl 0 rfl) ?_
  refine lv_iload_n hx hb dX11_become_1 rfl (lv_at hl 1 rfl) ?_
  obtain ⟨z_, g2, L3, hf4, h⟩ := cbx_some h
  refine x_xcallVv (rest := []) li_X11_156 C (rX11_needLesson_0 l hst G H.size b a fu g L p1 z_ (g2, L3) hf4) (kR rfl) hP hD hS 0 11 rfl (zat (by decide) xs_0) rfl hl.1 rfl (Nat.le_of_ble_eq_true rfl) dX11_become_2 (fun E ce q9 u_ H locs e_ hP hD hS hc1 hc2 hc3 => ?_) (fun u_ H locs e_ hP hD hS => ?_)
  ·
    obtain ⟨e1_, e2_⟩ := cbx_err h e_
    exact x_xout hno hlk hP hD hS hc1 hc2 hc3 () (by rw [e2_]) e1_ (Nat.le_of_ble_eq_true rfl) (Nat.le_of_ble_eq_true rfl)
  ·
    have h := cbx_ok h e_
    have hP : va_P G.1 vwCl (zw G (XS b) 105 a g2 L3) H := hP
    have hD : va_D A (zw G (XS b) 105 a g2 L3) := hD
    refine lv_iload_n hx hb dX11_become_5 rfl (lv_at hl 2 rfl) ?_
    refine lv_iconst (v := 4) hx hb dX11_become_6 (by decide) ?_
    obtain ⟨z_, g6, L7, hf8, h⟩ := cbx_some h
    refine x_xcallSv (rest := []) li_X11_121 C (rX11_needWhat l hst G H.size b a fu g2 L3 p2 4 z_ (g6, L7) hf8) (kR rfl) hP hD hS rfl hl.1 rfl (Nat.le_of_ble_eq_true rfl) dX11_become_7 (fun E ce q9 u_ H locs e_ hP hD hS hc1 hc2 hc3 => ?_) (fun u_ H locs e_ hP hD hS => ?_)
    ·
      obtain ⟨e1_, e2_⟩ := cbx_err h e_
      exact x_xout hno hlk hP hD hS hc1 hc2 hc3 () (by rw [e2_]) e1_ (Nat.le_of_ble_eq_true rfl) (Nat.le_of_ble_eq_true rfl)
    ·
      have h := cbx_ok h e_
      have hP : va_P G.1 vwCl (zw G (XS b) 105 a g6 L7) H := hP
      have hD : va_D A (zw G (XS b) 105 a g6 L7) := hD
      refine lv_iload_n hx hb dX11_become_10 rfl (lv_at hl 3 rfl) ?_
      have J22 : ∀ (g : Nat → Nat → Int32) (L : Nat → Nat → Int64) (H : Heap) (locs : List Loc) (ls : Array Slot), fX11_become_0_p22 fu g L = some (res, s9) → va_P G.1 vwCl (zw G (XS b) 105 a g L) H → va_D A (zw G (XS b) 105 a g L) → va_S A s.heap H locs → lv_has ls 5 [(0, .ref (a 0))] → W p l e { frames := 8, cells := 2, slots := 12, locals := 154 } s m [.ref (a 0), .int p1, .int p2, .int p3].toArray below meth c H locs 2 12 (vx_MQ below ((kQi G (S := Unit) (fun r' _ => res = .ok r') (fun _ => zw G (XS b) 105 a s9.1 s9.2)) A) ((kXC G (S := Unit) (fun E _ => res = .error E) (fun _ => zw G (XS b) 105 a s9.1 s9.2)) A) [.ref (a 0), .int p1, .int p2, .int p3].toArray s 2 12 A) (F0 m 22 ls []) := by
        intro g L H locs ls h hP hD hS hl
        unfold fX11_become_0_p22 at h
        refine lv_aload_n hx hb dX11_become_22 rfl (lv_at hl 0 rfl) ?_
        refine x_getr (Or.inl fl_X11_13) C hP (by decide) xs_0 rfl dX11_become_23 ?_
        refine lv_iconst (v := 1) hx hb dX11_become_26 (by decide) ?_
        refine lv_dup2_11 hx hb dX11_become_27 rfl rfl ?_
        refine y_ald C hP (by decide) xs_15 dX11_become_28 h (fun h => ?_)
        refine lv_iconst (v := 1) hx hb dX11_become_29 (by decide) ?_
        refine lv_iadd hx hb dX11_become_30 ?_
        refine y_ast C hP hD hS (by decide) xs_15 dX11_become_31 h (fun g9 H locs h hP hD hS => ?_)
        refine lv_iconst (v := -1) hx hb dX11_become_32 (by decide) ?_
        exact y_xiret C hr hlk hP hD hS h (Nat.le_of_ble_eq_true rfl) (Nat.le_of_ble_eq_true rfl) dX11_become_33
      refine lv_if_lt (x := p3) (tgt := 22) hx hb dX11_become_11 (by decide) (fun c10 => ?_) (fun c10 => ?_)
      ·
        have h := ite_t c10 h
        exact J22 g6 L7 H locs ls h hP hD hS (lv_sub hl [0] rfl)
      ·
        have h := ite_e c10 h
        refine lv_iload_n hx hb dX11_become_14 rfl (lv_at hl 3 rfl) ?_
        refine lv_iload_n hx hb dX11_become_15 rfl (lv_at hl 2 rfl) ?_
        obtain ⟨z_, g12, L13, hf14, h⟩ := cb_some h
        refine x_callSi (rest := [.int p3]) li_X11_222 C (rX11_mostOf l G H.size b a fu g6 L7 p2 z_ (g12, L13) hf14) (kR rfl) hP hD hS rfl hl.1 rfl (Nat.le_of_ble_eq_true rfl) dX11_become_16 (fun x11 u_ H locs e_ hP hD hS => ?_)
        have e_ : x11 = z_ := e_
        subst e_
        have hP : va_P G.1 vwCl (zw G (XS b) 105 a g12 L13) H := hP
        have hD : va_D A (zw G (XS b) 105 a g12 L13) := hD
        refine lv_icmp_le (x := p3) (y := x11) (tgt := 34) hx hb dX11_become_19 (by decide) (fun c15 => ?_) (fun c15 => ?_)
        ·
          have h := ite_t c15 h
          refine lv_aload_n hx hb dX11_become_34 rfl (lv_at hl 0 rfl) ?_
          refine x_getr (Or.inl fl_X11_41) C hP (by decide) xs_0 rfl dX11_become_35 ?_
          refine lv_iload_n hx hb dX11_become_38 rfl (lv_at hl 2 rfl) ?_
          refine lv_iload_n hx hb dX11_become_39 rfl (lv_at hl 1 rfl) ?_
          obtain ⟨z_, g17, L18, hf19, h⟩ := cb_some h
          refine x_callNi (rest := []) li_X11_225 C (rX3_value_6 l G H.size b a fu g12 L13 p2 p1 z_ (g17, L18) hf19) (kR rfl) hP hD hS 6 3 rfl (zat (by decide) xs_6) rfl hl.1 rfl (Nat.le_of_ble_eq_true rfl) dX11_become_40 (fun x16 u_ H locs e_ hP hD hS => ?_)
          have e_ : x16 = z_ := e_
          subst e_
          have hP : va_P G.1 vwCl (zw G (XS b) 105 a g17 L18) H := hP
          have hD : va_D A (zw G (XS b) 105 a g17 L18) := hD
          refine lv_istore (lv' := [(4, .int x16), (0, .ref (a 0)), (1, .int p1), (2, .int p2), (3, .int p3)]) hx hb dX11_become_43 hl (by decide) rfl (fun ls hl => ?_)
          refine lv_aload_n hx hb dX11_become_45 rfl (lv_at hl 1 rfl) ?_
          refine x_getr (Or.inl fl_X11_41) C hP (by decide) xs_0 rfl dX11_become_46 ?_
          refine lv_iload_n hx hb dX11_become_49 rfl (lv_at hl 3 rfl) ?_
          refine lv_iload_n hx hb dX11_become_50 rfl (lv_at hl 2 rfl) ?_
          refine lv_iload hx hb dX11_become_51 (lv_at hl 0 rfl) ?_
          obtain ⟨z_, g21, L22, hf23, h⟩ := cb_some h
          refine x_callNv (rest := []) li_X11_229 C (rX3_keepAct_6 l G H.size b a fu g17 L18 p2 p1 x16 z_ (g21, L22) hf23) (kR rfl) hP hD hS 6 3 rfl (zat (by decide) xs_6) rfl hl.1 rfl (Nat.le_of_ble_eq_true rfl) dX11_become_53 (fun u_ H locs e_ hP hD hS => ?_)
          have hP : va_P G.1 vwCl (zw G (XS b) 105 a g21 L22) H := hP
          have hD : va_D A (zw G (XS b) 105 a g21 L22) := hD
          refine lv_aload_n hx hb dX11_become_56 rfl (lv_at hl 1 rfl) ?_
          refine x_getr (Or.inl fl_X11_41) C hP (by decide) xs_0 rfl dX11_become_57 ?_
          refine lv_iload_n hx hb dX11_become_60 rfl (lv_at hl 3 rfl) ?_
          refine lv_iload_n hx hb dX11_become_61 rfl (lv_at hl 2 rfl) ?_
          refine lv_iload_n hx hb dX11_become_62 rfl (lv_at hl 4 rfl) ?_
          obtain ⟨z_, g25, L26, hf27, h⟩ := cb_some h
          refine x_callNv (rest := []) li_X11_233 C (rX3_put_6 l G H.size b a fu g21 L22 p2 p1 p3 z_ (g25, L26) hf27) (kR rfl) hP hD hS 6 3 rfl (zat (by decide) xs_6) rfl hl.1 rfl (Nat.le_of_ble_eq_true rfl) dX11_become_63 (fun u_ H locs e_ hP hD hS => ?_)
          have hP : va_P G.1 vwCl (zw G (XS b) 105 a g25 L26) H := hP
          have hD : va_D A (zw G (XS b) 105 a g25 L26) := hD
          refine lv_iload hx hb dX11_become_66 (lv_at hl 0 rfl) ?_
          exact y_xiret C hr hlk hP hD hS h (Nat.le_of_ble_eq_true rfl) (Nat.le_of_ble_eq_true rfl) dX11_become_68
        ·
          have h := ite_e c15 h
          exact J22 g12 L13 H locs ls h hP hD hS (lv_sub hl [0] rfl)
def fX11_isRuleOrNone_0_p24 (fu : Nat) (t0 : Int32) (g : Nat → Nat → Int32) (L : Nat → Nat → Int64) : Option ((Int32) × zS) :=
  ckb t0 (some (t0, (g, L)))
def fX11_isRuleOrNone_0_p23 (fu : Nat) (g : Nat → Nat → Int32) (L : Nat → Nat → Int64) : Option ((Int32) × zS) :=
  fX11_isRuleOrNone_0_p24 fu 0 g L
def fX11_isRuleOrNone_0 (fu : Nat) (p1 : Int32) (g : Nat → Nat → Int32) (L : Nat → Nat → Int64) : Option ((Int32) × zS) :=
  if (p1 : Int32) < (-1) then fX11_isRuleOrNone_0_p23 fu g L
  else if (g 3 3) ≤ p1 then fX11_isRuleOrNone_0_p23 fu g L
  else fX11_isRuleOrNone_0_p24 fu 1 g L
set_option maxHeartbeats 4000000 in
set_option maxRecDepth 100000 in
theorem rX11_isRuleOrNone_0 (l : Launch) (G : kG) (sz : Nat) (b : Nat) (a : Nat → Nat) (fu : Nat) (g : Nat → Nat → Int32) (L : Nat → Nat → Int64) (p1 : Int32) (res : Int32) (s9 : zS) (h : fX11_isRuleOrNone_0 fu p1 g L = some (res, s9)) : kM l yX11_isRuleOrNone cX11_isRuleOrNone 2 (some .boolean) { frames := 6, cells := 0, slots := 0, locals := 110 } G [.ref (a 0), .int p1] (zw G (XS b) 105 a g L) sz (kQi G (S := Unit) (fun r' _ => r' = res) (fun _ => zw G (XS b) 105 a s9.1 s9.2)) := by
  refine kM.of (by decide) (Nat.le_of_ble_eq_true rfl) ?_
  intro p e s m below meth c A ls H C hr hlk hnm hP hD hS hl
  have C : kC G p s m c cX11_isRuleOrNone 2 RX11 A := C
  have hx := C.1
  have hb := C.2.1
  have hl : lv_has ls 2 [(0, .ref (a 0)), (1, .int p1)] := hl
  obtain ⟨locs, hlocs⟩ : ∃ q : List Loc, q = [] := ⟨_, rfl⟩
  rw [← hlocs] at hS
  rw [← hlocs]
  unfold fX11_isRuleOrNone_0 at h
  refine lv_iload_n hx hb dX11_isRuleOrNone_0 rfl (lv_at hl 1 rfl) ?_
  refine lv_iconst (v := -1) hx hb dX11_isRuleOrNone_1 (by decide) ?_
  have J24 : ∀ (t0 : Int32) (g : Nat → Nat → Int32) (L : Nat → Nat → Int64) (H : Heap) (locs : List Loc) (ls : Array Slot), fX11_isRuleOrNone_0_p24 fu t0 g L = some (res, s9) → va_P G.1 vwCl (zw G (XS b) 105 a g L) H → va_D A (zw G (XS b) 105 a g L) → va_S A s.heap H locs → lv_has ls 2 [] → W p l e { frames := 6, cells := 0, slots := 0, locals := 110 } s m [.ref (a 0), .int p1].toArray below meth c H locs 0 0 (MQ below ((kQi G (S := Unit) (fun r' _ => r' = res) (fun _ => zw G (XS b) 105 a s9.1 s9.2)) A) [.ref (a 0), .int p1].toArray s 0 0 A) (F0 m 24 ls [.int t0]) := by
    intro t0 g L H locs ls h hP hD hS hl
    unfold fX11_isRuleOrNone_0_p24 at h
    exact y_zret C hr hlk hP hD hS h (Nat.le_of_ble_eq_true rfl) (Nat.le_of_ble_eq_true rfl) dX11_isRuleOrNone_24
  have J23 : ∀ (g : Nat → Nat → Int32) (L : Nat → Nat → Int64) (H : Heap) (locs : List Loc) (ls : Array Slot), fX11_isRuleOrNone_0_p23 fu g L = some (res, s9) → va_P G.1 vwCl (zw G (XS b) 105 a g L) H → va_D A (zw G (XS b) 105 a g L) → va_S A s.heap H locs → lv_has ls 2 [] → W p l e { frames := 6, cells := 0, slots := 0, locals := 110 } s m [.ref (a 0), .int p1].toArray below meth c H locs 0 0 (MQ below ((kQi G (S := Unit) (fun r' _ => r' = res) (fun _ => zw G (XS b) 105 a s9.1 s9.2)) A) [.ref (a 0), .int p1].toArray s 0 0 A) (F0 m 23 ls []) := by
    intro g L H locs ls h hP hD hS hl
    unfold fX11_isRuleOrNone_0_p23 at h
    refine lv_iconst (v := 0) hx hb dX11_isRuleOrNone_23 (by decide) ?_
    exact J24 0 g L H locs ls h hP hD hS (lv_sub hl [] rfl)
  refine lv_icmp_lt (x := p1) (y := (-1)) (tgt := 23) hx hb dX11_isRuleOrNone_2 (by decide) (fun c1 => ?_) (fun c1 => ?_)
  ·
    have h := ite_t c1 h
    exact J23 g L H locs ls h hP hD hS (lv_sub hl [] rfl)
  ·
    have h := ite_e c1 h
    refine lv_iload_n hx hb dX11_isRuleOrNone_5 rfl (lv_at hl 1 rfl) ?_
    refine lv_aload_n hx hb dX11_isRuleOrNone_6 rfl (lv_at hl 0 rfl) ?_
    refine x_getr (Or.inl fl_X11_22) C hP (by decide) xs_0 rfl dX11_isRuleOrNone_7 ?_
    refine x_getr (Or.inr fl_X11_128) C hP (by decide) xs_1 rfl dX11_isRuleOrNone_10 ?_
    refine x_getv (v := .int (g 3 3)) (Or.inr fl_X11_132) C hP (by decide) xs_3 rfl dX11_isRuleOrNone_13 ?_
    refine lv_icmp_ge (x := p1) (y := (g 3 3)) (tgt := 23) hx hb dX11_isRuleOrNone_16 (by decide) (fun c2 => ?_) (fun c2 => ?_)
    ·
      have h := ite_t c2 h
      exact J23 g L H locs ls h hP hD hS (lv_sub hl [] rfl)
    ·
      have h := ite_e c2 h
      refine lv_iconst (v := 1) hx hb dX11_isRuleOrNone_19 (by decide) ?_
      refine lv_goto (tgt := 24) hx hb dX11_isRuleOrNone_20 (by decide) ?_
      exact J24 1 g L H locs ls h hP hD hS (lv_sub hl [] rfl)
def fX11_obey_0 (fu : Nat) (p1 : Int32) (g : Nat → Nat → Int32) (L : Nat → Nat → Int64) : Option ((Int32) × zS) :=
  cb (fX11_isRuleOrNone_0 fu p1 g L) (fun x1 g2 L3 =>
  if x1 = 0 then ck 1 3 (
  ck 1 3 (sti g2 15 (Int32.toNatClampNeg 1) ((g2 15 (Int32.toNatClampNeg 1)) + 1) (fun g11 =>
  ckb 0 (some (0, (g11, L3))))))
  else cb (fX3_keepAct_6 fu 4 0 (g2 6 11) g2 L3) (fun x6 g7 L8 =>
  sti g7 6 11 p1 (fun g10 =>
  ckb 1 (some (1, (g10, L8))))))
set_option maxHeartbeats 4000000 in
set_option maxRecDepth 100000 in
theorem rX11_obey_0 (l : Launch) (G : kG) (sz : Nat) (b : Nat) (a : Nat → Nat) (fu : Nat) (g : Nat → Nat → Int32) (L : Nat → Nat → Int64) (p1 : Int32) (res : Int32) (s9 : zS) (h : fX11_obey_0 fu p1 g L = some (res, s9)) : kM l yX11_obey cX11_obey 2 (some .boolean) { frames := 8, cells := 0, slots := 0, locals := 153 } G [.ref (a 0), .int p1] (zw G (XS b) 105 a g L) sz (kQi G (S := Unit) (fun r' _ => r' = res) (fun _ => zw G (XS b) 105 a s9.1 s9.2)) := by
  refine kM.of (by decide) (Nat.le_of_ble_eq_true rfl) ?_
  intro p e s m below meth c A ls H C hr hlk hnm hP hD hS hl
  have C : kC G p s m c cX11_obey 2 RX11 A := C
  have hx := C.1
  have hb := C.2.1
  have hl : lv_has ls 2 [(0, .ref (a 0)), (1, .int p1)] := hl
  obtain ⟨locs, hlocs⟩ : ∃ q : List Loc, q = [] := ⟨_, rfl⟩
  rw [← hlocs] at hS
  rw [← hlocs]
  unfold fX11_obey_0 at h
  refine lv_aload_n hx hb dX11_obey_0 rfl (lv_at hl 0 rfl) ?_
  refine lv_iload_n hx hb dX11_obey_1 rfl (lv_at hl 1 rfl) ?_
  obtain ⟨z_, g2, L3, hf4, h⟩ := cb_some h
  refine x_callVi (rest := []) li_X11_235 C (rX11_isRuleOrNone_0 l G H.size b a fu g L p1 z_ (g2, L3) hf4) (kR rfl) hP hD hS 0 11 rfl (zat (by decide) xs_0) rfl hl.1 rfl (Nat.le_of_ble_eq_true rfl) dX11_obey_2 (fun x1 u_ H locs e_ hP hD hS => ?_)
  have e_ : x1 = z_ := e_
  subst e_
  have hP : va_P G.1 vwCl (zw G (XS b) 105 a g2 L3) H := hP
  have hD : va_D A (zw G (XS b) 105 a g2 L3) := hD
  refine lv_if_ne (x := x1) (tgt := 20) hx hb dX11_obey_5 (by decide) (fun c5 => ?_) (fun c5 => ?_)
  ·
    have h := ite_e c5 h
    refine lv_aload_n hx hb dX11_obey_20 rfl (lv_at hl 0 rfl) ?_
    refine x_getr (Or.inl fl_X11_41) C hP (by decide) xs_0 rfl dX11_obey_21 ?_
    refine lv_iconst (v := 4) hx hb dX11_obey_24 (by decide) ?_
    refine lv_iconst (v := 0) hx hb dX11_obey_25 (by decide) ?_
    refine lv_aload_n hx hb dX11_obey_26 rfl (lv_at hl 0 rfl) ?_
    refine x_getr (Or.inl fl_X11_41) C hP (by decide) xs_0 rfl dX11_obey_27 ?_
    refine x_getv (v := .int (g2 6 11)) (Or.inr fl_X11_137) C hP (by decide) xs_6 rfl dX11_obey_30 ?_
    obtain ⟨z_, g7, L8, hf9, h⟩ := cb_some h
    refine x_callNv (rest := []) li_X11_229 C (rX3_keepAct_6 l G H.size b a fu g2 L3 4 0 (g2 6 11) z_ (g7, L8) hf9) (kR rfl) hP hD hS 6 3 rfl (zat (by decide) xs_6) rfl hl.1 rfl (Nat.le_of_ble_eq_true rfl) dX11_obey_33 (fun u_ H locs e_ hP hD hS => ?_)
    have hP : va_P G.1 vwCl (zw G (XS b) 105 a g7 L8) H := hP
    have hD : va_D A (zw G (XS b) 105 a g7 L8) := hD
    refine lv_aload_n hx hb dX11_obey_36 rfl (lv_at hl 0 rfl) ?_
    refine x_getr (Or.inl fl_X11_41) C hP (by decide) xs_0 rfl dX11_obey_37 ?_
    refine lv_iload_n hx hb dX11_obey_40 rfl (lv_at hl 1 rfl) ?_
    refine y_puti (Or.inr fl_X11_137) ft_X3_11 C hP hD hS (by decide) xs_6 rfl rfl rfl dX11_obey_41 h (fun g10 H locs h hP hD hS => ?_)
    refine lv_iconst (v := 1) hx hb dX11_obey_44 (by decide) ?_
    exact y_zret C hr hlk hP hD hS h (Nat.le_of_ble_eq_true rfl) (Nat.le_of_ble_eq_true rfl) dX11_obey_45
  ·
    have h := ite_t c5 h
    refine lv_aload_n hx hb dX11_obey_8 rfl (lv_at hl 0 rfl) ?_
    refine x_getr (Or.inl fl_X11_13) C hP (by decide) xs_0 rfl dX11_obey_9 ?_
    refine lv_iconst (v := 1) hx hb dX11_obey_12 (by decide) ?_
    refine lv_dup2_11 hx hb dX11_obey_13 rfl rfl ?_
    refine y_ald C hP (by decide) xs_15 dX11_obey_14 h (fun h => ?_)
    refine lv_iconst (v := 1) hx hb dX11_obey_15 (by decide) ?_
    refine lv_iadd hx hb dX11_obey_16 ?_
    refine y_ast C hP hD hS (by decide) xs_15 dX11_obey_17 h (fun g11 H locs h hP hD hS => ?_)
    refine lv_iconst (v := 0) hx hb dX11_obey_18 (by decide) ?_
    exact y_zret C hr hlk hP hD hS h (Nat.le_of_ble_eq_true rfl) (Nat.le_of_ble_eq_true rfl) dX11_obey_19
def fX11_undo_0 (fu : Nat) (g : Nat → Nat → Int32) (L : Nat → Nat → Int64) : Option ((Int32) × zS) :=
  cb (fX3_takeBackAct_6 fu g L) (fun x1 g2 L3 =>
  some (x1, (g2, L3)))
set_option maxHeartbeats 4000000 in
set_option maxRecDepth 100000 in
theorem rX11_undo_0 (l : Launch) (G : kG) (sz : Nat) (b : Nat) (a : Nat → Nat) (fu : Nat) (g : Nat → Nat → Int32) (L : Nat → Nat → Int64) (res : Int32) (s9 : zS) (h : fX11_undo_0 fu g L = some (res, s9)) : kM l yX11_undo cX11_undo 1 (some .int) { frames := 9, cells := 0, slots := 0, locals := 174 } G [.ref (a 0)] (zw G (XS b) 105 a g L) sz (kQi G (S := Unit) (fun r' _ => r' = res) (fun _ => zw G (XS b) 105 a s9.1 s9.2)) := by
  refine kM.of (by decide) (Nat.le_of_ble_eq_true rfl) ?_
  intro p e s m below meth c A ls H C hr hlk hnm hP hD hS hl
  have C : kC G p s m c cX11_undo 1 RX11 A := C
  have hx := C.1
  have hb := C.2.1
  have hl : lv_has ls 1 [(0, .ref (a 0))] := hl
  obtain ⟨locs, hlocs⟩ : ∃ q : List Loc, q = [] := ⟨_, rfl⟩
  rw [← hlocs] at hS
  rw [← hlocs]
  unfold fX11_undo_0 at h
  refine lv_aload_n hx hb dX11_undo_0 rfl (lv_at hl 0 rfl) ?_
  refine x_getr (Or.inl fl_X11_41) C hP (by decide) xs_0 rfl dX11_undo_1 ?_
  obtain ⟨z_, g2, L3, hf4, h⟩ := cb_some h
  refine x_callNi (rest := []) li_X11_239 C (rX3_takeBackAct_6 l G H.size b a fu g L z_ (g2, L3) hf4) (kR rfl) hP hD hS 6 3 rfl (zat (by decide) xs_6) rfl hl.1 rfl (Nat.le_of_ble_eq_true rfl) dX11_undo_4 (fun x1 u_ H locs e_ hP hD hS => ?_)
  have e_ : x1 = z_ := e_
  subst e_
  have hP : va_P G.1 vwCl (zw G (XS b) 105 a g2 L3) H := hP
  have hD : va_D A (zw G (XS b) 105 a g2 L3) := hD
  exact y_iret C hr hlk hP hD hS h (Nat.le_of_ble_eq_true rfl) (Nat.le_of_ble_eq_true rfl) dX11_undo_7
def fX11_needWithin_p10 (fu : Nat) (g : Nat → Nat → Int32) (L : Nat → Nat → Int64) : Option ((Except String Unit) × zS) :=
  some (.error "java/lang/IllegalArgumentException", (g, L))
def fX11_needWithin (fu : Nat) (p1 : Int32) (p2 : Int32) (p3 : Int32) (g : Nat → Nat → Int32) (L : Nat → Nat → Int64) : Option ((Except String Unit) × zS) :=
  if (p1 : Int32) < p2 then fX11_needWithin_p10 fu g L
  else if (p1 : Int32) ≤ p3 then some (.ok (), (g, L))
  else fX11_needWithin_p10 fu g L
set_option maxHeartbeats 4000000 in
set_option maxRecDepth 100000 in
theorem rX11_needWithin (l : Launch) (hst : l.stackTraces = false) (G : kG) (sz : Nat) (b : Nat) (a : Nat → Nat) (fu : Nat) (g : Nat → Nat → Int32) (L : Nat → Nat → Int64) (p1 : Int32) (p2 : Int32) (p3 : Int32) (res : Except String Unit) (s9 : zS) (h : fX11_needWithin fu p1 p2 p3 g L = some (res, s9)) : kMX l yX11_needWithin cX11_needWithin 3 none { frames := 6, cells := 1, slots := 6, locals := 110 } G [.int p1, .int p2, .int p3] (zw G (XS b) 105 a g L) sz (kQv G (S := Unit) (fun _ => res = .ok ()) (fun _ => zw G (XS b) 105 a s9.1 s9.2)) (kXC G (S := Unit) (fun E _ => res = .error E) (fun _ => zw G (XS b) 105 a s9.1 s9.2)) := by
  refine kMX.of (by decide) (Nat.le_of_ble_eq_true rfl) ?_
  intro p e s m below meth c A ls H C hr hlk hno hP hD hS hl
  have C : kC G p s m c cX11_needWithin 3 RX11 A := C
  have hx := C.1
  have hb := C.2.1
  have hl : lv_has ls 3 [(0, .int p1), (1, .int p2), (2, .int p3)] := hl
  obtain ⟨locs, hlocs⟩ : ∃ q : List Loc, q = [] := ⟨_, rfl⟩
  rw [← hlocs] at hS
  rw [← hlocs]
  unfold fX11_needWithin at h
  refine lv_iload_n hx hb dX11_needWithin_0 rfl (lv_at hl 0 rfl) ?_
  refine lv_iload_n hx hb dX11_needWithin_1 rfl (lv_at hl 1 rfl) ?_
  have J10 : ∀ (g : Nat → Nat → Int32) (L : Nat → Nat → Int64) (H : Heap) (locs : List Loc) (ls : Array Slot), fX11_needWithin_p10 fu g L = some (res, s9) → va_P G.1 vwCl (zw G (XS b) 105 a g L) H → va_D A (zw G (XS b) 105 a g L) → va_S A s.heap H locs → lv_has ls 3 [] → W p l e { frames := 6, cells := 1, slots := 6, locals := 110 } s m [.int p1, .int p2, .int p3].toArray below meth c H locs 0 0 (vx_MQ below ((kQv G (S := Unit) (fun _ => res = .ok ()) (fun _ => zw G (XS b) 105 a s9.1 s9.2)) A) ((kXC G (S := Unit) (fun E _ => res = .error E) (fun _ => zw G (XS b) 105 a s9.1 s9.2)) A) [.int p1, .int p2, .int p3].toArray s 1 6 A) (F0 m 10 ls []) := by
    intro g L H locs ls h hP hD hS hl
    unfold fX11_needWithin_p10 at h
    exact y_throw hst ⟨by decide +kernel, by decide +kernel⟩ th_X11_105_107 hno hlk C hl.1 hP hD hS dX11_needWithin_10 dX11_needWithin_13 dX11_needWithin_14 dX11_needWithin_17 (Nat.lt_of_lt_of_le (by decide) (Nat.le_of_ble_eq_true rfl : 6 ≤ _)) (Nat.le_of_ble_eq_true rfl) ⟨(Nat.le_of_ble_eq_true rfl), (Nat.le_of_ble_eq_true rfl)⟩ h (Nat.le_of_ble_eq_true rfl) (Nat.le_of_ble_eq_true rfl)
  refine lv_icmp_lt (x := p1) (y := p2) (tgt := 10) hx hb dX11_needWithin_2 (by decide) (fun c1 => ?_) (fun c1 => ?_)
  ·
    have h := ite_t c1 h
    exact J10 g L H locs ls h hP hD hS (lv_sub hl [] rfl)
  ·
    have h := ite_e c1 h
    refine lv_iload_n hx hb dX11_needWithin_5 rfl (lv_at hl 0 rfl) ?_
    refine lv_iload_n hx hb dX11_needWithin_6 rfl (lv_at hl 2 rfl) ?_
    refine lv_icmp_le (x := p1) (y := p3) (tgt := 18) hx hb dX11_needWithin_7 (by decide) (fun c2 => ?_) (fun c2 => ?_)
    ·
      have h := ite_t c2 h
      exact y_xvret C hr hlk hP hD hS h (Nat.le_of_ble_eq_true rfl) (Nat.le_of_ble_eq_true rfl) dX11_needWithin_18
    ·
      have h := ite_e c2 h
      exact J10 g L H locs ls h hP hD hS (lv_sub hl [] rfl)
def fX11_far_0_p54 (fu : Nat) (t0 : Int32) (g : Nat → Nat → Int32) (L : Nat → Nat → Int64) : Option ((Except String Int32) × zS) :=
  some (.ok t0, (g, L))
def fX11_far_0 (fu : Nat) (p1 : Int32) (p2 : Int32) (p3 : Int32) (g : Nat → Nat → Int32) (L : Nat → Nat → Int64) : Option ((Except String Int32) × zS) :=
  cbx (fX11_needLesson_0 fu p1 g L) (fun x1 g2 L3 =>
  cbx (fX11_needWhat fu p3 2 g2 L3) (fun x5 g6 L7 =>
  cbx (fX11_needWithin fu p2 0 120 g6 L7) (fun x9 g10 L11 =>
  cb (fX10_keepEnds_9 fu g10 L11) (fun x13 g14 L15 =>
  cb (fX10_runMore_9 fu p1 p2 g14 L15) (fun x17 g18 L19 =>
  if p3 = 0 then cb (fX10_laterBits_9 fu g18 L19) (fun x26 g27 L28 =>
  fX11_far_0_p54 fu x26 g27 L28)
  else cb (fX10_laterMinutes_9 fu g18 L19) (fun x22 g23 L24 =>
  fX11_far_0_p54 fu x22 g23 L24))))))
set_option maxHeartbeats 4000000 in
set_option maxRecDepth 100000 in
theorem rX11_far_0 (l : Launch) (hst : l.stackTraces = false) (G : kG) (sz : Nat) (b : Nat) (a : Nat → Nat) (fu : Nat) (g : Nat → Nat → Int32) (L : Nat → Nat → Int64) (p1 : Int32) (p2 : Int32) (p3 : Int32) (res : Except String Int32) (s9 : zS) (h : fX11_far_0 fu p1 p2 p3 g L = some (res, s9)) : kMX l yX11_far cX11_far 4 (some .int) { frames := 12, cells := 3, slots := 18, locals := 248 } G [.ref (a 0), .int p1, .int p2, .int p3] (zw G (XS b) 105 a g L) sz (kQi G (S := Unit) (fun r' _ => res = .ok r') (fun _ => zw G (XS b) 105 a s9.1 s9.2)) (kXC G (S := Unit) (fun E _ => res = .error E) (fun _ => zw G (XS b) 105 a s9.1 s9.2)) := by
  refine kMX.of (by decide) (Nat.le_of_ble_eq_true rfl) ?_
  intro p e s m below meth c A ls H C hr hlk hno hP hD hS hl
  have C : kC G p s m c cX11_far 4 RX11 A := C
  have hx := C.1
  have hb := C.2.1
  have hl : lv_has ls 4 [(0, .ref (a 0)), (1, .int p1), (2, .int p2), (3, .int p3)] := hl
  obtain ⟨locs, hlocs⟩ : ∃ q : List Loc, q = [] := ⟨_, rfl⟩
  rw [← hlocs] at hS
  rw [← hlocs]
  unfold fX11_far_0 at h
  refine lv_aload_n hx hb dX11_far_0 rfl (lv_at hl 0 rfl) ?_
  refine lv_iload_n hx hb dX11_far_1 rfl (lv_at hl 1 rfl) ?_
  obtain ⟨z_, g2, L3, hf4, h⟩ := cbx_some h
  refine x_xcallVv (rest := []) li_X11_156 C (rX11_needLesson_0 l hst G H.size b a fu g L p1 z_ (g2, L3) hf4) (kR rfl) hP hD hS 0 11 rfl (zat (by decide) xs_0) rfl hl.1 rfl (Nat.le_of_ble_eq_true rfl) dX11_far_2 (fun E ce q9 u_ H locs e_ hP hD hS hc1 hc2 hc3 => ?_) (fun u_ H locs e_ hP hD hS => ?_)
  ·
    obtain ⟨e1_, e2_⟩ := cbx_err h e_
    exact x_xout hno hlk hP hD hS hc1 hc2 hc3 () (by rw [e2_]) e1_ (Nat.le_of_ble_eq_true rfl) (Nat.le_of_ble_eq_true rfl)
  ·
    have h := cbx_ok h e_
    have hP : va_P G.1 vwCl (zw G (XS b) 105 a g2 L3) H := hP
    have hD : va_D A (zw G (XS b) 105 a g2 L3) := hD
    refine lv_iload_n hx hb dX11_far_5 rfl (lv_at hl 3 rfl) ?_
    refine lv_iconst (v := 2) hx hb dX11_far_6 (by decide) ?_
    obtain ⟨z_, g6, L7, hf8, h⟩ := cbx_some h
    refine x_xcallSv (rest := []) li_X11_121 C (rX11_needWhat l hst G H.size b a fu g2 L3 p3 2 z_ (g6, L7) hf8) (kR rfl) hP hD hS rfl hl.1 rfl (Nat.le_of_ble_eq_true rfl) dX11_far_7 (fun E ce q9 u_ H locs e_ hP hD hS hc1 hc2 hc3 => ?_) (fun u_ H locs e_ hP hD hS => ?_)
    ·
      obtain ⟨e1_, e2_⟩ := cbx_err h e_
      exact x_xout hno hlk hP hD hS hc1 hc2 hc3 () (by rw [e2_]) e1_ (Nat.le_of_ble_eq_true rfl) (Nat.le_of_ble_eq_true rfl)
    ·
      have h := cbx_ok h e_
      have hP : va_P G.1 vwCl (zw G (XS b) 105 a g6 L7) H := hP
      have hD : va_D A (zw G (XS b) 105 a g6 L7) := hD
      refine lv_iload_n hx hb dX11_far_10 rfl (lv_at hl 2 rfl) ?_
      refine lv_iconst (v := 0) hx hb dX11_far_11 (by decide) ?_
      refine lv_bipush (v := 120) hx hb dX11_far_12 (by decide) ?_
      obtain ⟨z_, g10, L11, hf12, h⟩ := cbx_some h
      refine x_xcallSv (rest := []) li_X11_243 C (rX11_needWithin l hst G H.size b a fu g6 L7 p2 0 120 z_ (g10, L11) hf12) (kR rfl) hP hD hS rfl hl.1 rfl (Nat.le_of_ble_eq_true rfl) dX11_far_14 (fun E ce q9 u_ H locs e_ hP hD hS hc1 hc2 hc3 => ?_) (fun u_ H locs e_ hP hD hS => ?_)
      ·
        obtain ⟨e1_, e2_⟩ := cbx_err h e_
        exact x_xout hno hlk hP hD hS hc1 hc2 hc3 () (by rw [e2_]) e1_ (Nat.le_of_ble_eq_true rfl) (Nat.le_of_ble_eq_true rfl)
      ·
        have h := cbx_ok h e_
        have hP : va_P G.1 vwCl (zw G (XS b) 105 a g10 L11) H := hP
        have hD : va_D A (zw G (XS b) 105 a g10 L11) := hD
        refine lv_aload_n hx hb dX11_far_17 rfl (lv_at hl 0 rfl) ?_
        refine x_getr (Or.inl fl_X11_62) C hP (by decide) xs_0 rfl dX11_far_18 ?_
        obtain ⟨z_, g14, L15, hf16, h⟩ := cb_some h
        refine x_callNv (rest := []) li_X11_246 C (rX10_keepEnds_9 l G H.size b a fu g10 L11 z_ (g14, L15) hf16) (kR rfl) hP hD hS 9 10 rfl (zat (by decide) xs_9) rfl hl.1 rfl (Nat.le_of_ble_eq_true rfl) dX11_far_21 (fun u_ H locs e_ hP hD hS => ?_)
        have hP : va_P G.1 vwCl (zw G (XS b) 105 a g14 L15) H := hP
        have hD : va_D A (zw G (XS b) 105 a g14 L15) := hD
        refine lv_aload_n hx hb dX11_far_24 rfl (lv_at hl 0 rfl) ?_
        refine x_getr (Or.inl fl_X11_62) C hP (by decide) xs_0 rfl dX11_far_25 ?_
        refine lv_iload_n hx hb dX11_far_28 rfl (lv_at hl 1 rfl) ?_
        refine lv_iload_n hx hb dX11_far_29 rfl (lv_at hl 2 rfl) ?_
        obtain ⟨z_, g18, L19, hf20, h⟩ := cb_some h
        refine x_callNv (rest := []) li_X11_249 C (rX10_runMore_9 l G H.size b a fu g14 L15 p1 p2 z_ (g18, L19) hf20) (kR rfl) hP hD hS 9 10 rfl (zat (by decide) xs_9) rfl hl.1 rfl (Nat.le_of_ble_eq_true rfl) dX11_far_30 (fun u_ H locs e_ hP hD hS => ?_)
        have hP : va_P G.1 vwCl (zw G (XS b) 105 a g18 L19) H := hP
        have hD : va_D A (zw G (XS b) 105 a g18 L19) := hD
        refine lv_iload_n hx hb dX11_far_33 rfl (lv_at hl 3 rfl) ?_
        have J54 : ∀ (t0 : Int32) (g : Nat → Nat → Int32) (L : Nat → Nat → Int64) (H : Heap) (locs : List Loc) (ls : Array Slot), fX11_far_0_p54 fu t0 g L = some (res, s9) → va_P G.1 vwCl (zw G (XS b) 105 a g L) H → va_D A (zw G (XS b) 105 a g L) → va_S A s.heap H locs → lv_has ls 4 [] → W p l e { frames := 12, cells := 3, slots := 18, locals := 248 } s m [.ref (a 0), .int p1, .int p2, .int p3].toArray below meth c H locs 3 18 (vx_MQ below ((kQi G (S := Unit) (fun r' _ => res = .ok r') (fun _ => zw G (XS b) 105 a s9.1 s9.2)) A) ((kXC G (S := Unit) (fun E _ => res = .error E) (fun _ => zw G (XS b) 105 a s9.1 s9.2)) A) [.ref (a 0), .int p1, .int p2, .int p3].toArray s 3 18 A) (F0 m 54 ls [.int t0]) := by
          intro t0 g L H locs ls h hP hD hS hl
          unfold fX11_far_0_p54 at h
          exact y_xiret C hr hlk hP hD hS h (Nat.le_of_ble_eq_true rfl) (Nat.le_of_ble_eq_true rfl) dX11_far_54
        refine lv_if_ne (x := p3) (tgt := 47) hx hb dX11_far_34 (by decide) (fun c21 => ?_) (fun c21 => ?_)
        ·
          have h := ite_e c21 h
          refine lv_aload_n hx hb dX11_far_47 rfl (lv_at hl 0 rfl) ?_
          refine x_getr (Or.inl fl_X11_62) C hP (by decide) xs_0 rfl dX11_far_48 ?_
          obtain ⟨z_, g23, L24, hf25, h⟩ := cb_some h
          refine x_callNi (rest := []) li_X11_255 C (rX10_laterMinutes_9 l G H.size b a fu g18 L19 z_ (g23, L24) hf25) (kR rfl) hP hD hS 9 10 rfl (zat (by decide) xs_9) rfl hl.1 rfl (Nat.le_of_ble_eq_true rfl) dX11_far_51 (fun x22 u_ H locs e_ hP hD hS => ?_)
          have e_ : x22 = z_ := e_
          subst e_
          have hP : va_P G.1 vwCl (zw G (XS b) 105 a g23 L24) H := hP
          have hD : va_D A (zw G (XS b) 105 a g23 L24) := hD
          exact J54 x22 g23 L24 H locs ls h hP hD hS (lv_sub hl [] rfl)
        ·
          have h := ite_t c21 h
          refine lv_aload_n hx hb dX11_far_37 rfl (lv_at hl 0 rfl) ?_
          refine x_getr (Or.inl fl_X11_62) C hP (by decide) xs_0 rfl dX11_far_38 ?_
          obtain ⟨z_, g27, L28, hf29, h⟩ := cb_some h
          refine x_callNi (rest := []) li_X11_252 C (rX10_laterBits_9 l G H.size b a fu g18 L19 z_ (g27, L28) hf29) (kR rfl) hP hD hS 9 10 rfl (zat (by decide) xs_9) rfl hl.1 rfl (Nat.le_of_ble_eq_true rfl) dX11_far_41 (fun x26 u_ H locs e_ hP hD hS => ?_)
          have e_ : x26 = z_ := e_
          subst e_
          have hP : va_P G.1 vwCl (zw G (XS b) 105 a g27 L28) H := hP
          have hD : va_D A (zw G (XS b) 105 a g27 L28) := hD
          refine lv_goto (tgt := 54) hx hb dX11_far_44 (by decide) ?_
          exact J54 x26 g27 L28 H locs ls h hP hD hS (lv_sub hl [] rfl)
def fX11_reaches_0 (fu : Nat) (p1 : Int32) (p2 : Int32) (g : Nat → Nat → Int32) (L : Nat → Nat → Int64) : Option ((Except String Int32) × zS) :=
  cbx (fX11_needLesson_0 fu p1 g L) (fun x1 g2 L3 =>
  cbx (fX11_needLesson_0 fu p2 g2 L3) (fun x5 g6 L7 =>
  if (p1 : Int32) = p2 then some (.error "java/lang/IllegalArgumentException", (g6, L7))
  else cb (fX10_leastThatReaches_9 fu p1 p2 g6 L7) (fun x10 g11 L12 =>
  some (.ok x10, (g11, L12)))))
set_option maxHeartbeats 4000000 in
set_option maxRecDepth 100000 in
theorem rX11_reaches_0 (l : Launch) (hst : l.stackTraces = false) (G : kG) (sz : Nat) (b : Nat) (a : Nat → Nat) (fu : Nat) (g : Nat → Nat → Int32) (L : Nat → Nat → Int64) (p1 : Int32) (p2 : Int32) (res : Except String Int32) (s9 : zS) (h : fX11_reaches_0 fu p1 p2 g L = some (res, s9)) : kMX l yX11_reaches cX11_reaches 3 (some .int) { frames := 13, cells := 3, slots := 18, locals := 271 } G [.ref (a 0), .int p1, .int p2] (zw G (XS b) 105 a g L) sz (kQi G (S := Unit) (fun r' _ => res = .ok r') (fun _ => zw G (XS b) 105 a s9.1 s9.2)) (kXC G (S := Unit) (fun E _ => res = .error E) (fun _ => zw G (XS b) 105 a s9.1 s9.2)) := by
  refine kMX.of (by decide) (Nat.le_of_ble_eq_true rfl) ?_
  intro p e s m below meth c A ls H C hr hlk hno hP hD hS hl
  have C : kC G p s m c cX11_reaches 3 RX11 A := C
  have hx := C.1
  have hb := C.2.1
  have hl : lv_has ls 3 [(0, .ref (a 0)), (1, .int p1), (2, .int p2)] := hl
  obtain ⟨locs, hlocs⟩ : ∃ q : List Loc, q = [] := ⟨_, rfl⟩
  rw [← hlocs] at hS
  rw [← hlocs]
  unfold fX11_reaches_0 at h
  refine lv_aload_n hx hb dX11_reaches_0 rfl (lv_at hl 0 rfl) ?_
  refine lv_iload_n hx hb dX11_reaches_1 rfl (lv_at hl 1 rfl) ?_
  obtain ⟨z_, g2, L3, hf4, h⟩ := cbx_some h
  refine x_xcallVv (rest := []) li_X11_156 C (rX11_needLesson_0 l hst G H.size b a fu g L p1 z_ (g2, L3) hf4) (kR rfl) hP hD hS 0 11 rfl (zat (by decide) xs_0) rfl hl.1 rfl (Nat.le_of_ble_eq_true rfl) dX11_reaches_2 (fun E ce q9 u_ H locs e_ hP hD hS hc1 hc2 hc3 => ?_) (fun u_ H locs e_ hP hD hS => ?_)
  ·
    obtain ⟨e1_, e2_⟩ := cbx_err h e_
    exact x_xout hno hlk hP hD hS hc1 hc2 hc3 () (by rw [e2_]) e1_ (Nat.le_of_ble_eq_true rfl) (Nat.le_of_ble_eq_true rfl)
  ·
    have h := cbx_ok h e_
    have hP : va_P G.1 vwCl (zw G (XS b) 105 a g2 L3) H := hP
    have hD : va_D A (zw G (XS b) 105 a g2 L3) := hD
    refine lv_aload_n hx hb dX11_reaches_5 rfl (lv_at hl 0 rfl) ?_
    refine lv_iload_n hx hb dX11_reaches_6 rfl (lv_at hl 2 rfl) ?_
    obtain ⟨z_, g6, L7, hf8, h⟩ := cbx_some h
    refine x_xcallVv (rest := []) li_X11_156 C (rX11_needLesson_0 l hst G H.size b a fu g2 L3 p2 z_ (g6, L7) hf8) (kR rfl) hP hD hS 0 11 rfl (zat (by decide) xs_0) rfl hl.1 rfl (Nat.le_of_ble_eq_true rfl) dX11_reaches_7 (fun E ce q9 u_ H locs e_ hP hD hS hc1 hc2 hc3 => ?_) (fun u_ H locs e_ hP hD hS => ?_)
    ·
      obtain ⟨e1_, e2_⟩ := cbx_err h e_
      exact x_xout hno hlk hP hD hS hc1 hc2 hc3 () (by rw [e2_]) e1_ (Nat.le_of_ble_eq_true rfl) (Nat.le_of_ble_eq_true rfl)
    ·
      have h := cbx_ok h e_
      have hP : va_P G.1 vwCl (zw G (XS b) 105 a g6 L7) H := hP
      have hD : va_D A (zw G (XS b) 105 a g6 L7) := hD
      refine lv_iload_n hx hb dX11_reaches_10 rfl (lv_at hl 1 rfl) ?_
      refine lv_iload_n hx hb dX11_reaches_11 rfl (lv_at hl 2 rfl) ?_
      refine lv_icmp_ne (x := p1) (y := p2) (tgt := 23) hx hb dX11_reaches_12 (by decide) (fun c9 => ?_) (fun c9 => ?_)
      ·
        have h := ite_e c9 h
        refine lv_aload_n hx hb dX11_reaches_23 rfl (lv_at hl 0 rfl) ?_
        refine x_getr (Or.inl fl_X11_62) C hP (by decide) xs_0 rfl dX11_reaches_24 ?_
        refine lv_iload_n hx hb dX11_reaches_27 rfl (lv_at hl 1 rfl) ?_
        refine lv_iload_n hx hb dX11_reaches_28 rfl (lv_at hl 2 rfl) ?_
        obtain ⟨z_, g11, L12, hf13, h⟩ := cb_some h
        refine x_callNi (rest := []) li_X11_258 C (rX10_leastThatReaches_9 l G H.size b a fu g6 L7 p1 p2 z_ (g11, L12) hf13) (kR rfl) hP hD hS 9 10 rfl (zat (by decide) xs_9) rfl hl.1 rfl (Nat.le_of_ble_eq_true rfl) dX11_reaches_29 (fun x10 u_ H locs e_ hP hD hS => ?_)
        have e_ : x10 = z_ := e_
        subst e_
        have hP : va_P G.1 vwCl (zw G (XS b) 105 a g11 L12) H := hP
        have hD : va_D A (zw G (XS b) 105 a g11 L12) := hD
        exact y_xiret C hr hlk hP hD hS h (Nat.le_of_ble_eq_true rfl) (Nat.le_of_ble_eq_true rfl) dX11_reaches_32
      ·
        have h := ite_t c9 h
        exact y_throw hst ⟨by decide +kernel, by decide +kernel⟩ th_X11_105_107 hno hlk C hl.1 hP hD hS dX11_reaches_15 dX11_reaches_18 dX11_reaches_19 dX11_reaches_22 (Nat.lt_of_lt_of_le (by decide) (Nat.le_of_ble_eq_true rfl : 6 ≤ _)) (Nat.le_of_ble_eq_true rfl) ⟨(Nat.le_of_ble_eq_true rfl), (Nat.le_of_ble_eq_true rfl)⟩ h (Nat.le_of_ble_eq_true rfl) (Nat.le_of_ble_eq_true rfl)
def fX11_slack_0 (fu : Nat) (p1 : Int32) (g : Nat → Nat → Int32) (L : Nat → Nat → Int64) : Option ((Except String Int32) × zS) :=
  cbx (fX11_needLesson_0 fu p1 g L) (fun x1 g2 L3 =>
  cb (fX10_mostThatDies_9 fu p1 g2 L3) (fun x5 g6 L7 =>
  some (.ok x5, (g6, L7))))
set_option maxHeartbeats 4000000 in
set_option maxRecDepth 100000 in
theorem rX11_slack_0 (l : Launch) (hst : l.stackTraces = false) (G : kG) (sz : Nat) (b : Nat) (a : Nat → Nat) (fu : Nat) (g : Nat → Nat → Int32) (L : Nat → Nat → Int64) (p1 : Int32) (res : Except String Int32) (s9 : zS) (h : fX11_slack_0 fu p1 g L = some (res, s9)) : kMX l yX11_slack cX11_slack 2 (some .int) { frames := 13, cells := 1, slots := 6, locals := 270 } G [.ref (a 0), .int p1] (zw G (XS b) 105 a g L) sz (kQi G (S := Unit) (fun r' _ => res = .ok r') (fun _ => zw G (XS b) 105 a s9.1 s9.2)) (kXC G (S := Unit) (fun E _ => res = .error E) (fun _ => zw G (XS b) 105 a s9.1 s9.2)) := by
  refine kMX.of (by decide) (Nat.le_of_ble_eq_true rfl) ?_
  intro p e s m below meth c A ls H C hr hlk hno hP hD hS hl
  have C : kC G p s m c cX11_slack 2 RX11 A := C
  have hx := C.1
  have hb := C.2.1
  have hl : lv_has ls 2 [(0, .ref (a 0)), (1, .int p1)] := hl
  obtain ⟨locs, hlocs⟩ : ∃ q : List Loc, q = [] := ⟨_, rfl⟩
  rw [← hlocs] at hS
  rw [← hlocs]
  unfold fX11_slack_0 at h
  refine lv_aload_n hx hb dX11_slack_0 rfl (lv_at hl 0 rfl) ?_
  refine lv_iload_n hx hb dX11_slack_1 rfl (lv_at hl 1 rfl) ?_
  obtain ⟨z_, g2, L3, hf4, h⟩ := cbx_some h
  refine x_xcallVv (rest := []) li_X11_156 C (rX11_needLesson_0 l hst G H.size b a fu g L p1 z_ (g2, L3) hf4) (kR rfl) hP hD hS 0 11 rfl (zat (by decide) xs_0) rfl hl.1 rfl (Nat.le_of_ble_eq_true rfl) dX11_slack_2 (fun E ce q9 u_ H locs e_ hP hD hS hc1 hc2 hc3 => ?_) (fun u_ H locs e_ hP hD hS => ?_)
  ·
    obtain ⟨e1_, e2_⟩ := cbx_err h e_
    exact x_xout hno hlk hP hD hS hc1 hc2 hc3 () (by rw [e2_]) e1_ (Nat.le_of_ble_eq_true rfl) (Nat.le_of_ble_eq_true rfl)
  ·
    have h := cbx_ok h e_
    have hP : va_P G.1 vwCl (zw G (XS b) 105 a g2 L3) H := hP
    have hD : va_D A (zw G (XS b) 105 a g2 L3) := hD
    refine lv_aload_n hx hb dX11_slack_5 rfl (lv_at hl 0 rfl) ?_
    refine x_getr (Or.inl fl_X11_62) C hP (by decide) xs_0 rfl dX11_slack_6 ?_
    refine lv_iload_n hx hb dX11_slack_9 rfl (lv_at hl 1 rfl) ?_
    obtain ⟨z_, g6, L7, hf8, h⟩ := cb_some h
    refine x_callNi (rest := []) li_X11_261 C (rX10_mostThatDies_9 l G H.size b a fu g2 L3 p1 z_ (g6, L7) hf8) (kR rfl) hP hD hS 9 10 rfl (zat (by decide) xs_9) rfl hl.1 rfl (Nat.le_of_ble_eq_true rfl) dX11_slack_10 (fun x5 u_ H locs e_ hP hD hS => ?_)
    have e_ : x5 = z_ := e_
    subst e_
    have hP : va_P G.1 vwCl (zw G (XS b) 105 a g6 L7) H := hP
    have hD : va_D A (zw G (XS b) 105 a g6 L7) := hD
    exact y_xiret C hr hlk hP hD hS h (Nat.le_of_ble_eq_true rfl) (Nat.le_of_ble_eq_true rfl) dX11_slack_13
def fJI_bitCount (fu : Nat) (p1 : Int32) (g : Nat → Nat → Int32) (L : Nat → Nat → Int64) : Option ((Int32) × zS) :=
  lti (p1 - ((Int32.toUInt32 p1 >>> (Int32.toUInt32 1 &&& Int32.toUInt32 31)).toInt32 &&& 1431655765)) (fun x1 =>
  lti ((x1 &&& 858993459) + ((Int32.toUInt32 x1 >>> (Int32.toUInt32 2 &&& Int32.toUInt32 31)).toInt32 &&& 858993459)) (fun x2 =>
  lti ((x2 + (Int32.toUInt32 x2 >>> (Int32.toUInt32 4 &&& Int32.toUInt32 31)).toInt32) &&& 252645135) (fun x3 =>
  lti (x3 + (Int32.toUInt32 x3 >>> (Int32.toUInt32 8 &&& Int32.toUInt32 31)).toInt32) (fun x4 =>
  lti (x4 + (Int32.toUInt32 x4 >>> (Int32.toUInt32 16 &&& Int32.toUInt32 31)).toInt32) (fun x5 =>
  some ((x5 &&& 63), (g, L)))))))
set_option maxHeartbeats 4000000 in
set_option maxRecDepth 100000 in
theorem rJI_bitCount (l : Launch) (G : kG) (sz : Nat) (b : Nat) (a : Nat → Nat) (fu : Nat) (g : Nat → Nat → Int32) (L : Nat → Nat → Int64) (p1 : Int32) (res : Int32) (s9 : zS) (h : fJI_bitCount fu p1 g L = some (res, s9)) : kM l yJI_bitCount cJI_bitCount 1 (some .int) { frames := 6, cells := 0, slots := 0, locals := 110 } G [.int p1] (zw G (XS b) 105 a g L) sz (kQi G (S := Unit) (fun r' _ => r' = res) (fun _ => zw G (XS b) 105 a s9.1 s9.2)) := by
  refine kM.of (by decide) (Nat.le_of_ble_eq_true rfl) ?_
  intro p e s m below meth c A ls H C hr hlk hnm hP hD hS hl
  have C : kC G p s m c cJI_bitCount 1 RJI A := C
  have hx := C.1
  have hb := C.2.1
  have hl : lv_has ls 1 [(0, .int p1)] := hl
  obtain ⟨locs, hlocs⟩ : ∃ q : List Loc, q = [] := ⟨_, rfl⟩
  rw [← hlocs] at hS
  rw [← hlocs]
  unfold fJI_bitCount at h
  refine lv_iload_n hx hb dJI_bitCount_0 rfl (lv_at hl 0 rfl) ?_
  refine lv_iload_n hx hb dJI_bitCount_1 rfl (lv_at hl 0 rfl) ?_
  refine lv_iconst (v := 1) hx hb dJI_bitCount_2 (by decide) ?_
  refine lv_iushr hx hb dJI_bitCount_3 rfl ?_
  refine lv_ldcw (v := 1431655765) hx hb C.2.2.2.1 (C.2.2.2.2.1.w tw_1136 rfl) dJI_bitCount_4 ?_
  refine lv_iand hx hb dJI_bitCount_7 ?_
  refine lv_isub hx hb dJI_bitCount_8 ?_
  refine y_let h (fun x1 h => ?_)
  refine lv_istore_n (lv' := [(0, .int x1)]) hx hb dJI_bitCount_9 rfl hl (by decide) rfl (fun ls hl => ?_)
  refine lv_iload_n hx hb dJI_bitCount_10 rfl (lv_at hl 0 rfl) ?_
  refine lv_ldcw (v := 858993459) hx hb C.2.2.2.1 (C.2.2.2.2.1.w tw_1137 rfl) dJI_bitCount_11 ?_
  refine lv_iand hx hb dJI_bitCount_14 ?_
  refine lv_iload_n hx hb dJI_bitCount_15 rfl (lv_at hl 0 rfl) ?_
  refine lv_iconst (v := 2) hx hb dJI_bitCount_16 (by decide) ?_
  refine lv_iushr hx hb dJI_bitCount_17 rfl ?_
  refine lv_ldcw (v := 858993459) hx hb C.2.2.2.1 (C.2.2.2.2.1.w tw_1137 rfl) dJI_bitCount_18 ?_
  refine lv_iand hx hb dJI_bitCount_21 ?_
  refine lv_iadd hx hb dJI_bitCount_22 ?_
  refine y_let h (fun x2 h => ?_)
  refine lv_istore_n (lv' := [(0, .int x2)]) hx hb dJI_bitCount_23 rfl hl (by decide) rfl (fun ls hl => ?_)
  refine lv_iload_n hx hb dJI_bitCount_24 rfl (lv_at hl 0 rfl) ?_
  refine lv_iload_n hx hb dJI_bitCount_25 rfl (lv_at hl 0 rfl) ?_
  refine lv_iconst (v := 4) hx hb dJI_bitCount_26 (by decide) ?_
  refine lv_iushr hx hb dJI_bitCount_27 rfl ?_
  refine lv_iadd hx hb dJI_bitCount_28 ?_
  refine lv_ldcw (v := 252645135) hx hb C.2.2.2.1 (C.2.2.2.2.1.w tw_1138 rfl) dJI_bitCount_29 ?_
  refine lv_iand hx hb dJI_bitCount_32 ?_
  refine y_let h (fun x3 h => ?_)
  refine lv_istore_n (lv' := [(0, .int x3)]) hx hb dJI_bitCount_33 rfl hl (by decide) rfl (fun ls hl => ?_)
  refine lv_iload_n hx hb dJI_bitCount_34 rfl (lv_at hl 0 rfl) ?_
  refine lv_iload_n hx hb dJI_bitCount_35 rfl (lv_at hl 0 rfl) ?_
  refine lv_bipush (v := 8) hx hb dJI_bitCount_36 (by decide) ?_
  refine lv_iushr hx hb dJI_bitCount_38 rfl ?_
  refine lv_iadd hx hb dJI_bitCount_39 ?_
  refine y_let h (fun x4 h => ?_)
  refine lv_istore_n (lv' := [(0, .int x4)]) hx hb dJI_bitCount_40 rfl hl (by decide) rfl (fun ls hl => ?_)
  refine lv_iload_n hx hb dJI_bitCount_41 rfl (lv_at hl 0 rfl) ?_
  refine lv_iload_n hx hb dJI_bitCount_42 rfl (lv_at hl 0 rfl) ?_
  refine lv_bipush (v := 16) hx hb dJI_bitCount_43 (by decide) ?_
  refine lv_iushr hx hb dJI_bitCount_45 rfl ?_
  refine lv_iadd hx hb dJI_bitCount_46 ?_
  refine y_let h (fun x5 h => ?_)
  refine lv_istore_n (lv' := [(0, .int x5)]) hx hb dJI_bitCount_47 rfl hl (by decide) rfl (fun ls hl => ?_)
  refine lv_iload_n hx hb dJI_bitCount_48 rfl (lv_at hl 0 rfl) ?_
  refine lv_bipush (v := 63) hx hb dJI_bitCount_49 (by decide) ?_
  refine lv_iand hx hb dJI_bitCount_51 ?_
  exact y_iret C hr hlk hP hD hS h (Nat.le_of_ble_eq_true rfl) (Nat.le_of_ble_eq_true rfl) dJI_bitCount_52
def fX11_gaps_0_p33 (fu : Nat) (g : Nat → Nat → Int32) (L : Nat → Nat → Int64) : Option ((Except String Int32) × zS) :=
  some (.error "java/lang/IllegalArgumentException", (g, L))
def fX11_gaps_0_p82 (fu : Nat) (v4 : Int32) (g : Nat → Nat → Int32) (L : Nat → Nat → Int64) : Option ((Except String Int32) × zS) :=
  some (.ok v4, (g, L))
def fX11_gaps_0 (fu : Nat) (p1 : Int32) (p2 : Int32) (p3 : Int32) (g : Nat → Nat → Int32) (L : Nat → Nat → Int64) : Option ((Except String Int32) × zS) :=
  cbx (fX11_needLesson_0 fu p2 g L) (fun x1 g2 L3 =>
  cbx (fX11_needWithin fu p3 0 999 g2 L3) (fun x5 g6 L7 =>
  if (Int32.toUInt32 p1 >>> (Int32.toUInt32 (g6 1 2) &&& Int32.toUInt32 31)).toInt32 = 0 then cb (fJI_bitCount fu p1 g6 L7) (fun x10 g11 L12 =>
  if (x10 : Int32) ≤ 5 then cb (fX2_fewest_10 fu p1 p2 p3 g11 L12) (fun x15 g16 L17 =>
  if (x15 : Int32) = (-1) then fX11_gaps_0_p82 fu x15 g16 L17
  else stA g16 16 (va_cpy (g16 51) (g16 16) (Int32.toNatClampNeg 0) (Int32.toNatClampNeg 0) (Int32.toNatClampNeg 12)) (fun g20 =>
  sti g20 0 16 1 (fun g21 =>
  fX11_gaps_0_p82 fu x15 g21 L17)))
  else fX11_gaps_0_p33 fu g11 L12)
  else fX11_gaps_0_p33 fu g6 L7))
set_option maxHeartbeats 4000000 in
set_option maxRecDepth 100000 in
theorem rX11_gaps_0 (l : Launch) (hst : l.stackTraces = false) (G : kG) (sz : Nat) (b : Nat) (a : Nat → Nat) (fu : Nat) (g : Nat → Nat → Int32) (L : Nat → Nat → Int64) (p1 : Int32) (p2 : Int32) (p3 : Int32) (res : Except String Int32) (s9 : zS) (h : fX11_gaps_0 fu p1 p2 p3 g L = some (res, s9)) : kMX l yX11_gaps cX11_gaps 5 (some .int) { frames := 37, cells := 3, slots := 18, locals := 825 } G [.ref (a 0), .int p1, .int p2, .int p3] (zw G (XS b) 105 a g L) sz (kQi G (S := Unit) (fun r' _ => res = .ok r') (fun _ => zw G (XS b) 105 a s9.1 s9.2)) (kXC G (S := Unit) (fun E _ => res = .error E) (fun _ => zw G (XS b) 105 a s9.1 s9.2)) := by
  refine kMX.of (by decide) (Nat.le_of_ble_eq_true rfl) ?_
  intro p e s m below meth c A ls H C hr hlk hno hP hD hS hl
  have C : kC G p s m c cX11_gaps 5 RX11 A := C
  have hx := C.1
  have hb := C.2.1
  have hl : lv_has ls 5 [(0, .ref (a 0)), (1, .int p1), (2, .int p2), (3, .int p3)] := hl
  obtain ⟨locs, hlocs⟩ : ∃ q : List Loc, q = [] := ⟨_, rfl⟩
  rw [← hlocs] at hS
  rw [← hlocs]
  unfold fX11_gaps_0 at h
  refine lv_aload_n hx hb dX11_gaps_0 rfl (lv_at hl 0 rfl) ?_
  refine lv_iload_n hx hb dX11_gaps_1 rfl (lv_at hl 2 rfl) ?_
  obtain ⟨z_, g2, L3, hf4, h⟩ := cbx_some h
  refine x_xcallVv (rest := []) li_X11_156 C (rX11_needLesson_0 l hst G H.size b a fu g L p2 z_ (g2, L3) hf4) (kR rfl) hP hD hS 0 11 rfl (zat (by decide) xs_0) rfl hl.1 rfl (Nat.le_of_ble_eq_true rfl) dX11_gaps_2 (fun E ce q9 u_ H locs e_ hP hD hS hc1 hc2 hc3 => ?_) (fun u_ H locs e_ hP hD hS => ?_)
  ·
    obtain ⟨e1_, e2_⟩ := cbx_err h e_
    exact x_xout hno hlk hP hD hS hc1 hc2 hc3 () (by rw [e2_]) e1_ (Nat.le_of_ble_eq_true rfl) (Nat.le_of_ble_eq_true rfl)
  ·
    have h := cbx_ok h e_
    have hP : va_P G.1 vwCl (zw G (XS b) 105 a g2 L3) H := hP
    have hD : va_D A (zw G (XS b) 105 a g2 L3) := hD
    refine lv_iload_n hx hb dX11_gaps_5 rfl (lv_at hl 3 rfl) ?_
    refine lv_iconst (v := 0) hx hb dX11_gaps_6 (by decide) ?_
    refine lv_sipush (v := 999) hx hb dX11_gaps_7 (by decide) ?_
    obtain ⟨z_, g6, L7, hf8, h⟩ := cbx_some h
    refine x_xcallSv (rest := []) li_X11_243 C (rX11_needWithin l hst G H.size b a fu g2 L3 p3 0 999 z_ (g6, L7) hf8) (kR rfl) hP hD hS rfl hl.1 rfl (Nat.le_of_ble_eq_true rfl) dX11_gaps_10 (fun E ce q9 u_ H locs e_ hP hD hS hc1 hc2 hc3 => ?_) (fun u_ H locs e_ hP hD hS => ?_)
    ·
      obtain ⟨e1_, e2_⟩ := cbx_err h e_
      exact x_xout hno hlk hP hD hS hc1 hc2 hc3 () (by rw [e2_]) e1_ (Nat.le_of_ble_eq_true rfl) (Nat.le_of_ble_eq_true rfl)
    ·
      have h := cbx_ok h e_
      have hP : va_P G.1 vwCl (zw G (XS b) 105 a g6 L7) H := hP
      have hD : va_D A (zw G (XS b) 105 a g6 L7) := hD
      refine lv_iload_n hx hb dX11_gaps_13 rfl (lv_at hl 1 rfl) ?_
      refine lv_aload_n hx hb dX11_gaps_14 rfl (lv_at hl 0 rfl) ?_
      refine x_getr (Or.inl fl_X11_22) C hP (by decide) xs_0 rfl dX11_gaps_15 ?_
      refine x_getv (v := .int (g6 1 2)) (Or.inr fl_X11_125) C hP (by decide) xs_1 rfl dX11_gaps_18 ?_
      refine lv_iushr hx hb dX11_gaps_21 rfl ?_
      have J33 : ∀ (g : Nat → Nat → Int32) (L : Nat → Nat → Int64) (H : Heap) (locs : List Loc) (ls : Array Slot), fX11_gaps_0_p33 fu g L = some (res, s9) → va_P G.1 vwCl (zw G (XS b) 105 a g L) H → va_D A (zw G (XS b) 105 a g L) → va_S A s.heap H locs → lv_has ls 5 [] → W p l e { frames := 37, cells := 3, slots := 18, locals := 825 } s m [.ref (a 0), .int p1, .int p2, .int p3].toArray below meth c H locs 2 12 (vx_MQ below ((kQi G (S := Unit) (fun r' _ => res = .ok r') (fun _ => zw G (XS b) 105 a s9.1 s9.2)) A) ((kXC G (S := Unit) (fun E _ => res = .error E) (fun _ => zw G (XS b) 105 a s9.1 s9.2)) A) [.ref (a 0), .int p1, .int p2, .int p3].toArray s 3 18 A) (F0 m 33 ls []) := by
        intro g L H locs ls h hP hD hS hl
        unfold fX11_gaps_0_p33 at h
        exact y_throw hst ⟨by decide +kernel, by decide +kernel⟩ th_X11_105_107 hno hlk C hl.1 hP hD hS dX11_gaps_33 dX11_gaps_36 dX11_gaps_37 dX11_gaps_40 (Nat.lt_of_lt_of_le (by decide) (Nat.le_of_ble_eq_true rfl : 6 ≤ _)) (Nat.le_of_ble_eq_true rfl) ⟨(Nat.le_of_ble_eq_true rfl), (Nat.le_of_ble_eq_true rfl)⟩ h (Nat.le_of_ble_eq_true rfl) (Nat.le_of_ble_eq_true rfl)
      refine lv_if_ne (x := (Int32.toUInt32 p1 >>> (Int32.toUInt32 (g6 1 2) &&& Int32.toUInt32 31)).toInt32) (tgt := 33) hx hb dX11_gaps_22 (by decide) (fun c9 => ?_) (fun c9 => ?_)
      ·
        have h := ite_e c9 h
        exact J33 g6 L7 H locs ls h hP hD hS (lv_sub hl [] rfl)
      ·
        have h := ite_t c9 h
        refine lv_iload_n hx hb dX11_gaps_25 rfl (lv_at hl 1 rfl) ?_
        obtain ⟨z_, g11, L12, hf13, h⟩ := cb_some h
        refine x_callSi (rest := []) li_X11_264 C (rJI_bitCount l G H.size b a fu g6 L7 p1 z_ (g11, L12) hf13) (kR rfl) hP hD hS rfl hl.1 rfl (Nat.le_of_ble_eq_true rfl) dX11_gaps_26 (fun x10 u_ H locs e_ hP hD hS => ?_)
        have e_ : x10 = z_ := e_
        subst e_
        have hP : va_P G.1 vwCl (zw G (XS b) 105 a g11 L12) H := hP
        have hD : va_D A (zw G (XS b) 105 a g11 L12) := hD
        refine lv_iconst (v := 5) hx hb dX11_gaps_29 (by decide) ?_
        refine lv_icmp_le (x := x10) (y := 5) (tgt := 41) hx hb dX11_gaps_30 (by decide) (fun c14 => ?_) (fun c14 => ?_)
        ·
          have h := ite_t c14 h
          refine lv_aload_n hx hb dX11_gaps_41 rfl (lv_at hl 0 rfl) ?_
          refine x_getr (Or.inl fl_X11_69) C hP (by decide) xs_0 rfl dX11_gaps_42 ?_
          refine lv_iload_n hx hb dX11_gaps_45 rfl (lv_at hl 1 rfl) ?_
          refine lv_iload_n hx hb dX11_gaps_46 rfl (lv_at hl 2 rfl) ?_
          refine lv_iload_n hx hb dX11_gaps_47 rfl (lv_at hl 3 rfl) ?_
          obtain ⟨z_, g16, L17, hf18, h⟩ := cb_some h
          refine x_callNi (rest := []) li_X11_269 C (rX2_fewest_10 l G H.size b a fu g11 L12 p1 p2 p3 z_ (g16, L17) hf18) (kR rfl) hP hD hS 10 2 rfl (zat (by decide) xs_10) rfl hl.1 rfl (Nat.le_of_ble_eq_true rfl) dX11_gaps_48 (fun x15 u_ H locs e_ hP hD hS => ?_)
          have e_ : x15 = z_ := e_
          subst e_
          have hP : va_P G.1 vwCl (zw G (XS b) 105 a g16 L17) H := hP
          have hD : va_D A (zw G (XS b) 105 a g16 L17) := hD
          refine lv_istore (lv' := [(4, .int x15), (0, .ref (a 0)), (1, .int p1), (2, .int p2), (3, .int p3)]) hx hb dX11_gaps_51 hl (by decide) rfl (fun ls hl => ?_)
          refine lv_iload hx hb dX11_gaps_53 (lv_at hl 0 rfl) ?_
          refine lv_iconst (v := -1) hx hb dX11_gaps_55 (by decide) ?_
          have J82 : ∀ (v4 : Int32) (g : Nat → Nat → Int32) (L : Nat → Nat → Int64) (H : Heap) (locs : List Loc) (ls : Array Slot), fX11_gaps_0_p82 fu v4 g L = some (res, s9) → va_P G.1 vwCl (zw G (XS b) 105 a g L) H → va_D A (zw G (XS b) 105 a g L) → va_S A s.heap H locs → lv_has ls 5 [(4, .int v4)] → W p l e { frames := 37, cells := 3, slots := 18, locals := 825 } s m [.ref (a 0), .int p1, .int p2, .int p3].toArray below meth c H locs 2 12 (vx_MQ below ((kQi G (S := Unit) (fun r' _ => res = .ok r') (fun _ => zw G (XS b) 105 a s9.1 s9.2)) A) ((kXC G (S := Unit) (fun E _ => res = .error E) (fun _ => zw G (XS b) 105 a s9.1 s9.2)) A) [.ref (a 0), .int p1, .int p2, .int p3].toArray s 3 18 A) (F0 m 82 ls []) := by
            intro v4 g L H locs ls h hP hD hS hl
            unfold fX11_gaps_0_p82 at h
            refine lv_iload hx hb dX11_gaps_82 (lv_at hl 0 rfl) ?_
            exact y_xiret C hr hlk hP hD hS h (Nat.le_of_ble_eq_true rfl) (Nat.le_of_ble_eq_true rfl) dX11_gaps_84
          refine lv_icmp_eq (x := x15) (y := (-1)) (tgt := 82) hx hb dX11_gaps_56 (by decide) (fun c19 => ?_) (fun c19 => ?_)
          ·
            have h := ite_t c19 h
            exact J82 x15 g16 L17 H locs ls h hP hD hS (lv_sub hl [0] rfl)
          ·
            have h := ite_e c19 h
            refine lv_aload_n hx hb dX11_gaps_59 rfl (lv_at hl 1 rfl) ?_
            refine x_getr (Or.inl fl_X11_69) C hP (by decide) xs_0 rfl dX11_gaps_60 ?_
            refine x_getr (Or.inr fl_X11_273) C hP (by decide) xs_10 rfl dX11_gaps_63 ?_
            refine lv_iconst (v := 0) hx hb dX11_gaps_66 (by decide) ?_
            refine lv_aload_n hx hb dX11_gaps_67 rfl (lv_at hl 1 rfl) ?_
            refine x_getr (Or.inl fl_X11_16) C hP (by decide) xs_0 rfl dX11_gaps_68 ?_
            refine lv_iconst (v := 0) hx hb dX11_gaps_71 (by decide) ?_
            refine lv_bipush (v := 12) hx hb dX11_gaps_72 (by decide) ?_
            refine y_copy lc_X11_276 C hl.1 hP hD hS (by decide) (by decide) xs_51 xs_16 (by decide) (by decide) (by decide) (by decide) (by decide) (Nat.le_of_ble_eq_true rfl) (Nat.le_of_ble_eq_true rfl) dX11_gaps_74 h (fun g20 H locs h hP hD hS => ?_)
            refine lv_aload_n hx hb dX11_gaps_77 rfl (lv_at hl 1 rfl) ?_
            refine lv_iconst (v := 1) hx hb dX11_gaps_78 (by decide) ?_
            refine y_puti (Or.inl fl_X11_98) ft_X11_16 C hP hD hS (by decide) xs_0 rfl rfl rfl dX11_gaps_79 h (fun g21 H locs h hP hD hS => ?_)
            exact J82 x15 g21 L17 H locs ls h hP hD hS (lv_sub hl [0] rfl)
        ·
          have h := ite_e c14 h
          exact J33 g11 L12 H locs ls h hP hD hS (lv_sub hl [] rfl)
def fX11_gap_0 (fu : Nat) (p1 : Int32) (g : Nat → Nat → Int32) (L : Nat → Nat → Int64) : Option ((Except String Int32) × zS) :=
  cbx (fX11_needLesson_0 fu p1 g L) (fun x1 g2 L3 =>
  if (g2 0 16) = 0 then some (.error "java/util/NoSuchElementException", (g2, L3))
  else ck p1 12 (
  some (.ok (g2 16 (Int32.toNatClampNeg p1)), (g2, L3))))
set_option maxHeartbeats 4000000 in
set_option maxRecDepth 100000 in
theorem rX11_gap_0 (l : Launch) (hst : l.stackTraces = false) (G : kG) (sz : Nat) (b : Nat) (a : Nat → Nat) (fu : Nat) (g : Nat → Nat → Int32) (L : Nat → Nat → Int64) (p1 : Int32) (res : Except String Int32) (s9 : zS) (h : fX11_gap_0 fu p1 g L = some (res, s9)) : kMX l yX11_gap cX11_gap 2 (some .int) { frames := 7, cells := 2, slots := 12, locals := 131 } G [.ref (a 0), .int p1] (zw G (XS b) 105 a g L) sz (kQi G (S := Unit) (fun r' _ => res = .ok r') (fun _ => zw G (XS b) 105 a s9.1 s9.2)) (kXC G (S := Unit) (fun E _ => res = .error E) (fun _ => zw G (XS b) 105 a s9.1 s9.2)) := by
  refine kMX.of (by decide) (Nat.le_of_ble_eq_true rfl) ?_
  intro p e s m below meth c A ls H C hr hlk hno hP hD hS hl
  have C : kC G p s m c cX11_gap 2 RX11 A := C
  have hx := C.1
  have hb := C.2.1
  have hl : lv_has ls 2 [(0, .ref (a 0)), (1, .int p1)] := hl
  obtain ⟨locs, hlocs⟩ : ∃ q : List Loc, q = [] := ⟨_, rfl⟩
  rw [← hlocs] at hS
  rw [← hlocs]
  unfold fX11_gap_0 at h
  refine lv_aload_n hx hb dX11_gap_0 rfl (lv_at hl 0 rfl) ?_
  refine lv_iload_n hx hb dX11_gap_1 rfl (lv_at hl 1 rfl) ?_
  obtain ⟨z_, g2, L3, hf4, h⟩ := cbx_some h
  refine x_xcallVv (rest := []) li_X11_156 C (rX11_needLesson_0 l hst G H.size b a fu g L p1 z_ (g2, L3) hf4) (kR rfl) hP hD hS 0 11 rfl (zat (by decide) xs_0) rfl hl.1 rfl (Nat.le_of_ble_eq_true rfl) dX11_gap_2 (fun E ce q9 u_ H locs e_ hP hD hS hc1 hc2 hc3 => ?_) (fun u_ H locs e_ hP hD hS => ?_)
  ·
    obtain ⟨e1_, e2_⟩ := cbx_err h e_
    exact x_xout hno hlk hP hD hS hc1 hc2 hc3 () (by rw [e2_]) e1_ (Nat.le_of_ble_eq_true rfl) (Nat.le_of_ble_eq_true rfl)
  ·
    have h := cbx_ok h e_
    have hP : va_P G.1 vwCl (zw G (XS b) 105 a g2 L3) H := hP
    have hD : va_D A (zw G (XS b) 105 a g2 L3) := hD
    refine lv_aload_n hx hb dX11_gap_5 rfl (lv_at hl 0 rfl) ?_
    refine x_getv (v := .int (g2 0 16)) (Or.inl fl_X11_98) C hP (by decide) xs_0 rfl dX11_gap_6 ?_
    refine lv_if_ne (x := (g2 0 16)) (tgt := 20) hx hb dX11_gap_9 (by decide) (fun c5 => ?_) (fun c5 => ?_)
    ·
      have h := ite_e c5 h
      refine lv_aload_n hx hb dX11_gap_20 rfl (lv_at hl 0 rfl) ?_
      refine x_getr (Or.inl fl_X11_16) C hP (by decide) xs_0 rfl dX11_gap_21 ?_
      refine lv_iload_n hx hb dX11_gap_24 rfl (lv_at hl 1 rfl) ?_
      refine y_ald C hP (by decide) xs_16 dX11_gap_25 h (fun h => ?_)
      exact y_xiret C hr hlk hP hD hS h (Nat.le_of_ble_eq_true rfl) (Nat.le_of_ble_eq_true rfl) dX11_gap_26
    ·
      have h := ite_t c5 h
      exact y_throw hst ⟨by decide +kernel, by decide +kernel⟩ th_X11_219_221 hno hlk C hl.1 hP hD hS dX11_gap_12 dX11_gap_15 dX11_gap_16 dX11_gap_19 (Nat.lt_of_lt_of_le (by decide) (Nat.le_of_ble_eq_true rfl : 6 ≤ _)) (Nat.le_of_ble_eq_true rfl) ⟨(Nat.le_of_ble_eq_true rfl), (Nat.le_of_ble_eq_true rfl)⟩ h (Nat.le_of_ble_eq_true rfl) (Nat.le_of_ble_eq_true rfl)
def fX11_chance_0_p48 (fu : Nat) (t0 : Int64) (g : Nat → Nat → Int32) (L : Nat → Nat → Int64) : Option ((Except String Int64) × zS) :=
  some (.ok t0, (g, L))
def fX11_chance_0 (fu : Nat) (p1 : Int32) (p2 : Int32) (p3 : Int32) (g : Nat → Nat → Int32) (L : Nat → Nat → Int64) : Option ((Except String Int64) × zS) :=
  cbx (fX11_needLesson_0 fu p1 g L) (fun x1 g2 L3 =>
  cbx (fX11_needWhat fu p3 2 g2 L3) (fun x5 g6 L7 =>
  cbx (fX11_needWithin fu p2 0 999 g6 L7) (fun x9 g10 L11 =>
  cb (fX0_ofLate_11 fu p1 p2 g10 L11) (fun x13 g14 L15 =>
  if p3 = 0 then fX11_chance_0_p48 fu (L15 11 5) g14 L15
  else fX11_chance_0_p48 fu (L15 11 6) g14 L15))))
set_option maxHeartbeats 4000000 in
set_option maxRecDepth 100000 in
theorem rX11_chance_0 (l : Launch) (hst : l.stackTraces = false) (G : kG) (sz : Nat) (b : Nat) (a : Nat → Nat) (fu : Nat) (g : Nat → Nat → Int32) (L : Nat → Nat → Int64) (p1 : Int32) (p2 : Int32) (p3 : Int32) (res : Except String Int64) (s9 : zS) (h : fX11_chance_0 fu p1 p2 p3 g L = some (res, s9)) : kMX l yX11_chance cX11_chance 4 (some .long) { frames := 12, cells := 3, slots := 18, locals := 250 } G [.ref (a 0), .int p1, .int p2, .int p3] (zw G (XS b) 105 a g L) sz (kQl G (S := Unit) (fun r' _ => res = .ok r') (fun _ => zw G (XS b) 105 a s9.1 s9.2)) (kXC G (S := Unit) (fun E _ => res = .error E) (fun _ => zw G (XS b) 105 a s9.1 s9.2)) := by
  refine kMX.of (by decide) (Nat.le_of_ble_eq_true rfl) ?_
  intro p e s m below meth c A ls H C hr hlk hno hP hD hS hl
  have C : kC G p s m c cX11_chance 4 RX11 A := C
  have hx := C.1
  have hb := C.2.1
  have hl : lv_has ls 4 [(0, .ref (a 0)), (1, .int p1), (2, .int p2), (3, .int p3)] := hl
  obtain ⟨locs, hlocs⟩ : ∃ q : List Loc, q = [] := ⟨_, rfl⟩
  rw [← hlocs] at hS
  rw [← hlocs]
  unfold fX11_chance_0 at h
  refine lv_aload_n hx hb dX11_chance_0 rfl (lv_at hl 0 rfl) ?_
  refine lv_iload_n hx hb dX11_chance_1 rfl (lv_at hl 1 rfl) ?_
  obtain ⟨z_, g2, L3, hf4, h⟩ := cbx_some h
  refine x_xcallVv (rest := []) li_X11_156 C (rX11_needLesson_0 l hst G H.size b a fu g L p1 z_ (g2, L3) hf4) (kR rfl) hP hD hS 0 11 rfl (zat (by decide) xs_0) rfl hl.1 rfl (Nat.le_of_ble_eq_true rfl) dX11_chance_2 (fun E ce q9 u_ H locs e_ hP hD hS hc1 hc2 hc3 => ?_) (fun u_ H locs e_ hP hD hS => ?_)
  ·
    obtain ⟨e1_, e2_⟩ := cbx_err h e_
    exact x_xout hno hlk hP hD hS hc1 hc2 hc3 () (by rw [e2_]) e1_ (Nat.le_of_ble_eq_true rfl) (Nat.le_of_ble_eq_true rfl)
  ·
    have h := cbx_ok h e_
    have hP : va_P G.1 vwCl (zw G (XS b) 105 a g2 L3) H := hP
    have hD : va_D A (zw G (XS b) 105 a g2 L3) := hD
    refine lv_iload_n hx hb dX11_chance_5 rfl (lv_at hl 3 rfl) ?_
    refine lv_iconst (v := 2) hx hb dX11_chance_6 (by decide) ?_
    obtain ⟨z_, g6, L7, hf8, h⟩ := cbx_some h
    refine x_xcallSv (rest := []) li_X11_121 C (rX11_needWhat l hst G H.size b a fu g2 L3 p3 2 z_ (g6, L7) hf8) (kR rfl) hP hD hS rfl hl.1 rfl (Nat.le_of_ble_eq_true rfl) dX11_chance_7 (fun E ce q9 u_ H locs e_ hP hD hS hc1 hc2 hc3 => ?_) (fun u_ H locs e_ hP hD hS => ?_)
    ·
      obtain ⟨e1_, e2_⟩ := cbx_err h e_
      exact x_xout hno hlk hP hD hS hc1 hc2 hc3 () (by rw [e2_]) e1_ (Nat.le_of_ble_eq_true rfl) (Nat.le_of_ble_eq_true rfl)
    ·
      have h := cbx_ok h e_
      have hP : va_P G.1 vwCl (zw G (XS b) 105 a g6 L7) H := hP
      have hD : va_D A (zw G (XS b) 105 a g6 L7) := hD
      refine lv_iload_n hx hb dX11_chance_10 rfl (lv_at hl 2 rfl) ?_
      refine lv_iconst (v := 0) hx hb dX11_chance_11 (by decide) ?_
      refine lv_sipush (v := 999) hx hb dX11_chance_12 (by decide) ?_
      obtain ⟨z_, g10, L11, hf12, h⟩ := cbx_some h
      refine x_xcallSv (rest := []) li_X11_243 C (rX11_needWithin l hst G H.size b a fu g6 L7 p2 0 999 z_ (g10, L11) hf12) (kR rfl) hP hD hS rfl hl.1 rfl (Nat.le_of_ble_eq_true rfl) dX11_chance_15 (fun E ce q9 u_ H locs e_ hP hD hS hc1 hc2 hc3 => ?_) (fun u_ H locs e_ hP hD hS => ?_)
      ·
        obtain ⟨e1_, e2_⟩ := cbx_err h e_
        exact x_xout hno hlk hP hD hS hc1 hc2 hc3 () (by rw [e2_]) e1_ (Nat.le_of_ble_eq_true rfl) (Nat.le_of_ble_eq_true rfl)
      ·
        have h := cbx_ok h e_
        have hP : va_P G.1 vwCl (zw G (XS b) 105 a g10 L11) H := hP
        have hD : va_D A (zw G (XS b) 105 a g10 L11) := hD
        refine lv_aload_n hx hb dX11_chance_18 rfl (lv_at hl 0 rfl) ?_
        refine x_getr (Or.inl fl_X11_76) C hP (by decide) xs_0 rfl dX11_chance_19 ?_
        refine lv_iload_n hx hb dX11_chance_22 rfl (lv_at hl 1 rfl) ?_
        refine lv_iload_n hx hb dX11_chance_23 rfl (lv_at hl 2 rfl) ?_
        obtain ⟨z_, g14, L15, hf16, h⟩ := cb_some h
        refine x_callNv (rest := []) li_X11_282 C (rX0_ofLate_11 l G H.size b a fu g10 L11 p1 p2 z_ (g14, L15) hf16) (kR rfl) hP hD hS 11 0 rfl (zat (by decide) xs_11) rfl hl.1 rfl (Nat.le_of_ble_eq_true rfl) dX11_chance_24 (fun u_ H locs e_ hP hD hS => ?_)
        have hP : va_P G.1 vwCl (zw G (XS b) 105 a g14 L15) H := hP
        have hD : va_D A (zw G (XS b) 105 a g14 L15) := hD
        refine lv_iload_n hx hb dX11_chance_27 rfl (lv_at hl 3 rfl) ?_
        have J48 : ∀ (t0 : Int64) (g : Nat → Nat → Int32) (L : Nat → Nat → Int64) (H : Heap) (locs : List Loc) (ls : Array Slot), fX11_chance_0_p48 fu t0 g L = some (res, s9) → va_P G.1 vwCl (zw G (XS b) 105 a g L) H → va_D A (zw G (XS b) 105 a g L) → va_S A s.heap H locs → lv_has ls 4 [] → W p l e { frames := 12, cells := 3, slots := 18, locals := 250 } s m [.ref (a 0), .int p1, .int p2, .int p3].toArray below meth c H locs 3 18 (vx_MQ below ((kQl G (S := Unit) (fun r' _ => res = .ok r') (fun _ => zw G (XS b) 105 a s9.1 s9.2)) A) ((kXC G (S := Unit) (fun E _ => res = .error E) (fun _ => zw G (XS b) 105 a s9.1 s9.2)) A) [.ref (a 0), .int p1, .int p2, .int p3].toArray s 3 18 A) (F0 m 48 ls [.long t0]) := by
          intro t0 g L H locs ls h hP hD hS hl
          unfold fX11_chance_0_p48 at h
          exact y_xlret C hr hlk hP hD hS h (Nat.le_of_ble_eq_true rfl) (Nat.le_of_ble_eq_true rfl) dX11_chance_48
        refine lv_if_ne (x := p3) (tgt := 41) hx hb dX11_chance_28 (by decide) (fun c17 => ?_) (fun c17 => ?_)
        ·
          have h := ite_e c17 h
          refine lv_aload_n hx hb dX11_chance_41 rfl (lv_at hl 0 rfl) ?_
          refine x_getr (Or.inl fl_X11_76) C hP (by decide) xs_0 rfl dX11_chance_42 ?_
          refine x_getv (v := .long (L15 11 6)) (Or.inr fl_X11_289) C hP (by decide) xs_11 rfl dX11_chance_45 ?_
          exact J48 (L15 11 6) g14 L15 H locs ls h hP hD hS (lv_sub hl [] rfl)
        ·
          have h := ite_t c17 h
          refine lv_aload_n hx hb dX11_chance_31 rfl (lv_at hl 0 rfl) ?_
          refine x_getr (Or.inl fl_X11_76) C hP (by decide) xs_0 rfl dX11_chance_32 ?_
          refine x_getv (v := .long (L15 11 5)) (Or.inr fl_X11_285) C hP (by decide) xs_11 rfl dX11_chance_35 ?_
          refine lv_goto (tgt := 48) hx hb dX11_chance_38 (by decide) ?_
          exact J48 (L15 11 5) g14 L15 H locs ls h hP hD hS (lv_sub hl [] rfl)
def fX11_mean_0_p39 (fu : Nat) (t0 : Int64) (g : Nat → Nat → Int32) (L : Nat → Nat → Int64) : Option ((Except String Int64) × zS) :=
  some (.ok t0, (g, L))
def fX11_mean_0 (fu : Nat) (p1 : Int32) (p2 : Int32) (g : Nat → Nat → Int32) (L : Nat → Nat → Int64) : Option ((Except String Int64) × zS) :=
  cbx (fX11_needLesson_0 fu p1 g L) (fun x1 g2 L3 =>
  cbx (fX11_needWhat fu p2 2 g2 L3) (fun x5 g6 L7 =>
  cb (fX0_meanLate_11 fu p1 g6 L7) (fun x9 g10 L11 =>
  if p2 = 0 then fX11_mean_0_p39 fu (L11 11 5) g10 L11
  else fX11_mean_0_p39 fu (L11 11 6) g10 L11)))
set_option maxHeartbeats 4000000 in
set_option maxRecDepth 100000 in
theorem rX11_mean_0 (l : Launch) (hst : l.stackTraces = false) (G : kG) (sz : Nat) (b : Nat) (a : Nat → Nat) (fu : Nat) (g : Nat → Nat → Int32) (L : Nat → Nat → Int64) (p1 : Int32) (p2 : Int32) (res : Except String Int64) (s9 : zS) (h : fX11_mean_0 fu p1 p2 g L = some (res, s9)) : kMX l yX11_mean cX11_mean 3 (some .long) { frames := 12, cells := 2, slots := 12, locals := 249 } G [.ref (a 0), .int p1, .int p2] (zw G (XS b) 105 a g L) sz (kQl G (S := Unit) (fun r' _ => res = .ok r') (fun _ => zw G (XS b) 105 a s9.1 s9.2)) (kXC G (S := Unit) (fun E _ => res = .error E) (fun _ => zw G (XS b) 105 a s9.1 s9.2)) := by
  refine kMX.of (by decide) (Nat.le_of_ble_eq_true rfl) ?_
  intro p e s m below meth c A ls H C hr hlk hno hP hD hS hl
  have C : kC G p s m c cX11_mean 3 RX11 A := C
  have hx := C.1
  have hb := C.2.1
  have hl : lv_has ls 3 [(0, .ref (a 0)), (1, .int p1), (2, .int p2)] := hl
  obtain ⟨locs, hlocs⟩ : ∃ q : List Loc, q = [] := ⟨_, rfl⟩
  rw [← hlocs] at hS
  rw [← hlocs]
  unfold fX11_mean_0 at h
  refine lv_aload_n hx hb dX11_mean_0 rfl (lv_at hl 0 rfl) ?_
  refine lv_iload_n hx hb dX11_mean_1 rfl (lv_at hl 1 rfl) ?_
  obtain ⟨z_, g2, L3, hf4, h⟩ := cbx_some h
  refine x_xcallVv (rest := []) li_X11_156 C (rX11_needLesson_0 l hst G H.size b a fu g L p1 z_ (g2, L3) hf4) (kR rfl) hP hD hS 0 11 rfl (zat (by decide) xs_0) rfl hl.1 rfl (Nat.le_of_ble_eq_true rfl) dX11_mean_2 (fun E ce q9 u_ H locs e_ hP hD hS hc1 hc2 hc3 => ?_) (fun u_ H locs e_ hP hD hS => ?_)
  ·
    obtain ⟨e1_, e2_⟩ := cbx_err h e_
    exact x_xout hno hlk hP hD hS hc1 hc2 hc3 () (by rw [e2_]) e1_ (Nat.le_of_ble_eq_true rfl) (Nat.le_of_ble_eq_true rfl)
  ·
    have h := cbx_ok h e_
    have hP : va_P G.1 vwCl (zw G (XS b) 105 a g2 L3) H := hP
    have hD : va_D A (zw G (XS b) 105 a g2 L3) := hD
    refine lv_iload_n hx hb dX11_mean_5 rfl (lv_at hl 2 rfl) ?_
    refine lv_iconst (v := 2) hx hb dX11_mean_6 (by decide) ?_
    obtain ⟨z_, g6, L7, hf8, h⟩ := cbx_some h
    refine x_xcallSv (rest := []) li_X11_121 C (rX11_needWhat l hst G H.size b a fu g2 L3 p2 2 z_ (g6, L7) hf8) (kR rfl) hP hD hS rfl hl.1 rfl (Nat.le_of_ble_eq_true rfl) dX11_mean_7 (fun E ce q9 u_ H locs e_ hP hD hS hc1 hc2 hc3 => ?_) (fun u_ H locs e_ hP hD hS => ?_)
    ·
      obtain ⟨e1_, e2_⟩ := cbx_err h e_
      exact x_xout hno hlk hP hD hS hc1 hc2 hc3 () (by rw [e2_]) e1_ (Nat.le_of_ble_eq_true rfl) (Nat.le_of_ble_eq_true rfl)
    ·
      have h := cbx_ok h e_
      have hP : va_P G.1 vwCl (zw G (XS b) 105 a g6 L7) H := hP
      have hD : va_D A (zw G (XS b) 105 a g6 L7) := hD
      refine lv_aload_n hx hb dX11_mean_10 rfl (lv_at hl 0 rfl) ?_
      refine x_getr (Or.inl fl_X11_76) C hP (by decide) xs_0 rfl dX11_mean_11 ?_
      refine lv_iload_n hx hb dX11_mean_14 rfl (lv_at hl 1 rfl) ?_
      obtain ⟨z_, g10, L11, hf12, h⟩ := cb_some h
      refine x_callNv (rest := []) li_X11_292 C (rX0_meanLate_11 l G H.size b a fu g6 L7 p1 z_ (g10, L11) hf12) (kR rfl) hP hD hS 11 0 rfl (zat (by decide) xs_11) rfl hl.1 rfl (Nat.le_of_ble_eq_true rfl) dX11_mean_15 (fun u_ H locs e_ hP hD hS => ?_)
      have hP : va_P G.1 vwCl (zw G (XS b) 105 a g10 L11) H := hP
      have hD : va_D A (zw G (XS b) 105 a g10 L11) := hD
      refine lv_iload_n hx hb dX11_mean_18 rfl (lv_at hl 2 rfl) ?_
      have J39 : ∀ (t0 : Int64) (g : Nat → Nat → Int32) (L : Nat → Nat → Int64) (H : Heap) (locs : List Loc) (ls : Array Slot), fX11_mean_0_p39 fu t0 g L = some (res, s9) → va_P G.1 vwCl (zw G (XS b) 105 a g L) H → va_D A (zw G (XS b) 105 a g L) → va_S A s.heap H locs → lv_has ls 3 [] → W p l e { frames := 12, cells := 2, slots := 12, locals := 249 } s m [.ref (a 0), .int p1, .int p2].toArray below meth c H locs 2 12 (vx_MQ below ((kQl G (S := Unit) (fun r' _ => res = .ok r') (fun _ => zw G (XS b) 105 a s9.1 s9.2)) A) ((kXC G (S := Unit) (fun E _ => res = .error E) (fun _ => zw G (XS b) 105 a s9.1 s9.2)) A) [.ref (a 0), .int p1, .int p2].toArray s 2 12 A) (F0 m 39 ls [.long t0]) := by
        intro t0 g L H locs ls h hP hD hS hl
        unfold fX11_mean_0_p39 at h
        exact y_xlret C hr hlk hP hD hS h (Nat.le_of_ble_eq_true rfl) (Nat.le_of_ble_eq_true rfl) dX11_mean_39
      refine lv_if_ne (x := p2) (tgt := 32) hx hb dX11_mean_19 (by decide) (fun c13 => ?_) (fun c13 => ?_)
      ·
        have h := ite_e c13 h
        refine lv_aload_n hx hb dX11_mean_32 rfl (lv_at hl 0 rfl) ?_
        refine x_getr (Or.inl fl_X11_76) C hP (by decide) xs_0 rfl dX11_mean_33 ?_
        refine x_getv (v := .long (L11 11 6)) (Or.inr fl_X11_289) C hP (by decide) xs_11 rfl dX11_mean_36 ?_
        exact J39 (L11 11 6) g10 L11 H locs ls h hP hD hS (lv_sub hl [] rfl)
      ·
        have h := ite_t c13 h
        refine lv_aload_n hx hb dX11_mean_22 rfl (lv_at hl 0 rfl) ?_
        refine x_getr (Or.inl fl_X11_76) C hP (by decide) xs_0 rfl dX11_mean_23 ?_
        refine x_getv (v := .long (L11 11 5)) (Or.inr fl_X11_285) C hP (by decide) xs_11 rfl dX11_mean_26 ?_
        refine lv_goto (tgt := 39) hx hb dX11_mean_29 (by decide) ?_
        exact J39 (L11 11 5) g10 L11 H locs ls h hP hD hS (lv_sub hl [] rfl)
def fX11_swap_0 (fu : Nat) (p1 : Int32) (g : Nat → Nat → Int32) (L : Nat → Nat → Int64) : Option ((Except String Int32) × zS) :=
  cbx (fX11_needWhat fu p1 2 g L) (fun x1 g2 L3 =>
  cb (fX10_swapped_9 fu p1 g2 L3) (fun x5 g6 L7 =>
  some (.ok x5, (g6, L7))))
set_option maxHeartbeats 4000000 in
set_option maxRecDepth 100000 in
theorem rX11_swap_0 (l : Launch) (hst : l.stackTraces = false) (G : kG) (sz : Nat) (b : Nat) (a : Nat → Nat) (fu : Nat) (g : Nat → Nat → Int32) (L : Nat → Nat → Int64) (p1 : Int32) (res : Except String Int32) (s9 : zS) (h : fX11_swap_0 fu p1 g L = some (res, s9)) : kMX l yX11_swap cX11_swap 2 (some .int) { frames := 12, cells := 1, slots := 6, locals := 249 } G [.ref (a 0), .int p1] (zw G (XS b) 105 a g L) sz (kQi G (S := Unit) (fun r' _ => res = .ok r') (fun _ => zw G (XS b) 105 a s9.1 s9.2)) (kXC G (S := Unit) (fun E _ => res = .error E) (fun _ => zw G (XS b) 105 a s9.1 s9.2)) := by
  refine kMX.of (by decide) (Nat.le_of_ble_eq_true rfl) ?_
  intro p e s m below meth c A ls H C hr hlk hno hP hD hS hl
  have C : kC G p s m c cX11_swap 2 RX11 A := C
  have hx := C.1
  have hb := C.2.1
  have hl : lv_has ls 2 [(0, .ref (a 0)), (1, .int p1)] := hl
  obtain ⟨locs, hlocs⟩ : ∃ q : List Loc, q = [] := ⟨_, rfl⟩
  rw [← hlocs] at hS
  rw [← hlocs]
  unfold fX11_swap_0 at h
  refine lv_iload_n hx hb dX11_swap_0 rfl (lv_at hl 1 rfl) ?_
  refine lv_iconst (v := 2) hx hb dX11_swap_1 (by decide) ?_
  obtain ⟨z_, g2, L3, hf4, h⟩ := cbx_some h
  refine x_xcallSv (rest := []) li_X11_121 C (rX11_needWhat l hst G H.size b a fu g L p1 2 z_ (g2, L3) hf4) (kR rfl) hP hD hS rfl hl.1 rfl (Nat.le_of_ble_eq_true rfl) dX11_swap_2 (fun E ce q9 u_ H locs e_ hP hD hS hc1 hc2 hc3 => ?_) (fun u_ H locs e_ hP hD hS => ?_)
  ·
    obtain ⟨e1_, e2_⟩ := cbx_err h e_
    exact x_xout hno hlk hP hD hS hc1 hc2 hc3 () (by rw [e2_]) e1_ (Nat.le_of_ble_eq_true rfl) (Nat.le_of_ble_eq_true rfl)
  ·
    have h := cbx_ok h e_
    have hP : va_P G.1 vwCl (zw G (XS b) 105 a g2 L3) H := hP
    have hD : va_D A (zw G (XS b) 105 a g2 L3) := hD
    refine lv_aload_n hx hb dX11_swap_5 rfl (lv_at hl 0 rfl) ?_
    refine x_getr (Or.inl fl_X11_62) C hP (by decide) xs_0 rfl dX11_swap_6 ?_
    refine lv_iload_n hx hb dX11_swap_9 rfl (lv_at hl 1 rfl) ?_
    obtain ⟨z_, g6, L7, hf8, h⟩ := cb_some h
    refine x_callNi (rest := []) li_X11_295 C (rX10_swapped_9 l G H.size b a fu g2 L3 p1 z_ (g6, L7) hf8) (kR rfl) hP hD hS 9 10 rfl (zat (by decide) xs_9) rfl hl.1 rfl (Nat.le_of_ble_eq_true rfl) dX11_swap_10 (fun x5 u_ H locs e_ hP hD hS => ?_)
    have e_ : x5 = z_ := e_
    subst e_
    have hP : va_P G.1 vwCl (zw G (XS b) 105 a g6 L7) H := hP
    have hD : va_D A (zw G (XS b) 105 a g6 L7) := hD
    exact y_xiret C hr hlk hP hD hS h (Nat.le_of_ble_eq_true rfl) (Nat.le_of_ble_eq_true rfl) dX11_swap_13
def fX11_room_0 (fu : Nat) (p1 : Int32) (p2 : Int32) (g : Nat → Nat → Int32) (L : Nat → Nat → Int64) : Option ((Except String Int32) × zS) :=
  cbx (fX11_needLesson_0 fu p1 g L) (fun x1 g2 L3 =>
  cbx (fX11_needWhat fu p2 2 g2 L3) (fun x5 g6 L7 =>
  cb (fX10_leastBy_9 fu 2 p1 p2 g6 L7) (fun x9 g10 L11 =>
  some (.ok x9, (g10, L11)))))
set_option maxHeartbeats 4000000 in
set_option maxRecDepth 100000 in
theorem rX11_room_0 (l : Launch) (hst : l.stackTraces = false) (G : kG) (sz : Nat) (b : Nat) (a : Nat → Nat) (fu : Nat) (g : Nat → Nat → Int32) (L : Nat → Nat → Int64) (p1 : Int32) (p2 : Int32) (res : Except String Int32) (s9 : zS) (h : fX11_room_0 fu p1 p2 g L = some (res, s9)) : kMX l yX11_room cX11_room 3 (some .int) { frames := 12, cells := 2, slots := 12, locals := 250 } G [.ref (a 0), .int p1, .int p2] (zw G (XS b) 105 a g L) sz (kQi G (S := Unit) (fun r' _ => res = .ok r') (fun _ => zw G (XS b) 105 a s9.1 s9.2)) (kXC G (S := Unit) (fun E _ => res = .error E) (fun _ => zw G (XS b) 105 a s9.1 s9.2)) := by
  refine kMX.of (by decide) (Nat.le_of_ble_eq_true rfl) ?_
  intro p e s m below meth c A ls H C hr hlk hno hP hD hS hl
  have C : kC G p s m c cX11_room 3 RX11 A := C
  have hx := C.1
  have hb := C.2.1
  have hl : lv_has ls 3 [(0, .ref (a 0)), (1, .int p1), (2, .int p2)] := hl
  obtain ⟨locs, hlocs⟩ : ∃ q : List Loc, q = [] := ⟨_, rfl⟩
  rw [← hlocs] at hS
  rw [← hlocs]
  unfold fX11_room_0 at h
  refine lv_aload_n hx hb dX11_room_0 rfl (lv_at hl 0 rfl) ?_
  refine lv_iload_n hx hb dX11_room_1 rfl (lv_at hl 1 rfl) ?_
  obtain ⟨z_, g2, L3, hf4, h⟩ := cbx_some h
  refine x_xcallVv (rest := []) li_X11_156 C (rX11_needLesson_0 l hst G H.size b a fu g L p1 z_ (g2, L3) hf4) (kR rfl) hP hD hS 0 11 rfl (zat (by decide) xs_0) rfl hl.1 rfl (Nat.le_of_ble_eq_true rfl) dX11_room_2 (fun E ce q9 u_ H locs e_ hP hD hS hc1 hc2 hc3 => ?_) (fun u_ H locs e_ hP hD hS => ?_)
  ·
    obtain ⟨e1_, e2_⟩ := cbx_err h e_
    exact x_xout hno hlk hP hD hS hc1 hc2 hc3 () (by rw [e2_]) e1_ (Nat.le_of_ble_eq_true rfl) (Nat.le_of_ble_eq_true rfl)
  ·
    have h := cbx_ok h e_
    have hP : va_P G.1 vwCl (zw G (XS b) 105 a g2 L3) H := hP
    have hD : va_D A (zw G (XS b) 105 a g2 L3) := hD
    refine lv_iload_n hx hb dX11_room_5 rfl (lv_at hl 2 rfl) ?_
    refine lv_iconst (v := 2) hx hb dX11_room_6 (by decide) ?_
    obtain ⟨z_, g6, L7, hf8, h⟩ := cbx_some h
    refine x_xcallSv (rest := []) li_X11_121 C (rX11_needWhat l hst G H.size b a fu g2 L3 p2 2 z_ (g6, L7) hf8) (kR rfl) hP hD hS rfl hl.1 rfl (Nat.le_of_ble_eq_true rfl) dX11_room_7 (fun E ce q9 u_ H locs e_ hP hD hS hc1 hc2 hc3 => ?_) (fun u_ H locs e_ hP hD hS => ?_)
    ·
      obtain ⟨e1_, e2_⟩ := cbx_err h e_
      exact x_xout hno hlk hP hD hS hc1 hc2 hc3 () (by rw [e2_]) e1_ (Nat.le_of_ble_eq_true rfl) (Nat.le_of_ble_eq_true rfl)
    ·
      have h := cbx_ok h e_
      have hP : va_P G.1 vwCl (zw G (XS b) 105 a g6 L7) H := hP
      have hD : va_D A (zw G (XS b) 105 a g6 L7) := hD
      refine lv_aload_n hx hb dX11_room_10 rfl (lv_at hl 0 rfl) ?_
      refine x_getr (Or.inl fl_X11_62) C hP (by decide) xs_0 rfl dX11_room_11 ?_
      refine lv_iconst (v := 2) hx hb dX11_room_14 (by decide) ?_
      refine lv_iload_n hx hb dX11_room_15 rfl (lv_at hl 1 rfl) ?_
      refine lv_iload_n hx hb dX11_room_16 rfl (lv_at hl 2 rfl) ?_
      obtain ⟨z_, g10, L11, hf12, h⟩ := cb_some h
      refine x_callNi (rest := []) li_X11_298 C (rX10_leastBy_9 l G H.size b a fu g6 L7 2 p1 p2 z_ (g10, L11) hf12) (kR rfl) hP hD hS 9 10 rfl (zat (by decide) xs_9) rfl hl.1 rfl (Nat.le_of_ble_eq_true rfl) dX11_room_17 (fun x9 u_ H locs e_ hP hD hS => ?_)
      have e_ : x9 = z_ := e_
      subst e_
      have hP : va_P G.1 vwCl (zw G (XS b) 105 a g10 L11) H := hP
      have hD : va_D A (zw G (XS b) 105 a g10 L11) := hD
      exact y_xiret C hr hlk hP hD hS h (Nat.le_of_ble_eq_true rfl) (Nat.le_of_ble_eq_true rfl) dX11_room_20
def fX11_limit_0 (fu : Nat) (p1 : Int32) (p2 : Int32) (g : Nat → Nat → Int32) (L : Nat → Nat → Int64) : Option ((Except String Int32) × zS) :=
  cbx (fX11_needLesson_0 fu p1 g L) (fun x1 g2 L3 =>
  cbx (fX11_needWhat fu p2 2 g2 L3) (fun x5 g6 L7 =>
  cb (fX10_leastBy_9 fu 3 p1 p2 g6 L7) (fun x9 g10 L11 =>
  some (.ok x9, (g10, L11)))))
set_option maxHeartbeats 4000000 in
set_option maxRecDepth 100000 in
theorem rX11_limit_0 (l : Launch) (hst : l.stackTraces = false) (G : kG) (sz : Nat) (b : Nat) (a : Nat → Nat) (fu : Nat) (g : Nat → Nat → Int32) (L : Nat → Nat → Int64) (p1 : Int32) (p2 : Int32) (res : Except String Int32) (s9 : zS) (h : fX11_limit_0 fu p1 p2 g L = some (res, s9)) : kMX l yX11_limit cX11_limit 3 (some .int) { frames := 12, cells := 2, slots := 12, locals := 250 } G [.ref (a 0), .int p1, .int p2] (zw G (XS b) 105 a g L) sz (kQi G (S := Unit) (fun r' _ => res = .ok r') (fun _ => zw G (XS b) 105 a s9.1 s9.2)) (kXC G (S := Unit) (fun E _ => res = .error E) (fun _ => zw G (XS b) 105 a s9.1 s9.2)) := by
  refine kMX.of (by decide) (Nat.le_of_ble_eq_true rfl) ?_
  intro p e s m below meth c A ls H C hr hlk hno hP hD hS hl
  have C : kC G p s m c cX11_limit 3 RX11 A := C
  have hx := C.1
  have hb := C.2.1
  have hl : lv_has ls 3 [(0, .ref (a 0)), (1, .int p1), (2, .int p2)] := hl
  obtain ⟨locs, hlocs⟩ : ∃ q : List Loc, q = [] := ⟨_, rfl⟩
  rw [← hlocs] at hS
  rw [← hlocs]
  unfold fX11_limit_0 at h
  refine lv_aload_n hx hb dX11_limit_0 rfl (lv_at hl 0 rfl) ?_
  refine lv_iload_n hx hb dX11_limit_1 rfl (lv_at hl 1 rfl) ?_
  obtain ⟨z_, g2, L3, hf4, h⟩ := cbx_some h
  refine x_xcallVv (rest := []) li_X11_156 C (rX11_needLesson_0 l hst G H.size b a fu g L p1 z_ (g2, L3) hf4) (kR rfl) hP hD hS 0 11 rfl (zat (by decide) xs_0) rfl hl.1 rfl (Nat.le_of_ble_eq_true rfl) dX11_limit_2 (fun E ce q9 u_ H locs e_ hP hD hS hc1 hc2 hc3 => ?_) (fun u_ H locs e_ hP hD hS => ?_)
  ·
    obtain ⟨e1_, e2_⟩ := cbx_err h e_
    exact x_xout hno hlk hP hD hS hc1 hc2 hc3 () (by rw [e2_]) e1_ (Nat.le_of_ble_eq_true rfl) (Nat.le_of_ble_eq_true rfl)
  ·
    have h := cbx_ok h e_
    have hP : va_P G.1 vwCl (zw G (XS b) 105 a g2 L3) H := hP
    have hD : va_D A (zw G (XS b) 105 a g2 L3) := hD
    refine lv_iload_n hx hb dX11_limit_5 rfl (lv_at hl 2 rfl) ?_
    refine lv_iconst (v := 2) hx hb dX11_limit_6 (by decide) ?_
    obtain ⟨z_, g6, L7, hf8, h⟩ := cbx_some h
    refine x_xcallSv (rest := []) li_X11_121 C (rX11_needWhat l hst G H.size b a fu g2 L3 p2 2 z_ (g6, L7) hf8) (kR rfl) hP hD hS rfl hl.1 rfl (Nat.le_of_ble_eq_true rfl) dX11_limit_7 (fun E ce q9 u_ H locs e_ hP hD hS hc1 hc2 hc3 => ?_) (fun u_ H locs e_ hP hD hS => ?_)
    ·
      obtain ⟨e1_, e2_⟩ := cbx_err h e_
      exact x_xout hno hlk hP hD hS hc1 hc2 hc3 () (by rw [e2_]) e1_ (Nat.le_of_ble_eq_true rfl) (Nat.le_of_ble_eq_true rfl)
    ·
      have h := cbx_ok h e_
      have hP : va_P G.1 vwCl (zw G (XS b) 105 a g6 L7) H := hP
      have hD : va_D A (zw G (XS b) 105 a g6 L7) := hD
      refine lv_aload_n hx hb dX11_limit_10 rfl (lv_at hl 0 rfl) ?_
      refine x_getr (Or.inl fl_X11_62) C hP (by decide) xs_0 rfl dX11_limit_11 ?_
      refine lv_iconst (v := 3) hx hb dX11_limit_14 (by decide) ?_
      refine lv_iload_n hx hb dX11_limit_15 rfl (lv_at hl 1 rfl) ?_
      refine lv_iload_n hx hb dX11_limit_16 rfl (lv_at hl 2 rfl) ?_
      obtain ⟨z_, g10, L11, hf12, h⟩ := cb_some h
      refine x_callNi (rest := []) li_X11_298 C (rX10_leastBy_9 l G H.size b a fu g6 L7 3 p1 p2 z_ (g10, L11) hf12) (kR rfl) hP hD hS 9 10 rfl (zat (by decide) xs_9) rfl hl.1 rfl (Nat.le_of_ble_eq_true rfl) dX11_limit_17 (fun x9 u_ H locs e_ hP hD hS => ?_)
      have e_ : x9 = z_ := e_
      subst e_
      have hP : va_P G.1 vwCl (zw G (XS b) 105 a g10 L11) H := hP
      have hD : va_D A (zw G (XS b) 105 a g10 L11) := hD
      exact y_xiret C hr hlk hP hD hS h (Nat.le_of_ble_eq_true rfl) (Nat.le_of_ble_eq_true rfl) dX11_limit_20
def fX11_last_0 (fu : Nat) (g : Nat → Nat → Int32) (L : Nat → Nat → Int64) : Option ((Int32) × zS) :=
  cb (fX10_withoutOne_9 fu g L) (fun x1 g2 L3 =>
  some (x1, (g2, L3)))
set_option maxHeartbeats 4000000 in
set_option maxRecDepth 100000 in
theorem rX11_last_0 (l : Launch) (G : kG) (sz : Nat) (b : Nat) (a : Nat → Nat) (fu : Nat) (g : Nat → Nat → Int32) (L : Nat → Nat → Int64) (res : Int32) (s9 : zS) (h : fX11_last_0 fu g L = some (res, s9)) : kM l yX11_last cX11_last 1 (some .int) { frames := 13, cells := 0, slots := 0, locals := 271 } G [.ref (a 0)] (zw G (XS b) 105 a g L) sz (kQi G (S := Unit) (fun r' _ => r' = res) (fun _ => zw G (XS b) 105 a s9.1 s9.2)) := by
  refine kM.of (by decide) (Nat.le_of_ble_eq_true rfl) ?_
  intro p e s m below meth c A ls H C hr hlk hnm hP hD hS hl
  have C : kC G p s m c cX11_last 1 RX11 A := C
  have hx := C.1
  have hb := C.2.1
  have hl : lv_has ls 1 [(0, .ref (a 0))] := hl
  obtain ⟨locs, hlocs⟩ : ∃ q : List Loc, q = [] := ⟨_, rfl⟩
  rw [← hlocs] at hS
  rw [← hlocs]
  unfold fX11_last_0 at h
  refine lv_aload_n hx hb dX11_last_0 rfl (lv_at hl 0 rfl) ?_
  refine x_getr (Or.inl fl_X11_62) C hP (by decide) xs_0 rfl dX11_last_1 ?_
  obtain ⟨z_, g2, L3, hf4, h⟩ := cb_some h
  refine x_callNi (rest := []) li_X11_301 C (rX10_withoutOne_9 l G H.size b a fu g L z_ (g2, L3) hf4) (kR rfl) hP hD hS 9 10 rfl (zat (by decide) xs_9) rfl hl.1 rfl (Nat.le_of_ble_eq_true rfl) dX11_last_4 (fun x1 u_ H locs e_ hP hD hS => ?_)
  have e_ : x1 = z_ := e_
  subst e_
  have hP : va_P G.1 vwCl (zw G (XS b) 105 a g2 L3) H := hP
  have hD : va_D A (zw G (XS b) 105 a g2 L3) := hD
  exact y_iret C hr hlk hP hD hS h (Nat.le_of_ble_eq_true rfl) (Nat.le_of_ble_eq_true rfl) dX11_last_7
def fX11_compare_0 (fu : Nat) (p1 : Int32) (g : Nat → Nat → Int32) (L : Nat → Nat → Int64) : Option ((Except String Int32) × zS) :=
  cb (fX11_isRuleOrNone_0 fu p1 g L) (fun x1 g2 L3 =>
  if x1 = 0 then some (.error "java/util/NoSuchElementException", (g2, L3))
  else cb (fX10_lostByRule_9 fu p1 g2 L3) (fun x6 g7 L8 =>
  some (.ok x6, (g7, L8))))
set_option maxHeartbeats 4000000 in
set_option maxRecDepth 100000 in
theorem rX11_compare_0 (l : Launch) (hst : l.stackTraces = false) (G : kG) (sz : Nat) (b : Nat) (a : Nat → Nat) (fu : Nat) (g : Nat → Nat → Int32) (L : Nat → Nat → Int64) (p1 : Int32) (res : Except String Int32) (s9 : zS) (h : fX11_compare_0 fu p1 g L = some (res, s9)) : kMX l yX11_compare cX11_compare 2 (some .int) { frames := 12, cells := 1, slots := 6, locals := 248 } G [.ref (a 0), .int p1] (zw G (XS b) 105 a g L) sz (kQi G (S := Unit) (fun r' _ => res = .ok r') (fun _ => zw G (XS b) 105 a s9.1 s9.2)) (kXC G (S := Unit) (fun E _ => res = .error E) (fun _ => zw G (XS b) 105 a s9.1 s9.2)) := by
  refine kMX.of (by decide) (Nat.le_of_ble_eq_true rfl) ?_
  intro p e s m below meth c A ls H C hr hlk hno hP hD hS hl
  have C : kC G p s m c cX11_compare 2 RX11 A := C
  have hx := C.1
  have hb := C.2.1
  have hl : lv_has ls 2 [(0, .ref (a 0)), (1, .int p1)] := hl
  obtain ⟨locs, hlocs⟩ : ∃ q : List Loc, q = [] := ⟨_, rfl⟩
  rw [← hlocs] at hS
  rw [← hlocs]
  unfold fX11_compare_0 at h
  refine lv_aload_n hx hb dX11_compare_0 rfl (lv_at hl 0 rfl) ?_
  refine lv_iload_n hx hb dX11_compare_1 rfl (lv_at hl 1 rfl) ?_
  obtain ⟨z_, g2, L3, hf4, h⟩ := cb_some h
  refine x_callVi (rest := []) li_X11_235 C (rX11_isRuleOrNone_0 l G H.size b a fu g L p1 z_ (g2, L3) hf4) (kR rfl) hP hD hS 0 11 rfl (zat (by decide) xs_0) rfl hl.1 rfl (Nat.le_of_ble_eq_true rfl) dX11_compare_2 (fun x1 u_ H locs e_ hP hD hS => ?_)
  have e_ : x1 = z_ := e_
  subst e_
  have hP : va_P G.1 vwCl (zw G (XS b) 105 a g2 L3) H := hP
  have hD : va_D A (zw G (XS b) 105 a g2 L3) := hD
  refine lv_if_ne (x := x1) (tgt := 16) hx hb dX11_compare_5 (by decide) (fun c5 => ?_) (fun c5 => ?_)
  ·
    have h := ite_e c5 h
    refine lv_aload_n hx hb dX11_compare_16 rfl (lv_at hl 0 rfl) ?_
    refine x_getr (Or.inl fl_X11_62) C hP (by decide) xs_0 rfl dX11_compare_17 ?_
    refine lv_iload_n hx hb dX11_compare_20 rfl (lv_at hl 1 rfl) ?_
    obtain ⟨z_, g7, L8, hf9, h⟩ := cb_some h
    refine x_callNi (rest := []) li_X11_304 C (rX10_lostByRule_9 l G H.size b a fu g2 L3 p1 z_ (g7, L8) hf9) (kR rfl) hP hD hS 9 10 rfl (zat (by decide) xs_9) rfl hl.1 rfl (Nat.le_of_ble_eq_true rfl) dX11_compare_21 (fun x6 u_ H locs e_ hP hD hS => ?_)
    have e_ : x6 = z_ := e_
    subst e_
    have hP : va_P G.1 vwCl (zw G (XS b) 105 a g7 L8) H := hP
    have hD : va_D A (zw G (XS b) 105 a g7 L8) := hD
    exact y_xiret C hr hlk hP hD hS h (Nat.le_of_ble_eq_true rfl) (Nat.le_of_ble_eq_true rfl) dX11_compare_24
  ·
    have h := ite_t c5 h
    exact y_throw hst ⟨by decide +kernel, by decide +kernel⟩ th_X11_219_221 hno hlk C hl.1 hP hD hS dX11_compare_8 dX11_compare_11 dX11_compare_12 dX11_compare_15 (Nat.lt_of_lt_of_le (by decide) (Nat.le_of_ble_eq_true rfl : 6 ≤ _)) (Nat.le_of_ble_eq_true rfl) ⟨(Nat.le_of_ble_eq_true rfl), (Nat.le_of_ble_eq_true rfl)⟩ h (Nat.le_of_ble_eq_true rfl) (Nat.le_of_ble_eq_true rfl)
def fX11_best_0 (fu : Nat) (g : Nat → Nat → Int32) (L : Nat → Nat → Int64) : Option ((Int32) × zS) :=
  cb (fX10_bestRule_9 fu g L) (fun x1 g2 L3 =>
  some (x1, (g2, L3)))
set_option maxHeartbeats 4000000 in
set_option maxRecDepth 100000 in
theorem rX11_best_0 (l : Launch) (G : kG) (sz : Nat) (b : Nat) (a : Nat → Nat) (fu : Nat) (g : Nat → Nat → Int32) (L : Nat → Nat → Int64) (res : Int32) (s9 : zS) (h : fX11_best_0 fu g L = some (res, s9)) : kM l yX11_best cX11_best 1 (some .int) { frames := 13, cells := 0, slots := 0, locals := 269 } G [.ref (a 0)] (zw G (XS b) 105 a g L) sz (kQi G (S := Unit) (fun r' _ => r' = res) (fun _ => zw G (XS b) 105 a s9.1 s9.2)) := by
  refine kM.of (by decide) (Nat.le_of_ble_eq_true rfl) ?_
  intro p e s m below meth c A ls H C hr hlk hnm hP hD hS hl
  have C : kC G p s m c cX11_best 1 RX11 A := C
  have hx := C.1
  have hb := C.2.1
  have hl : lv_has ls 1 [(0, .ref (a 0))] := hl
  obtain ⟨locs, hlocs⟩ : ∃ q : List Loc, q = [] := ⟨_, rfl⟩
  rw [← hlocs] at hS
  rw [← hlocs]
  unfold fX11_best_0 at h
  refine lv_aload_n hx hb dX11_best_0 rfl (lv_at hl 0 rfl) ?_
  refine x_getr (Or.inl fl_X11_62) C hP (by decide) xs_0 rfl dX11_best_1 ?_
  obtain ⟨z_, g2, L3, hf4, h⟩ := cb_some h
  refine x_callNi (rest := []) li_X11_307 C (rX10_bestRule_9 l G H.size b a fu g L z_ (g2, L3) hf4) (kR rfl) hP hD hS 9 10 rfl (zat (by decide) xs_9) rfl hl.1 rfl (Nat.le_of_ble_eq_true rfl) dX11_best_4 (fun x1 u_ H locs e_ hP hD hS => ?_)
  have e_ : x1 = z_ := e_
  subst e_
  have hP : va_P G.1 vwCl (zw G (XS b) 105 a g2 L3) H := hP
  have hD : va_D A (zw G (XS b) 105 a g2 L3) := hD
  exact y_iret C hr hlk hP hD hS h (Nat.le_of_ble_eq_true rfl) (Nat.le_of_ble_eq_true rfl) dX11_best_7
def fX11_bell_0 (fu : Nat) (p1 : Int32) (g : Nat → Nat → Int32) (L : Nat → Nat → Int64) : Option ((Except String Int32) × zS) :=
  cbx (fX11_needWithin fu p1 0 60 g L) (fun x1 g2 L3 =>
  cb (fX10_worthOfBell_9 fu p1 g2 L3) (fun x5 g6 L7 =>
  some (.ok x5, (g6, L7))))
set_option maxHeartbeats 4000000 in
set_option maxRecDepth 100000 in
theorem rX11_bell_0 (l : Launch) (hst : l.stackTraces = false) (G : kG) (sz : Nat) (b : Nat) (a : Nat → Nat) (fu : Nat) (g : Nat → Nat → Int32) (L : Nat → Nat → Int64) (p1 : Int32) (res : Except String Int32) (s9 : zS) (h : fX11_bell_0 fu p1 g L = some (res, s9)) : kMX l yX11_bell cX11_bell 2 (some .int) { frames := 12, cells := 1, slots := 6, locals := 248 } G [.ref (a 0), .int p1] (zw G (XS b) 105 a g L) sz (kQi G (S := Unit) (fun r' _ => res = .ok r') (fun _ => zw G (XS b) 105 a s9.1 s9.2)) (kXC G (S := Unit) (fun E _ => res = .error E) (fun _ => zw G (XS b) 105 a s9.1 s9.2)) := by
  refine kMX.of (by decide) (Nat.le_of_ble_eq_true rfl) ?_
  intro p e s m below meth c A ls H C hr hlk hno hP hD hS hl
  have C : kC G p s m c cX11_bell 2 RX11 A := C
  have hx := C.1
  have hb := C.2.1
  have hl : lv_has ls 2 [(0, .ref (a 0)), (1, .int p1)] := hl
  obtain ⟨locs, hlocs⟩ : ∃ q : List Loc, q = [] := ⟨_, rfl⟩
  rw [← hlocs] at hS
  rw [← hlocs]
  unfold fX11_bell_0 at h
  refine lv_iload_n hx hb dX11_bell_0 rfl (lv_at hl 1 rfl) ?_
  refine lv_iconst (v := 0) hx hb dX11_bell_1 (by decide) ?_
  refine lv_bipush (v := 60) hx hb dX11_bell_2 (by decide) ?_
  obtain ⟨z_, g2, L3, hf4, h⟩ := cbx_some h
  refine x_xcallSv (rest := []) li_X11_243 C (rX11_needWithin l hst G H.size b a fu g L p1 0 60 z_ (g2, L3) hf4) (kR rfl) hP hD hS rfl hl.1 rfl (Nat.le_of_ble_eq_true rfl) dX11_bell_4 (fun E ce q9 u_ H locs e_ hP hD hS hc1 hc2 hc3 => ?_) (fun u_ H locs e_ hP hD hS => ?_)
  ·
    obtain ⟨e1_, e2_⟩ := cbx_err h e_
    exact x_xout hno hlk hP hD hS hc1 hc2 hc3 () (by rw [e2_]) e1_ (Nat.le_of_ble_eq_true rfl) (Nat.le_of_ble_eq_true rfl)
  ·
    have h := cbx_ok h e_
    have hP : va_P G.1 vwCl (zw G (XS b) 105 a g2 L3) H := hP
    have hD : va_D A (zw G (XS b) 105 a g2 L3) := hD
    refine lv_aload_n hx hb dX11_bell_7 rfl (lv_at hl 0 rfl) ?_
    refine x_getr (Or.inl fl_X11_62) C hP (by decide) xs_0 rfl dX11_bell_8 ?_
    refine lv_iload_n hx hb dX11_bell_11 rfl (lv_at hl 1 rfl) ?_
    obtain ⟨z_, g6, L7, hf8, h⟩ := cb_some h
    refine x_callNi (rest := []) li_X11_310 C (rX10_worthOfBell_9 l G H.size b a fu g2 L3 p1 z_ (g6, L7) hf8) (kR rfl) hP hD hS 9 10 rfl (zat (by decide) xs_9) rfl hl.1 rfl (Nat.le_of_ble_eq_true rfl) dX11_bell_12 (fun x5 u_ H locs e_ hP hD hS => ?_)
    have e_ : x5 = z_ := e_
    subst e_
    have hP : va_P G.1 vwCl (zw G (XS b) 105 a g6 L7) H := hP
    have hD : va_D A (zw G (XS b) 105 a g6 L7) := hD
    exact y_xiret C hr hlk hP hD hS h (Nat.le_of_ble_eq_true rfl) (Nat.le_of_ble_eq_true rfl) dX11_bell_15
def fX11_see_0_p28 (fu : Nat) (g : Nat → Nat → Int32) (L : Nat → Nat → Int64) : Option ((Except String Int32) × zS) :=
  ck 2 3 (
  ck 2 3 (sti g 15 (Int32.toNatClampNeg 2) ((g 15 (Int32.toNatClampNeg 2)) + 1) (fun g5 =>
  some (.ok (-1), (g5, L)))))
def fX11_see_0 (fu : Nat) (p1 : Int32) (p2 : Int32) (g : Nat → Nat → Int32) (L : Nat → Nat → Int64) : Option ((Except String Int32) × zS) :=
  cbx (fX11_needLesson_0 fu p1 g L) (fun x1 g2 L3 =>
  if p2 < 0 then fX11_see_0_p28 fu g2 L3
  else if 999 < (p2 : Int32) then fX11_see_0_p28 fu g2 L3
  else if (g2 6 10) < 8 then cb (fX3_keepSeen_6 fu p1 p2 g2 L3) (fun x9 g10 L11 =>
  some (.ok (g10 6 10), (g10, L11)))
  else fX11_see_0_p28 fu g2 L3)
set_option maxHeartbeats 4000000 in
set_option maxRecDepth 100000 in
theorem rX11_see_0 (l : Launch) (hst : l.stackTraces = false) (G : kG) (sz : Nat) (b : Nat) (a : Nat → Nat) (fu : Nat) (g : Nat → Nat → Int32) (L : Nat → Nat → Int64) (p1 : Int32) (p2 : Int32) (res : Except String Int32) (s9 : zS) (h : fX11_see_0 fu p1 p2 g L = some (res, s9)) : kMX l yX11_see cX11_see 3 (some .int) { frames := 7, cells := 1, slots := 6, locals := 132 } G [.ref (a 0), .int p1, .int p2] (zw G (XS b) 105 a g L) sz (kQi G (S := Unit) (fun r' _ => res = .ok r') (fun _ => zw G (XS b) 105 a s9.1 s9.2)) (kXC G (S := Unit) (fun E _ => res = .error E) (fun _ => zw G (XS b) 105 a s9.1 s9.2)) := by
  refine kMX.of (by decide) (Nat.le_of_ble_eq_true rfl) ?_
  intro p e s m below meth c A ls H C hr hlk hno hP hD hS hl
  have C : kC G p s m c cX11_see 3 RX11 A := C
  have hx := C.1
  have hb := C.2.1
  have hl : lv_has ls 3 [(0, .ref (a 0)), (1, .int p1), (2, .int p2)] := hl
  obtain ⟨locs, hlocs⟩ : ∃ q : List Loc, q = [] := ⟨_, rfl⟩
  rw [← hlocs] at hS
  rw [← hlocs]
  unfold fX11_see_0 at h
  refine lv_aload_n hx hb dX11_see_0 rfl (lv_at hl 0 rfl) ?_
  refine lv_iload_n hx hb dX11_see_1 rfl (lv_at hl 1 rfl) ?_
  obtain ⟨z_, g2, L3, hf4, h⟩ := cbx_some h
  refine x_xcallVv (rest := []) li_X11_156 C (rX11_needLesson_0 l hst G H.size b a fu g L p1 z_ (g2, L3) hf4) (kR rfl) hP hD hS 0 11 rfl (zat (by decide) xs_0) rfl hl.1 rfl (Nat.le_of_ble_eq_true rfl) dX11_see_2 (fun E ce q9 u_ H locs e_ hP hD hS hc1 hc2 hc3 => ?_) (fun u_ H locs e_ hP hD hS => ?_)
  ·
    obtain ⟨e1_, e2_⟩ := cbx_err h e_
    exact x_xout hno hlk hP hD hS hc1 hc2 hc3 () (by rw [e2_]) e1_ (Nat.le_of_ble_eq_true rfl) (Nat.le_of_ble_eq_true rfl)
  ·
    have h := cbx_ok h e_
    have hP : va_P G.1 vwCl (zw G (XS b) 105 a g2 L3) H := hP
    have hD : va_D A (zw G (XS b) 105 a g2 L3) := hD
    refine lv_iload_n hx hb dX11_see_5 rfl (lv_at hl 2 rfl) ?_
    have J28 : ∀ (g : Nat → Nat → Int32) (L : Nat → Nat → Int64) (H : Heap) (locs : List Loc) (ls : Array Slot), fX11_see_0_p28 fu g L = some (res, s9) → va_P G.1 vwCl (zw G (XS b) 105 a g L) H → va_D A (zw G (XS b) 105 a g L) → va_S A s.heap H locs → lv_has ls 3 [(0, .ref (a 0))] → W p l e { frames := 7, cells := 1, slots := 6, locals := 132 } s m [.ref (a 0), .int p1, .int p2].toArray below meth c H locs 1 6 (vx_MQ below ((kQi G (S := Unit) (fun r' _ => res = .ok r') (fun _ => zw G (XS b) 105 a s9.1 s9.2)) A) ((kXC G (S := Unit) (fun E _ => res = .error E) (fun _ => zw G (XS b) 105 a s9.1 s9.2)) A) [.ref (a 0), .int p1, .int p2].toArray s 1 6 A) (F0 m 28 ls []) := by
      intro g L H locs ls h hP hD hS hl
      unfold fX11_see_0_p28 at h
      refine lv_aload_n hx hb dX11_see_28 rfl (lv_at hl 0 rfl) ?_
      refine x_getr (Or.inl fl_X11_13) C hP (by decide) xs_0 rfl dX11_see_29 ?_
      refine lv_iconst (v := 2) hx hb dX11_see_32 (by decide) ?_
      refine lv_dup2_11 hx hb dX11_see_33 rfl rfl ?_
      refine y_ald C hP (by decide) xs_15 dX11_see_34 h (fun h => ?_)
      refine lv_iconst (v := 1) hx hb dX11_see_35 (by decide) ?_
      refine lv_iadd hx hb dX11_see_36 ?_
      refine y_ast C hP hD hS (by decide) xs_15 dX11_see_37 h (fun g5 H locs h hP hD hS => ?_)
      refine lv_iconst (v := -1) hx hb dX11_see_38 (by decide) ?_
      exact y_xiret C hr hlk hP hD hS h (Nat.le_of_ble_eq_true rfl) (Nat.le_of_ble_eq_true rfl) dX11_see_39
    refine lv_if_lt (x := p2) (tgt := 28) hx hb dX11_see_6 (by decide) (fun c6 => ?_) (fun c6 => ?_)
    ·
      have h := ite_t c6 h
      exact J28 g2 L3 H locs ls h hP hD hS (lv_sub hl [0] rfl)
    ·
      have h := ite_e c6 h
      refine lv_iload_n hx hb dX11_see_9 rfl (lv_at hl 2 rfl) ?_
      refine lv_sipush (v := 999) hx hb dX11_see_10 (by decide) ?_
      refine lv_icmp_gt (x := p2) (y := 999) (tgt := 28) hx hb dX11_see_13 (by decide) (fun c7 => ?_) (fun c7 => ?_)
      ·
        have h := ite_t c7 h
        exact J28 g2 L3 H locs ls h hP hD hS (lv_sub hl [0] rfl)
      ·
        have h := ite_e c7 h
        refine lv_aload_n hx hb dX11_see_16 rfl (lv_at hl 0 rfl) ?_
        refine x_getr (Or.inl fl_X11_41) C hP (by decide) xs_0 rfl dX11_see_17 ?_
        refine x_getv (v := .int (g2 6 10)) (Or.inr fl_X11_149) C hP (by decide) xs_6 rfl dX11_see_20 ?_
        refine lv_bipush (v := 8) hx hb dX11_see_23 (by decide) ?_
        refine lv_icmp_lt (x := (g2 6 10)) (y := 8) (tgt := 40) hx hb dX11_see_25 (by decide) (fun c8 => ?_) (fun c8 => ?_)
        ·
          have h := ite_t c8 h
          refine lv_aload_n hx hb dX11_see_40 rfl (lv_at hl 0 rfl) ?_
          refine x_getr (Or.inl fl_X11_41) C hP (by decide) xs_0 rfl dX11_see_41 ?_
          refine lv_iload_n hx hb dX11_see_44 rfl (lv_at hl 1 rfl) ?_
          refine lv_iload_n hx hb dX11_see_45 rfl (lv_at hl 2 rfl) ?_
          obtain ⟨z_, g10, L11, hf12, h⟩ := cb_some h
          refine x_callNv (rest := []) li_X11_313 C (rX3_keepSeen_6 l G H.size b a fu g2 L3 p1 p2 z_ (g10, L11) hf12) (kR rfl) hP hD hS 6 3 rfl (zat (by decide) xs_6) rfl hl.1 rfl (Nat.le_of_ble_eq_true rfl) dX11_see_46 (fun u_ H locs e_ hP hD hS => ?_)
          have hP : va_P G.1 vwCl (zw G (XS b) 105 a g10 L11) H := hP
          have hD : va_D A (zw G (XS b) 105 a g10 L11) := hD
          refine lv_aload_n hx hb dX11_see_49 rfl (lv_at hl 0 rfl) ?_
          refine x_getr (Or.inl fl_X11_41) C hP (by decide) xs_0 rfl dX11_see_50 ?_
          refine x_getv (v := .int (g10 6 10)) (Or.inr fl_X11_149) C hP (by decide) xs_6 rfl dX11_see_53 ?_
          exact y_xiret C hr hlk hP hD hS h (Nat.le_of_ble_eq_true rfl) (Nat.le_of_ble_eq_true rfl) dX11_see_56
        ·
          have h := ite_e c8 h
          exact J28 g2 L3 H locs ls h hP hD hS (lv_sub hl [0] rfl)
def fX11_forget_0 (fu : Nat) (g : Nat → Nat → Int32) (L : Nat → Nat → Int64) : Option ((Unit) × zS) :=
  sti g 6 10 0 (fun g1 =>
  some ((), (g1, L)))
set_option maxHeartbeats 4000000 in
set_option maxRecDepth 100000 in
theorem rX11_forget_0 (l : Launch) (G : kG) (sz : Nat) (b : Nat) (a : Nat → Nat) (fu : Nat) (g : Nat → Nat → Int32) (L : Nat → Nat → Int64) (res : Unit) (s9 : zS) (h : fX11_forget_0 fu g L = some (res, s9)) : kM l yX11_forget cX11_forget 1 none { frames := 6, cells := 0, slots := 0, locals := 110 } G [.ref (a 0)] (zw G (XS b) 105 a g L) sz (kQv G (S := Unit) (fun _ => True) (fun _ => zw G (XS b) 105 a s9.1 s9.2)) := by
  refine kM.of (by decide) (Nat.le_of_ble_eq_true rfl) ?_
  intro p e s m below meth c A ls H C hr hlk hnm hP hD hS hl
  have C : kC G p s m c cX11_forget 1 RX11 A := C
  have hx := C.1
  have hb := C.2.1
  have hl : lv_has ls 1 [(0, .ref (a 0))] := hl
  obtain ⟨locs, hlocs⟩ : ∃ q : List Loc, q = [] := ⟨_, rfl⟩
  rw [← hlocs] at hS
  rw [← hlocs]
  unfold fX11_forget_0 at h
  refine lv_aload_n hx hb dX11_forget_0 rfl (lv_at hl 0 rfl) ?_
  refine x_getr (Or.inl fl_X11_41) C hP (by decide) xs_0 rfl dX11_forget_1 ?_
  refine lv_iconst (v := 0) hx hb dX11_forget_4 (by decide) ?_
  refine y_puti (Or.inr fl_X11_149) ft_X3_10 C hP hD hS (by decide) xs_6 rfl rfl rfl dX11_forget_5 h (fun g1 H locs h hP hD hS => ?_)
  exact y_vret C hr hlk hP hD hS h (Nat.le_of_ble_eq_true rfl) (Nat.le_of_ble_eq_true rfl) dX11_forget_8
def fX11_fits_0 (fu : Nat) (p1 : Int32) (g : Nat → Nat → Int32) (L : Nat → Nat → Int64) : Option ((Except String Int32) × zS) :=
  cbx (fX11_needWhat fu p1 3 g L) (fun x1 g2 L3 =>
  cb (fX10_findBeginners_9 fu g2 L3) (fun x5 g6 L7 =>
  if (Int32.toInt p1) = 0 then (some (.ok (g6 9 4), (g6, L7))) else
  if (Int32.toInt p1) = 1 then (some (.ok (g6 9 5), (g6, L7))) else
  some (.ok (g6 9 6), (g6, L7))))
set_option maxHeartbeats 4000000 in
set_option maxRecDepth 100000 in
theorem rX11_fits_0 (l : Launch) (hst : l.stackTraces = false) (G : kG) (sz : Nat) (b : Nat) (a : Nat → Nat) (fu : Nat) (g : Nat → Nat → Int32) (L : Nat → Nat → Int64) (p1 : Int32) (res : Except String Int32) (s9 : zS) (h : fX11_fits_0 fu p1 g L = some (res, s9)) : kMX l yX11_fits cX11_fits 2 (some .int) { frames := 12, cells := 1, slots := 6, locals := 248 } G [.ref (a 0), .int p1] (zw G (XS b) 105 a g L) sz (kQi G (S := Unit) (fun r' _ => res = .ok r') (fun _ => zw G (XS b) 105 a s9.1 s9.2)) (kXC G (S := Unit) (fun E _ => res = .error E) (fun _ => zw G (XS b) 105 a s9.1 s9.2)) := by
  refine kMX.of (by decide) (Nat.le_of_ble_eq_true rfl) ?_
  intro p e s m below meth c A ls H C hr hlk hno hP hD hS hl
  have C : kC G p s m c cX11_fits 2 RX11 A := C
  have hx := C.1
  have hb := C.2.1
  have hl : lv_has ls 2 [(0, .ref (a 0)), (1, .int p1)] := hl
  obtain ⟨locs, hlocs⟩ : ∃ q : List Loc, q = [] := ⟨_, rfl⟩
  rw [← hlocs] at hS
  rw [← hlocs]
  unfold fX11_fits_0 at h
  refine lv_iload_n hx hb dX11_fits_0 rfl (lv_at hl 1 rfl) ?_
  refine lv_iconst (v := 3) hx hb dX11_fits_1 (by decide) ?_
  obtain ⟨z_, g2, L3, hf4, h⟩ := cbx_some h
  refine x_xcallSv (rest := []) li_X11_121 C (rX11_needWhat l hst G H.size b a fu g L p1 3 z_ (g2, L3) hf4) (kR rfl) hP hD hS rfl hl.1 rfl (Nat.le_of_ble_eq_true rfl) dX11_fits_2 (fun E ce q9 u_ H locs e_ hP hD hS hc1 hc2 hc3 => ?_) (fun u_ H locs e_ hP hD hS => ?_)
  ·
    obtain ⟨e1_, e2_⟩ := cbx_err h e_
    exact x_xout hno hlk hP hD hS hc1 hc2 hc3 () (by rw [e2_]) e1_ (Nat.le_of_ble_eq_true rfl) (Nat.le_of_ble_eq_true rfl)
  ·
    have h := cbx_ok h e_
    have hP : va_P G.1 vwCl (zw G (XS b) 105 a g2 L3) H := hP
    have hD : va_D A (zw G (XS b) 105 a g2 L3) := hD
    refine lv_aload_n hx hb dX11_fits_5 rfl (lv_at hl 0 rfl) ?_
    refine x_getr (Or.inl fl_X11_62) C hP (by decide) xs_0 rfl dX11_fits_6 ?_
    obtain ⟨z_, g6, L7, hf8, h⟩ := cb_some h
    refine x_callNv (rest := []) li_X11_316 C (rX10_findBeginners_9 l G H.size b a fu g2 L3 z_ (g6, L7) hf8) (kR rfl) hP hD hS 9 10 rfl (zat (by decide) xs_9) rfl hl.1 rfl (Nat.le_of_ble_eq_true rfl) dX11_fits_9 (fun u_ H locs e_ hP hD hS => ?_)
    have hP : va_P G.1 vwCl (zw G (XS b) 105 a g6 L7) H := hP
    have hD : va_D A (zw G (XS b) 105 a g6 L7) := hD
    refine lv_iload_n hx hb dX11_fits_12 rfl (lv_at hl 1 rfl) ?_
    by_cases c9 : (Int32.toInt p1) = 0
    ·
      have h := ite_t c9 h
      refine lv_lookup (off := 27) (tgt := 40) hx hb dX11_fits_13 (by decide) (by rw [c9]; decide) (by decide) ?_
      refine lv_aload_n hx hb dX11_fits_40 rfl (lv_at hl 0 rfl) ?_
      refine x_getr (Or.inl fl_X11_62) C hP (by decide) xs_0 rfl dX11_fits_41 ?_
      refine x_getv (v := .int (g6 9 4)) (Or.inr fl_X11_319) C hP (by decide) xs_9 rfl dX11_fits_44 ?_
      exact y_xiret C hr hlk hP hD hS h (Nat.le_of_ble_eq_true rfl) (Nat.le_of_ble_eq_true rfl) dX11_fits_47
    have h := ite_e c9 h
    by_cases c10 : (Int32.toInt p1) = 1
    ·
      have h := ite_t c10 h
      refine lv_lookup (off := 35) (tgt := 48) hx hb dX11_fits_13 (by decide) (by rw [c10]; decide) (by decide) ?_
      refine lv_aload_n hx hb dX11_fits_48 rfl (lv_at hl 0 rfl) ?_
      refine x_getr (Or.inl fl_X11_62) C hP (by decide) xs_0 rfl dX11_fits_49 ?_
      refine x_getv (v := .int (g6 9 5)) (Or.inr fl_X11_322) C hP (by decide) xs_9 rfl dX11_fits_52 ?_
      exact y_xiret C hr hlk hP hD hS h (Nat.le_of_ble_eq_true rfl) (Nat.le_of_ble_eq_true rfl) dX11_fits_55
    have h := ite_e c10 h
    refine lv_lookup (off := 43) (tgt := 56) hx hb dX11_fits_13 (by decide) (by simp [Op.lookupswitch.offset, Ne.symm c9, Ne.symm c10]) (by decide) ?_
    refine lv_aload_n hx hb dX11_fits_56 rfl (lv_at hl 0 rfl) ?_
    refine x_getr (Or.inl fl_X11_62) C hP (by decide) xs_0 rfl dX11_fits_57 ?_
    refine x_getv (v := .int (g6 9 6)) (Or.inr fl_X11_325) C hP (by decide) xs_9 rfl dX11_fits_60 ?_
    exact y_xiret C hr hlk hP hD hS h (Nat.le_of_ble_eq_true rfl) (Nat.le_of_ble_eq_true rfl) dX11_fits_63
def fX11_streams_0 (fu : Nat) (g : Nat → Nat → Int32) (L : Nat → Nat → Int64) : Option ((Int32) × zS) :=
  cb (fX9_gather_12 fu g L) (fun x1 g2 L3 =>
  cb (fX9_crossings_12 fu g2 L3) (fun x5 g6 L7 =>
  some (x5, (g6, L7))))
set_option maxHeartbeats 4000000 in
set_option maxRecDepth 100000 in
theorem rX11_streams_0 (l : Launch) (G : kG) (sz : Nat) (b : Nat) (a : Nat → Nat) (fu : Nat) (g : Nat → Nat → Int32) (L : Nat → Nat → Int64) (res : Int32) (s9 : zS) (h : fX11_streams_0 fu g L = some (res, s9)) : kM l yX11_streams cX11_streams 1 (some .int) { frames := 12, cells := 0, slots := 0, locals := 249 } G [.ref (a 0)] (zw G (XS b) 105 a g L) sz (kQi G (S := Unit) (fun r' _ => r' = res) (fun _ => zw G (XS b) 105 a s9.1 s9.2)) := by
  refine kM.of (by decide) (Nat.le_of_ble_eq_true rfl) ?_
  intro p e s m below meth c A ls H C hr hlk hnm hP hD hS hl
  have C : kC G p s m c cX11_streams 1 RX11 A := C
  have hx := C.1
  have hb := C.2.1
  have hl : lv_has ls 1 [(0, .ref (a 0))] := hl
  obtain ⟨locs, hlocs⟩ : ∃ q : List Loc, q = [] := ⟨_, rfl⟩
  rw [← hlocs] at hS
  rw [← hlocs]
  unfold fX11_streams_0 at h
  refine lv_aload_n hx hb dX11_streams_0 rfl (lv_at hl 0 rfl) ?_
  refine x_getr (Or.inl fl_X11_83) C hP (by decide) xs_0 rfl dX11_streams_1 ?_
  obtain ⟨z_, g2, L3, hf4, h⟩ := cb_some h
  refine x_callNv (rest := []) li_X11_328 C (rX9_gather_12 l G H.size b a fu g L z_ (g2, L3) hf4) (kR rfl) hP hD hS 12 9 rfl (zat (by decide) xs_12) rfl hl.1 rfl (Nat.le_of_ble_eq_true rfl) dX11_streams_4 (fun u_ H locs e_ hP hD hS => ?_)
  have hP : va_P G.1 vwCl (zw G (XS b) 105 a g2 L3) H := hP
  have hD : va_D A (zw G (XS b) 105 a g2 L3) := hD
  refine lv_aload_n hx hb dX11_streams_7 rfl (lv_at hl 0 rfl) ?_
  refine x_getr (Or.inl fl_X11_83) C hP (by decide) xs_0 rfl dX11_streams_8 ?_
  obtain ⟨z_, g6, L7, hf8, h⟩ := cb_some h
  refine x_callNi (rest := []) li_X11_331 C (rX9_crossings_12 l G H.size b a fu g2 L3 z_ (g6, L7) hf8) (kR rfl) hP hD hS 12 9 rfl (zat (by decide) xs_12) rfl hl.1 rfl (Nat.le_of_ble_eq_true rfl) dX11_streams_11 (fun x5 u_ H locs e_ hP hD hS => ?_)
  have e_ : x5 = z_ := e_
  subst e_
  have hP : va_P G.1 vwCl (zw G (XS b) 105 a g6 L7) H := hP
  have hD : va_D A (zw G (XS b) 105 a g6 L7) := hD
  exact y_iret C hr hlk hP hD hS h (Nat.le_of_ble_eq_true rfl) (Nat.le_of_ble_eq_true rfl) dX11_streams_14
def fX11_term_0 (fu : Nat) (p1 : Int32) (p2 : Int32) (p3 : Int32) (p4 : Int32) (g : Nat → Nat → Int32) (L : Nat → Nat → Int64) : Option ((Except String Int32) × zS) :=
  cbx (fX11_needLesson_0 fu p3 g L) (fun x1 g2 L3 =>
  cbx (fX11_needWhat fu p4 3 g2 L3) (fun x5 g6 L7 =>
  cbx (fX11_needWithin fu p2 0 60 g6 L7) (fun x9 g10 L11 =>
  cb (fX0_ofTerm_11 fu p1 p2 p3 p4 g10 L11) (fun x13 g14 L15 =>
  some (.ok x13, (g14, L15))))))
set_option maxHeartbeats 4000000 in
set_option maxRecDepth 100000 in
theorem rX11_term_0 (l : Launch) (hst : l.stackTraces = false) (G : kG) (sz : Nat) (b : Nat) (a : Nat → Nat) (fu : Nat) (g : Nat → Nat → Int32) (L : Nat → Nat → Int64) (p1 : Int32) (p2 : Int32) (p3 : Int32) (p4 : Int32) (res : Except String Int32) (s9 : zS) (h : fX11_term_0 fu p1 p2 p3 p4 g L = some (res, s9)) : kMX l yX11_term cX11_term 5 (some .int) { frames := 12, cells := 3, slots := 18, locals := 254 } G [.ref (a 0), .int p1, .int p2, .int p3, .int p4] (zw G (XS b) 105 a g L) sz (kQi G (S := Unit) (fun r' _ => res = .ok r') (fun _ => zw G (XS b) 105 a s9.1 s9.2)) (kXC G (S := Unit) (fun E _ => res = .error E) (fun _ => zw G (XS b) 105 a s9.1 s9.2)) := by
  refine kMX.of (by decide) (Nat.le_of_ble_eq_true rfl) ?_
  intro p e s m below meth c A ls H C hr hlk hno hP hD hS hl
  have C : kC G p s m c cX11_term 5 RX11 A := C
  have hx := C.1
  have hb := C.2.1
  have hl : lv_has ls 5 [(0, .ref (a 0)), (1, .int p1), (2, .int p2), (3, .int p3), (4, .int p4)] := hl
  obtain ⟨locs, hlocs⟩ : ∃ q : List Loc, q = [] := ⟨_, rfl⟩
  rw [← hlocs] at hS
  rw [← hlocs]
  unfold fX11_term_0 at h
  refine lv_aload_n hx hb dX11_term_0 rfl (lv_at hl 0 rfl) ?_
  refine lv_iload_n hx hb dX11_term_1 rfl (lv_at hl 3 rfl) ?_
  obtain ⟨z_, g2, L3, hf4, h⟩ := cbx_some h
  refine x_xcallVv (rest := []) li_X11_156 C (rX11_needLesson_0 l hst G H.size b a fu g L p3 z_ (g2, L3) hf4) (kR rfl) hP hD hS 0 11 rfl (zat (by decide) xs_0) rfl hl.1 rfl (Nat.le_of_ble_eq_true rfl) dX11_term_2 (fun E ce q9 u_ H locs e_ hP hD hS hc1 hc2 hc3 => ?_) (fun u_ H locs e_ hP hD hS => ?_)
  ·
    obtain ⟨e1_, e2_⟩ := cbx_err h e_
    exact x_xout hno hlk hP hD hS hc1 hc2 hc3 () (by rw [e2_]) e1_ (Nat.le_of_ble_eq_true rfl) (Nat.le_of_ble_eq_true rfl)
  ·
    have h := cbx_ok h e_
    have hP : va_P G.1 vwCl (zw G (XS b) 105 a g2 L3) H := hP
    have hD : va_D A (zw G (XS b) 105 a g2 L3) := hD
    refine lv_iload hx hb dX11_term_5 (lv_at hl 4 rfl) ?_
    refine lv_iconst (v := 3) hx hb dX11_term_7 (by decide) ?_
    obtain ⟨z_, g6, L7, hf8, h⟩ := cbx_some h
    refine x_xcallSv (rest := []) li_X11_121 C (rX11_needWhat l hst G H.size b a fu g2 L3 p4 3 z_ (g6, L7) hf8) (kR rfl) hP hD hS rfl hl.1 rfl (Nat.le_of_ble_eq_true rfl) dX11_term_8 (fun E ce q9 u_ H locs e_ hP hD hS hc1 hc2 hc3 => ?_) (fun u_ H locs e_ hP hD hS => ?_)
    ·
      obtain ⟨e1_, e2_⟩ := cbx_err h e_
      exact x_xout hno hlk hP hD hS hc1 hc2 hc3 () (by rw [e2_]) e1_ (Nat.le_of_ble_eq_true rfl) (Nat.le_of_ble_eq_true rfl)
    ·
      have h := cbx_ok h e_
      have hP : va_P G.1 vwCl (zw G (XS b) 105 a g6 L7) H := hP
      have hD : va_D A (zw G (XS b) 105 a g6 L7) := hD
      refine lv_iload_n hx hb dX11_term_11 rfl (lv_at hl 2 rfl) ?_
      refine lv_iconst (v := 0) hx hb dX11_term_12 (by decide) ?_
      refine lv_bipush (v := 60) hx hb dX11_term_13 (by decide) ?_
      obtain ⟨z_, g10, L11, hf12, h⟩ := cbx_some h
      refine x_xcallSv (rest := []) li_X11_243 C (rX11_needWithin l hst G H.size b a fu g6 L7 p2 0 60 z_ (g10, L11) hf12) (kR rfl) hP hD hS rfl hl.1 rfl (Nat.le_of_ble_eq_true rfl) dX11_term_15 (fun E ce q9 u_ H locs e_ hP hD hS hc1 hc2 hc3 => ?_) (fun u_ H locs e_ hP hD hS => ?_)
      ·
        obtain ⟨e1_, e2_⟩ := cbx_err h e_
        exact x_xout hno hlk hP hD hS hc1 hc2 hc3 () (by rw [e2_]) e1_ (Nat.le_of_ble_eq_true rfl) (Nat.le_of_ble_eq_true rfl)
      ·
        have h := cbx_ok h e_
        have hP : va_P G.1 vwCl (zw G (XS b) 105 a g10 L11) H := hP
        have hD : va_D A (zw G (XS b) 105 a g10 L11) := hD
        refine lv_aload_n hx hb dX11_term_18 rfl (lv_at hl 0 rfl) ?_
        refine x_getr (Or.inl fl_X11_76) C hP (by decide) xs_0 rfl dX11_term_19 ?_
        refine lv_iload_n hx hb dX11_term_22 rfl (lv_at hl 1 rfl) ?_
        refine lv_iload_n hx hb dX11_term_23 rfl (lv_at hl 2 rfl) ?_
        refine lv_iload_n hx hb dX11_term_24 rfl (lv_at hl 3 rfl) ?_
        refine lv_iload hx hb dX11_term_25 (lv_at hl 4 rfl) ?_
        obtain ⟨z_, g14, L15, hf16, h⟩ := cb_some h
        refine x_callNi (rest := []) li_X11_334 C (rX0_ofTerm_11 l G H.size b a fu g10 L11 p1 p2 p3 p4 z_ (g14, L15) hf16) (kR rfl) hP hD hS 11 0 rfl (zat (by decide) xs_11) rfl hl.1 rfl (Nat.le_of_ble_eq_true rfl) dX11_term_27 (fun x13 u_ H locs e_ hP hD hS => ?_)
        have e_ : x13 = z_ := e_
        subst e_
        have hP : va_P G.1 vwCl (zw G (XS b) 105 a g14 L15) H := hP
        have hD : va_D A (zw G (XS b) 105 a g14 L15) := hD
        exact y_xiret C hr hlk hP hD hS h (Nat.le_of_ble_eq_true rfl) (Nat.le_of_ble_eq_true rfl) dX11_term_30
def fX11_on_0_p43 (fu : Nat) (t0 : Int32) (g : Nat → Nat → Int32) (L : Nat → Nat → Int64) : Option ((Except String Int32) × zS) :=
  some (.ok t0, (g, L))
def fX11_on_0 (fu : Nat) (p1 : Int32) (p2 : Int32) (g : Nat → Nat → Int32) (L : Nat → Nat → Int64) : Option ((Except String Int32) × zS) :=
  cbx (fX11_needWhat fu p2 2 g L) (fun x1 g2 L3 =>
  cbx (fX11_needWithin fu p1 0 4000 g2 L3) (fun x5 g6 L7 =>
  cb (fX9_gather_12 fu g6 L7) (fun x9 g10 L11 =>
  if p2 = 0 then cb (fX1_onBits_8 fu p1 g10 L11) (fun x18 g19 L20 =>
  fX11_on_0_p43 fu x18 g19 L20)
  else cb (fX9_peopleIn_12 fu p1 g10 L11) (fun x14 g15 L16 =>
  fX11_on_0_p43 fu x14 g15 L16))))
set_option maxHeartbeats 4000000 in
set_option maxRecDepth 100000 in
theorem rX11_on_0 (l : Launch) (hst : l.stackTraces = false) (G : kG) (sz : Nat) (b : Nat) (a : Nat → Nat) (fu : Nat) (g : Nat → Nat → Int32) (L : Nat → Nat → Int64) (p1 : Int32) (p2 : Int32) (res : Except String Int32) (s9 : zS) (h : fX11_on_0 fu p1 p2 g L = some (res, s9)) : kMX l yX11_on cX11_on 3 (some .int) { frames := 12, cells := 2, slots := 12, locals := 249 } G [.ref (a 0), .int p1, .int p2] (zw G (XS b) 105 a g L) sz (kQi G (S := Unit) (fun r' _ => res = .ok r') (fun _ => zw G (XS b) 105 a s9.1 s9.2)) (kXC G (S := Unit) (fun E _ => res = .error E) (fun _ => zw G (XS b) 105 a s9.1 s9.2)) := by
  refine kMX.of (by decide) (Nat.le_of_ble_eq_true rfl) ?_
  intro p e s m below meth c A ls H C hr hlk hno hP hD hS hl
  have C : kC G p s m c cX11_on 3 RX11 A := C
  have hx := C.1
  have hb := C.2.1
  have hl : lv_has ls 3 [(0, .ref (a 0)), (1, .int p1), (2, .int p2)] := hl
  obtain ⟨locs, hlocs⟩ : ∃ q : List Loc, q = [] := ⟨_, rfl⟩
  rw [← hlocs] at hS
  rw [← hlocs]
  unfold fX11_on_0 at h
  refine lv_iload_n hx hb dX11_on_0 rfl (lv_at hl 2 rfl) ?_
  refine lv_iconst (v := 2) hx hb dX11_on_1 (by decide) ?_
  obtain ⟨z_, g2, L3, hf4, h⟩ := cbx_some h
  refine x_xcallSv (rest := []) li_X11_121 C (rX11_needWhat l hst G H.size b a fu g L p2 2 z_ (g2, L3) hf4) (kR rfl) hP hD hS rfl hl.1 rfl (Nat.le_of_ble_eq_true rfl) dX11_on_2 (fun E ce q9 u_ H locs e_ hP hD hS hc1 hc2 hc3 => ?_) (fun u_ H locs e_ hP hD hS => ?_)
  ·
    obtain ⟨e1_, e2_⟩ := cbx_err h e_
    exact x_xout hno hlk hP hD hS hc1 hc2 hc3 () (by rw [e2_]) e1_ (Nat.le_of_ble_eq_true rfl) (Nat.le_of_ble_eq_true rfl)
  ·
    have h := cbx_ok h e_
    have hP : va_P G.1 vwCl (zw G (XS b) 105 a g2 L3) H := hP
    have hD : va_D A (zw G (XS b) 105 a g2 L3) := hD
    refine lv_iload_n hx hb dX11_on_5 rfl (lv_at hl 1 rfl) ?_
    refine lv_iconst (v := 0) hx hb dX11_on_6 (by decide) ?_
    refine lv_sipush (v := 4000) hx hb dX11_on_7 (by decide) ?_
    obtain ⟨z_, g6, L7, hf8, h⟩ := cbx_some h
    refine x_xcallSv (rest := []) li_X11_243 C (rX11_needWithin l hst G H.size b a fu g2 L3 p1 0 4000 z_ (g6, L7) hf8) (kR rfl) hP hD hS rfl hl.1 rfl (Nat.le_of_ble_eq_true rfl) dX11_on_10 (fun E ce q9 u_ H locs e_ hP hD hS hc1 hc2 hc3 => ?_) (fun u_ H locs e_ hP hD hS => ?_)
    ·
      obtain ⟨e1_, e2_⟩ := cbx_err h e_
      exact x_xout hno hlk hP hD hS hc1 hc2 hc3 () (by rw [e2_]) e1_ (Nat.le_of_ble_eq_true rfl) (Nat.le_of_ble_eq_true rfl)
    ·
      have h := cbx_ok h e_
      have hP : va_P G.1 vwCl (zw G (XS b) 105 a g6 L7) H := hP
      have hD : va_D A (zw G (XS b) 105 a g6 L7) := hD
      refine lv_aload_n hx hb dX11_on_13 rfl (lv_at hl 0 rfl) ?_
      refine x_getr (Or.inl fl_X11_83) C hP (by decide) xs_0 rfl dX11_on_14 ?_
      obtain ⟨z_, g10, L11, hf12, h⟩ := cb_some h
      refine x_callNv (rest := []) li_X11_328 C (rX9_gather_12 l G H.size b a fu g6 L7 z_ (g10, L11) hf12) (kR rfl) hP hD hS 12 9 rfl (zat (by decide) xs_12) rfl hl.1 rfl (Nat.le_of_ble_eq_true rfl) dX11_on_17 (fun u_ H locs e_ hP hD hS => ?_)
      have hP : va_P G.1 vwCl (zw G (XS b) 105 a g10 L11) H := hP
      have hD : va_D A (zw G (XS b) 105 a g10 L11) := hD
      refine lv_iload_n hx hb dX11_on_20 rfl (lv_at hl 2 rfl) ?_
      have J43 : ∀ (t0 : Int32) (g : Nat → Nat → Int32) (L : Nat → Nat → Int64) (H : Heap) (locs : List Loc) (ls : Array Slot), fX11_on_0_p43 fu t0 g L = some (res, s9) → va_P G.1 vwCl (zw G (XS b) 105 a g L) H → va_D A (zw G (XS b) 105 a g L) → va_S A s.heap H locs → lv_has ls 3 [] → W p l e { frames := 12, cells := 2, slots := 12, locals := 249 } s m [.ref (a 0), .int p1, .int p2].toArray below meth c H locs 2 12 (vx_MQ below ((kQi G (S := Unit) (fun r' _ => res = .ok r') (fun _ => zw G (XS b) 105 a s9.1 s9.2)) A) ((kXC G (S := Unit) (fun E _ => res = .error E) (fun _ => zw G (XS b) 105 a s9.1 s9.2)) A) [.ref (a 0), .int p1, .int p2].toArray s 2 12 A) (F0 m 43 ls [.int t0]) := by
        intro t0 g L H locs ls h hP hD hS hl
        unfold fX11_on_0_p43 at h
        exact y_xiret C hr hlk hP hD hS h (Nat.le_of_ble_eq_true rfl) (Nat.le_of_ble_eq_true rfl) dX11_on_43
      refine lv_if_ne (x := p2) (tgt := 35) hx hb dX11_on_21 (by decide) (fun c13 => ?_) (fun c13 => ?_)
      ·
        have h := ite_e c13 h
        refine lv_aload_n hx hb dX11_on_35 rfl (lv_at hl 0 rfl) ?_
        refine x_getr (Or.inl fl_X11_83) C hP (by decide) xs_0 rfl dX11_on_36 ?_
        refine lv_iload_n hx hb dX11_on_39 rfl (lv_at hl 1 rfl) ?_
        obtain ⟨z_, g15, L16, hf17, h⟩ := cb_some h
        refine x_callNi (rest := []) li_X11_341 C (rX9_peopleIn_12 l G H.size b a fu g10 L11 p1 z_ (g15, L16) hf17) (kR rfl) hP hD hS 12 9 rfl (zat (by decide) xs_12) rfl hl.1 rfl (Nat.le_of_ble_eq_true rfl) dX11_on_40 (fun x14 u_ H locs e_ hP hD hS => ?_)
        have e_ : x14 = z_ := e_
        subst e_
        have hP : va_P G.1 vwCl (zw G (XS b) 105 a g15 L16) H := hP
        have hD : va_D A (zw G (XS b) 105 a g15 L16) := hD
        exact J43 x14 g15 L16 H locs ls h hP hD hS (lv_sub hl [] rfl)
      ·
        have h := ite_t c13 h
        refine lv_aload_n hx hb dX11_on_24 rfl (lv_at hl 0 rfl) ?_
        refine x_getr (Or.inl fl_X11_53) C hP (by decide) xs_0 rfl dX11_on_25 ?_
        refine lv_iload_n hx hb dX11_on_28 rfl (lv_at hl 1 rfl) ?_
        obtain ⟨z_, g19, L20, hf21, h⟩ := cb_some h
        refine x_callNi (rest := []) li_X11_338 C (rX1_onBits_8 l G H.size b a fu g10 L11 p1 z_ (g19, L20) hf21) (kR rfl) hP hD hS 8 1 rfl (zat (by decide) xs_8) rfl hl.1 rfl (Nat.le_of_ble_eq_true rfl) dX11_on_29 (fun x18 u_ H locs e_ hP hD hS => ?_)
        have e_ : x18 = z_ := e_
        subst e_
        have hP : va_P G.1 vwCl (zw G (XS b) 105 a g19 L20) H := hP
        have hD : va_D A (zw G (XS b) 105 a g19 L20) := hD
        refine lv_goto (tgt := 43) hx hb dX11_on_32 (by decide) ?_
        exact J43 x18 g19 L20 H locs ls h hP hD hS (lv_sub hl [] rfl)
def fX11_clash_0_p34 (fu : Nat) (t0 : Int32) (g : Nat → Nat → Int32) (L : Nat → Nat → Int64) : Option ((Except String Int32) × zS) :=
  some (.ok t0, (g, L))
def fX11_clash_0 (fu : Nat) (p1 : Int32) (g : Nat → Nat → Int32) (L : Nat → Nat → Int64) : Option ((Except String Int32) × zS) :=
  cbx (fX11_needWhat fu p1 2 g L) (fun x1 g2 L3 =>
  cb (fX1_runFrom_8 fu 0 g2 L3) (fun x5 g6 L7 =>
  if p1 = 0 then cb (fX1_clashes_8 fu g6 L7) (fun x14 g15 L16 =>
  fX11_clash_0_p34 fu x14 g15 L16)
  else cb (fX1_firstClash_8 fu g6 L7) (fun x10 g11 L12 =>
  fX11_clash_0_p34 fu x10 g11 L12)))
set_option maxHeartbeats 4000000 in
set_option maxRecDepth 100000 in
theorem rX11_clash_0 (l : Launch) (hst : l.stackTraces = false) (G : kG) (sz : Nat) (b : Nat) (a : Nat → Nat) (fu : Nat) (g : Nat → Nat → Int32) (L : Nat → Nat → Int64) (p1 : Int32) (res : Except String Int32) (s9 : zS) (h : fX11_clash_0 fu p1 g L = some (res, s9)) : kMX l yX11_clash cX11_clash 2 (some .int) { frames := 11, cells := 1, slots := 6, locals := 225 } G [.ref (a 0), .int p1] (zw G (XS b) 105 a g L) sz (kQi G (S := Unit) (fun r' _ => res = .ok r') (fun _ => zw G (XS b) 105 a s9.1 s9.2)) (kXC G (S := Unit) (fun E _ => res = .error E) (fun _ => zw G (XS b) 105 a s9.1 s9.2)) := by
  refine kMX.of (by decide) (Nat.le_of_ble_eq_true rfl) ?_
  intro p e s m below meth c A ls H C hr hlk hno hP hD hS hl
  have C : kC G p s m c cX11_clash 2 RX11 A := C
  have hx := C.1
  have hb := C.2.1
  have hl : lv_has ls 2 [(0, .ref (a 0)), (1, .int p1)] := hl
  obtain ⟨locs, hlocs⟩ : ∃ q : List Loc, q = [] := ⟨_, rfl⟩
  rw [← hlocs] at hS
  rw [← hlocs]
  unfold fX11_clash_0 at h
  refine lv_iload_n hx hb dX11_clash_0 rfl (lv_at hl 1 rfl) ?_
  refine lv_iconst (v := 2) hx hb dX11_clash_1 (by decide) ?_
  obtain ⟨z_, g2, L3, hf4, h⟩ := cbx_some h
  refine x_xcallSv (rest := []) li_X11_121 C (rX11_needWhat l hst G H.size b a fu g L p1 2 z_ (g2, L3) hf4) (kR rfl) hP hD hS rfl hl.1 rfl (Nat.le_of_ble_eq_true rfl) dX11_clash_2 (fun E ce q9 u_ H locs e_ hP hD hS hc1 hc2 hc3 => ?_) (fun u_ H locs e_ hP hD hS => ?_)
  ·
    obtain ⟨e1_, e2_⟩ := cbx_err h e_
    exact x_xout hno hlk hP hD hS hc1 hc2 hc3 () (by rw [e2_]) e1_ (Nat.le_of_ble_eq_true rfl) (Nat.le_of_ble_eq_true rfl)
  ·
    have h := cbx_ok h e_
    have hP : va_P G.1 vwCl (zw G (XS b) 105 a g2 L3) H := hP
    have hD : va_D A (zw G (XS b) 105 a g2 L3) := hD
    refine lv_aload_n hx hb dX11_clash_5 rfl (lv_at hl 0 rfl) ?_
    refine x_getr (Or.inl fl_X11_53) C hP (by decide) xs_0 rfl dX11_clash_6 ?_
    refine lv_iconst (v := 0) hx hb dX11_clash_9 (by decide) ?_
    obtain ⟨z_, g6, L7, hf8, h⟩ := cb_some h
    refine x_callNv (rest := []) li_X11_201 C (rX1_runFrom_8 l G H.size b a fu g2 L3 0 z_ (g6, L7) hf8) (kR rfl) hP hD hS 8 1 rfl (zat (by decide) xs_8) rfl hl.1 rfl (Nat.le_of_ble_eq_true rfl) dX11_clash_10 (fun u_ H locs e_ hP hD hS => ?_)
    have hP : va_P G.1 vwCl (zw G (XS b) 105 a g6 L7) H := hP
    have hD : va_D A (zw G (XS b) 105 a g6 L7) := hD
    refine lv_iload_n hx hb dX11_clash_13 rfl (lv_at hl 1 rfl) ?_
    have J34 : ∀ (t0 : Int32) (g : Nat → Nat → Int32) (L : Nat → Nat → Int64) (H : Heap) (locs : List Loc) (ls : Array Slot), fX11_clash_0_p34 fu t0 g L = some (res, s9) → va_P G.1 vwCl (zw G (XS b) 105 a g L) H → va_D A (zw G (XS b) 105 a g L) → va_S A s.heap H locs → lv_has ls 2 [] → W p l e { frames := 11, cells := 1, slots := 6, locals := 225 } s m [.ref (a 0), .int p1].toArray below meth c H locs 1 6 (vx_MQ below ((kQi G (S := Unit) (fun r' _ => res = .ok r') (fun _ => zw G (XS b) 105 a s9.1 s9.2)) A) ((kXC G (S := Unit) (fun E _ => res = .error E) (fun _ => zw G (XS b) 105 a s9.1 s9.2)) A) [.ref (a 0), .int p1].toArray s 1 6 A) (F0 m 34 ls [.int t0]) := by
      intro t0 g L H locs ls h hP hD hS hl
      unfold fX11_clash_0_p34 at h
      exact y_xiret C hr hlk hP hD hS h (Nat.le_of_ble_eq_true rfl) (Nat.le_of_ble_eq_true rfl) dX11_clash_34
    refine lv_if_ne (x := p1) (tgt := 27) hx hb dX11_clash_14 (by decide) (fun c9 => ?_) (fun c9 => ?_)
    ·
      have h := ite_e c9 h
      refine lv_aload_n hx hb dX11_clash_27 rfl (lv_at hl 0 rfl) ?_
      refine x_getr (Or.inl fl_X11_53) C hP (by decide) xs_0 rfl dX11_clash_28 ?_
      obtain ⟨z_, g11, L12, hf13, h⟩ := cb_some h
      refine x_callNi (rest := []) li_X11_347 C (rX1_firstClash_8 l G H.size b a fu g6 L7 z_ (g11, L12) hf13) (kR rfl) hP hD hS 8 1 rfl (zat (by decide) xs_8) rfl hl.1 rfl (Nat.le_of_ble_eq_true rfl) dX11_clash_31 (fun x10 u_ H locs e_ hP hD hS => ?_)
      have e_ : x10 = z_ := e_
      subst e_
      have hP : va_P G.1 vwCl (zw G (XS b) 105 a g11 L12) H := hP
      have hD : va_D A (zw G (XS b) 105 a g11 L12) := hD
      exact J34 x10 g11 L12 H locs ls h hP hD hS (lv_sub hl [] rfl)
    ·
      have h := ite_t c9 h
      refine lv_aload_n hx hb dX11_clash_17 rfl (lv_at hl 0 rfl) ?_
      refine x_getr (Or.inl fl_X11_53) C hP (by decide) xs_0 rfl dX11_clash_18 ?_
      obtain ⟨z_, g15, L16, hf17, h⟩ := cb_some h
      refine x_callNi (rest := []) li_X11_344 C (rX1_clashes_8 l G H.size b a fu g6 L7 z_ (g15, L16) hf17) (kR rfl) hP hD hS 8 1 rfl (zat (by decide) xs_8) rfl hl.1 rfl (Nat.le_of_ble_eq_true rfl) dX11_clash_21 (fun x14 u_ H locs e_ hP hD hS => ?_)
      have e_ : x14 = z_ := e_
      subst e_
      have hP : va_P G.1 vwCl (zw G (XS b) 105 a g15 L16) H := hP
      have hD : va_D A (zw G (XS b) 105 a g15 L16) := hD
      refine lv_goto (tgt := 34) hx hb dX11_clash_24 (by decide) ?_
      exact J34 x14 g15 L16 H locs ls h hP hD hS (lv_sub hl [] rfl)
def fX11_busiest_0_p44 (fu : Nat) (t0 : Int32) (g : Nat → Nat → Int32) (L : Nat → Nat → Int64) : Option ((Except String Int32) × zS) :=
  some (.ok t0, (g, L))
def fX11_busiest_0 (fu : Nat) (p1 : Int32) (g : Nat → Nat → Int32) (L : Nat → Nat → Int64) : Option ((Except String Int32) × zS) :=
  cbx (fX11_needWhat fu p1 2 g L) (fun x1 g2 L3 =>
  cb (fX9_gather_12 fu g2 L3) (fun x5 g6 L7 =>
  cb (fX9_busiestMinute_12 fu g6 L7) (fun x9 g10 L11 =>
  if (p1 : Int32) = 1 then some (.ok x9, (g10, L11))
  else if (x9 : Int32) = (-1) then fX11_busiest_0_p44 fu 0 g10 L11
  else cb (fX9_peopleIn_12 fu x9 g10 L11) (fun x15 g16 L17 =>
  fX11_busiest_0_p44 fu x15 g16 L17))))
set_option maxHeartbeats 4000000 in
set_option maxRecDepth 100000 in
theorem rX11_busiest_0 (l : Launch) (hst : l.stackTraces = false) (G : kG) (sz : Nat) (b : Nat) (a : Nat → Nat) (fu : Nat) (g : Nat → Nat → Int32) (L : Nat → Nat → Int64) (p1 : Int32) (res : Except String Int32) (s9 : zS) (h : fX11_busiest_0 fu p1 g L = some (res, s9)) : kMX l yX11_busiest cX11_busiest 3 (some .int) { frames := 12, cells := 1, slots := 6, locals := 249 } G [.ref (a 0), .int p1] (zw G (XS b) 105 a g L) sz (kQi G (S := Unit) (fun r' _ => res = .ok r') (fun _ => zw G (XS b) 105 a s9.1 s9.2)) (kXC G (S := Unit) (fun E _ => res = .error E) (fun _ => zw G (XS b) 105 a s9.1 s9.2)) := by
  refine kMX.of (by decide) (Nat.le_of_ble_eq_true rfl) ?_
  intro p e s m below meth c A ls H C hr hlk hno hP hD hS hl
  have C : kC G p s m c cX11_busiest 3 RX11 A := C
  have hx := C.1
  have hb := C.2.1
  have hl : lv_has ls 3 [(0, .ref (a 0)), (1, .int p1)] := hl
  obtain ⟨locs, hlocs⟩ : ∃ q : List Loc, q = [] := ⟨_, rfl⟩
  rw [← hlocs] at hS
  rw [← hlocs]
  unfold fX11_busiest_0 at h
  refine lv_iload_n hx hb dX11_busiest_0 rfl (lv_at hl 1 rfl) ?_
  refine lv_iconst (v := 2) hx hb dX11_busiest_1 (by decide) ?_
  obtain ⟨z_, g2, L3, hf4, h⟩ := cbx_some h
  refine x_xcallSv (rest := []) li_X11_121 C (rX11_needWhat l hst G H.size b a fu g L p1 2 z_ (g2, L3) hf4) (kR rfl) hP hD hS rfl hl.1 rfl (Nat.le_of_ble_eq_true rfl) dX11_busiest_2 (fun E ce q9 u_ H locs e_ hP hD hS hc1 hc2 hc3 => ?_) (fun u_ H locs e_ hP hD hS => ?_)
  ·
    obtain ⟨e1_, e2_⟩ := cbx_err h e_
    exact x_xout hno hlk hP hD hS hc1 hc2 hc3 () (by rw [e2_]) e1_ (Nat.le_of_ble_eq_true rfl) (Nat.le_of_ble_eq_true rfl)
  ·
    have h := cbx_ok h e_
    have hP : va_P G.1 vwCl (zw G (XS b) 105 a g2 L3) H := hP
    have hD : va_D A (zw G (XS b) 105 a g2 L3) := hD
    refine lv_aload_n hx hb dX11_busiest_5 rfl (lv_at hl 0 rfl) ?_
    refine x_getr (Or.inl fl_X11_83) C hP (by decide) xs_0 rfl dX11_busiest_6 ?_
    obtain ⟨z_, g6, L7, hf8, h⟩ := cb_some h
    refine x_callNv (rest := []) li_X11_328 C (rX9_gather_12 l G H.size b a fu g2 L3 z_ (g6, L7) hf8) (kR rfl) hP hD hS 12 9 rfl (zat (by decide) xs_12) rfl hl.1 rfl (Nat.le_of_ble_eq_true rfl) dX11_busiest_9 (fun u_ H locs e_ hP hD hS => ?_)
    have hP : va_P G.1 vwCl (zw G (XS b) 105 a g6 L7) H := hP
    have hD : va_D A (zw G (XS b) 105 a g6 L7) := hD
    refine lv_aload_n hx hb dX11_busiest_12 rfl (lv_at hl 0 rfl) ?_
    refine x_getr (Or.inl fl_X11_83) C hP (by decide) xs_0 rfl dX11_busiest_13 ?_
    obtain ⟨z_, g10, L11, hf12, h⟩ := cb_some h
    refine x_callNi (rest := []) li_X11_350 C (rX9_busiestMinute_12 l G H.size b a fu g6 L7 z_ (g10, L11) hf12) (kR rfl) hP hD hS 12 9 rfl (zat (by decide) xs_12) rfl hl.1 rfl (Nat.le_of_ble_eq_true rfl) dX11_busiest_16 (fun x9 u_ H locs e_ hP hD hS => ?_)
    have e_ : x9 = z_ := e_
    subst e_
    have hP : va_P G.1 vwCl (zw G (XS b) 105 a g10 L11) H := hP
    have hD : va_D A (zw G (XS b) 105 a g10 L11) := hD
    refine lv_istore_n (lv' := [(2, .int x9), (0, .ref (a 0)), (1, .int p1)]) hx hb dX11_busiest_19 rfl hl (by decide) rfl (fun ls hl => ?_)
    refine lv_iload_n hx hb dX11_busiest_20 rfl (lv_at hl 2 rfl) ?_
    refine lv_iconst (v := 1) hx hb dX11_busiest_21 (by decide) ?_
    refine lv_icmp_ne (x := p1) (y := 1) (tgt := 27) hx hb dX11_busiest_22 (by decide) (fun c13 => ?_) (fun c13 => ?_)
    ·
      have h := ite_e c13 h
      refine lv_iload_n hx hb dX11_busiest_27 rfl (lv_at hl 0 rfl) ?_
      refine lv_iconst (v := -1) hx hb dX11_busiest_28 (by decide) ?_
      have J44 : ∀ (t0 : Int32) (g : Nat → Nat → Int32) (L : Nat → Nat → Int64) (H : Heap) (locs : List Loc) (ls : Array Slot), fX11_busiest_0_p44 fu t0 g L = some (res, s9) → va_P G.1 vwCl (zw G (XS b) 105 a g L) H → va_D A (zw G (XS b) 105 a g L) → va_S A s.heap H locs → lv_has ls 3 [] → W p l e { frames := 12, cells := 1, slots := 6, locals := 249 } s m [.ref (a 0), .int p1].toArray below meth c H locs 1 6 (vx_MQ below ((kQi G (S := Unit) (fun r' _ => res = .ok r') (fun _ => zw G (XS b) 105 a s9.1 s9.2)) A) ((kXC G (S := Unit) (fun E _ => res = .error E) (fun _ => zw G (XS b) 105 a s9.1 s9.2)) A) [.ref (a 0), .int p1].toArray s 1 6 A) (F0 m 44 ls [.int t0]) := by
        intro t0 g L H locs ls h hP hD hS hl
        unfold fX11_busiest_0_p44 at h
        exact y_xiret C hr hlk hP hD hS h (Nat.le_of_ble_eq_true rfl) (Nat.le_of_ble_eq_true rfl) dX11_busiest_44
      refine lv_icmp_ne (x := x9) (y := (-1)) (tgt := 36) hx hb dX11_busiest_29 (by decide) (fun c14 => ?_) (fun c14 => ?_)
      ·
        have h := ite_e c14 h
        refine lv_aload_n hx hb dX11_busiest_36 rfl (lv_at hl 1 rfl) ?_
        refine x_getr (Or.inl fl_X11_83) C hP (by decide) xs_0 rfl dX11_busiest_37 ?_
        refine lv_iload_n hx hb dX11_busiest_40 rfl (lv_at hl 0 rfl) ?_
        obtain ⟨z_, g16, L17, hf18, h⟩ := cb_some h
        refine x_callNi (rest := []) li_X11_341 C (rX9_peopleIn_12 l G H.size b a fu g10 L11 x9 z_ (g16, L17) hf18) (kR rfl) hP hD hS 12 9 rfl (zat (by decide) xs_12) rfl hl.1 rfl (Nat.le_of_ble_eq_true rfl) dX11_busiest_41 (fun x15 u_ H locs e_ hP hD hS => ?_)
        have e_ : x15 = z_ := e_
        subst e_
        have hP : va_P G.1 vwCl (zw G (XS b) 105 a g16 L17) H := hP
        have hD : va_D A (zw G (XS b) 105 a g16 L17) := hD
        exact J44 x15 g16 L17 H locs ls h hP hD hS (lv_sub hl [] rfl)
      ·
        have h := ite_t c14 h
        refine lv_iconst (v := 0) hx hb dX11_busiest_32 (by decide) ?_
        refine lv_goto (tgt := 44) hx hb dX11_busiest_33 (by decide) ?_
        exact J44 0 g10 L11 H locs ls h hP hD hS (lv_sub hl [] rfl)
    ·
      have h := ite_t c13 h
      refine lv_iload_n hx hb dX11_busiest_25 rfl (lv_at hl 0 rfl) ?_
      exact y_xiret C hr hlk hP hD hS h (Nat.le_of_ble_eq_true rfl) (Nat.le_of_ble_eq_true rfl) dX11_busiest_26
def fX11_idle_0 (fu : Nat) (g : Nat → Nat → Int32) (L : Nat → Nat → Int64) : Option ((Int32) × zS) :=
  cb (fX1_runFrom_8 fu 0 g L) (fun x1 g2 L3 =>
  cb (fX1_idleMinutes_8 fu g2 L3) (fun x5 g6 L7 =>
  some (x5, (g6, L7))))
set_option maxHeartbeats 4000000 in
set_option maxRecDepth 100000 in
theorem rX11_idle_0 (l : Launch) (G : kG) (sz : Nat) (b : Nat) (a : Nat → Nat) (fu : Nat) (g : Nat → Nat → Int32) (L : Nat → Nat → Int64) (res : Int32) (s9 : zS) (h : fX11_idle_0 fu g L = some (res, s9)) : kM l yX11_idle cX11_idle 1 (some .int) { frames := 11, cells := 0, slots := 0, locals := 225 } G [.ref (a 0)] (zw G (XS b) 105 a g L) sz (kQi G (S := Unit) (fun r' _ => r' = res) (fun _ => zw G (XS b) 105 a s9.1 s9.2)) := by
  refine kM.of (by decide) (Nat.le_of_ble_eq_true rfl) ?_
  intro p e s m below meth c A ls H C hr hlk hnm hP hD hS hl
  have C : kC G p s m c cX11_idle 1 RX11 A := C
  have hx := C.1
  have hb := C.2.1
  have hl : lv_has ls 1 [(0, .ref (a 0))] := hl
  obtain ⟨locs, hlocs⟩ : ∃ q : List Loc, q = [] := ⟨_, rfl⟩
  rw [← hlocs] at hS
  rw [← hlocs]
  unfold fX11_idle_0 at h
  refine lv_aload_n hx hb dX11_idle_0 rfl (lv_at hl 0 rfl) ?_
  refine x_getr (Or.inl fl_X11_53) C hP (by decide) xs_0 rfl dX11_idle_1 ?_
  refine lv_iconst (v := 0) hx hb dX11_idle_4 (by decide) ?_
  obtain ⟨z_, g2, L3, hf4, h⟩ := cb_some h
  refine x_callNv (rest := []) li_X11_201 C (rX1_runFrom_8 l G H.size b a fu g L 0 z_ (g2, L3) hf4) (kR rfl) hP hD hS 8 1 rfl (zat (by decide) xs_8) rfl hl.1 rfl (Nat.le_of_ble_eq_true rfl) dX11_idle_5 (fun u_ H locs e_ hP hD hS => ?_)
  have hP : va_P G.1 vwCl (zw G (XS b) 105 a g2 L3) H := hP
  have hD : va_D A (zw G (XS b) 105 a g2 L3) := hD
  refine lv_aload_n hx hb dX11_idle_8 rfl (lv_at hl 0 rfl) ?_
  refine x_getr (Or.inl fl_X11_53) C hP (by decide) xs_0 rfl dX11_idle_9 ?_
  obtain ⟨z_, g6, L7, hf8, h⟩ := cb_some h
  refine x_callNi (rest := []) li_X11_353 C (rX1_idleMinutes_8 l G H.size b a fu g2 L3 z_ (g6, L7) hf8) (kR rfl) hP hD hS 8 1 rfl (zat (by decide) xs_8) rfl hl.1 rfl (Nat.le_of_ble_eq_true rfl) dX11_idle_12 (fun x5 u_ H locs e_ hP hD hS => ?_)
  have e_ : x5 = z_ := e_
  subst e_
  have hP : va_P G.1 vwCl (zw G (XS b) 105 a g6 L7) H := hP
  have hD : va_D A (zw G (XS b) 105 a g6 L7) := hD
  exact y_iret C hr hlk hP hD hS h (Nat.le_of_ble_eq_true rfl) (Nat.le_of_ble_eq_true rfl) dX11_idle_15
def fX11_shift_0 (fu : Nat) (p1 : Int32) (p2 : Int32) (g : Nat → Nat → Int32) (L : Nat → Nat → Int64) : Option ((Except String Int32) × zS) :=
  cbx (fX11_needLesson_0 fu p1 g L) (fun x1 g2 L3 =>
  cbx (fX11_needWhat fu p2 2 g2 L3) (fun x5 g6 L7 =>
  cb (fX10_leastByShift_9 fu p1 p2 g6 L7) (fun x9 g10 L11 =>
  some (.ok x9, (g10, L11)))))
set_option maxHeartbeats 4000000 in
set_option maxRecDepth 100000 in
theorem rX11_shift_0 (l : Launch) (hst : l.stackTraces = false) (G : kG) (sz : Nat) (b : Nat) (a : Nat → Nat) (fu : Nat) (g : Nat → Nat → Int32) (L : Nat → Nat → Int64) (p1 : Int32) (p2 : Int32) (res : Except String Int32) (s9 : zS) (h : fX11_shift_0 fu p1 p2 g L = some (res, s9)) : kMX l yX11_shift cX11_shift 3 (some .int) { frames := 12, cells := 2, slots := 12, locals := 251 } G [.ref (a 0), .int p1, .int p2] (zw G (XS b) 105 a g L) sz (kQi G (S := Unit) (fun r' _ => res = .ok r') (fun _ => zw G (XS b) 105 a s9.1 s9.2)) (kXC G (S := Unit) (fun E _ => res = .error E) (fun _ => zw G (XS b) 105 a s9.1 s9.2)) := by
  refine kMX.of (by decide) (Nat.le_of_ble_eq_true rfl) ?_
  intro p e s m below meth c A ls H C hr hlk hno hP hD hS hl
  have C : kC G p s m c cX11_shift 3 RX11 A := C
  have hx := C.1
  have hb := C.2.1
  have hl : lv_has ls 3 [(0, .ref (a 0)), (1, .int p1), (2, .int p2)] := hl
  obtain ⟨locs, hlocs⟩ : ∃ q : List Loc, q = [] := ⟨_, rfl⟩
  rw [← hlocs] at hS
  rw [← hlocs]
  unfold fX11_shift_0 at h
  refine lv_aload_n hx hb dX11_shift_0 rfl (lv_at hl 0 rfl) ?_
  refine lv_iload_n hx hb dX11_shift_1 rfl (lv_at hl 1 rfl) ?_
  obtain ⟨z_, g2, L3, hf4, h⟩ := cbx_some h
  refine x_xcallVv (rest := []) li_X11_156 C (rX11_needLesson_0 l hst G H.size b a fu g L p1 z_ (g2, L3) hf4) (kR rfl) hP hD hS 0 11 rfl (zat (by decide) xs_0) rfl hl.1 rfl (Nat.le_of_ble_eq_true rfl) dX11_shift_2 (fun E ce q9 u_ H locs e_ hP hD hS hc1 hc2 hc3 => ?_) (fun u_ H locs e_ hP hD hS => ?_)
  ·
    obtain ⟨e1_, e2_⟩ := cbx_err h e_
    exact x_xout hno hlk hP hD hS hc1 hc2 hc3 () (by rw [e2_]) e1_ (Nat.le_of_ble_eq_true rfl) (Nat.le_of_ble_eq_true rfl)
  ·
    have h := cbx_ok h e_
    have hP : va_P G.1 vwCl (zw G (XS b) 105 a g2 L3) H := hP
    have hD : va_D A (zw G (XS b) 105 a g2 L3) := hD
    refine lv_iload_n hx hb dX11_shift_5 rfl (lv_at hl 2 rfl) ?_
    refine lv_iconst (v := 2) hx hb dX11_shift_6 (by decide) ?_
    obtain ⟨z_, g6, L7, hf8, h⟩ := cbx_some h
    refine x_xcallSv (rest := []) li_X11_121 C (rX11_needWhat l hst G H.size b a fu g2 L3 p2 2 z_ (g6, L7) hf8) (kR rfl) hP hD hS rfl hl.1 rfl (Nat.le_of_ble_eq_true rfl) dX11_shift_7 (fun E ce q9 u_ H locs e_ hP hD hS hc1 hc2 hc3 => ?_) (fun u_ H locs e_ hP hD hS => ?_)
    ·
      obtain ⟨e1_, e2_⟩ := cbx_err h e_
      exact x_xout hno hlk hP hD hS hc1 hc2 hc3 () (by rw [e2_]) e1_ (Nat.le_of_ble_eq_true rfl) (Nat.le_of_ble_eq_true rfl)
    ·
      have h := cbx_ok h e_
      have hP : va_P G.1 vwCl (zw G (XS b) 105 a g6 L7) H := hP
      have hD : va_D A (zw G (XS b) 105 a g6 L7) := hD
      refine lv_aload_n hx hb dX11_shift_10 rfl (lv_at hl 0 rfl) ?_
      refine x_getr (Or.inl fl_X11_62) C hP (by decide) xs_0 rfl dX11_shift_11 ?_
      refine lv_iload_n hx hb dX11_shift_14 rfl (lv_at hl 1 rfl) ?_
      refine lv_iload_n hx hb dX11_shift_15 rfl (lv_at hl 2 rfl) ?_
      obtain ⟨z_, g10, L11, hf12, h⟩ := cb_some h
      refine x_callNi (rest := []) li_X11_356 C (rX10_leastByShift_9 l G H.size b a fu g6 L7 p1 p2 z_ (g10, L11) hf12) (kR rfl) hP hD hS 9 10 rfl (zat (by decide) xs_9) rfl hl.1 rfl (Nat.le_of_ble_eq_true rfl) dX11_shift_16 (fun x9 u_ H locs e_ hP hD hS => ?_)
      have e_ : x9 = z_ := e_
      subst e_
      have hP : va_P G.1 vwCl (zw G (XS b) 105 a g10 L11) H := hP
      have hD : va_D A (zw G (XS b) 105 a g10 L11) := hD
      exact y_xiret C hr hlk hP hD hS h (Nat.le_of_ble_eq_true rfl) (Nat.le_of_ble_eq_true rfl) dX11_shift_19
def fX11_harm_0 (fu : Nat) (p1 : Int32) (p2 : Int32) (g : Nat → Nat → Int32) (L : Nat → Nat → Int64) : Option ((Except String Int32) × zS) :=
  cbx (fX11_needLesson_0 fu p1 g L) (fun x1 g2 L3 =>
  cbx (fX11_needLesson_0 fu p2 g2 L3) (fun x5 g6 L7 =>
  cb (fX10_harmDone_9 fu p1 p2 g6 L7) (fun x9 g10 L11 =>
  some (.ok x9, (g10, L11)))))
set_option maxHeartbeats 4000000 in
set_option maxRecDepth 100000 in
theorem rX11_harm_0 (l : Launch) (hst : l.stackTraces = false) (G : kG) (sz : Nat) (b : Nat) (a : Nat → Nat) (fu : Nat) (g : Nat → Nat → Int32) (L : Nat → Nat → Int64) (p1 : Int32) (p2 : Int32) (res : Except String Int32) (s9 : zS) (h : fX11_harm_0 fu p1 p2 g L = some (res, s9)) : kMX l yX11_harm cX11_harm 3 (some .int) { frames := 12, cells := 2, slots := 12, locals := 249 } G [.ref (a 0), .int p1, .int p2] (zw G (XS b) 105 a g L) sz (kQi G (S := Unit) (fun r' _ => res = .ok r') (fun _ => zw G (XS b) 105 a s9.1 s9.2)) (kXC G (S := Unit) (fun E _ => res = .error E) (fun _ => zw G (XS b) 105 a s9.1 s9.2)) := by
  refine kMX.of (by decide) (Nat.le_of_ble_eq_true rfl) ?_
  intro p e s m below meth c A ls H C hr hlk hno hP hD hS hl
  have C : kC G p s m c cX11_harm 3 RX11 A := C
  have hx := C.1
  have hb := C.2.1
  have hl : lv_has ls 3 [(0, .ref (a 0)), (1, .int p1), (2, .int p2)] := hl
  obtain ⟨locs, hlocs⟩ : ∃ q : List Loc, q = [] := ⟨_, rfl⟩
  rw [← hlocs] at hS
  rw [← hlocs]
  unfold fX11_harm_0 at h
  refine lv_aload_n hx hb dX11_harm_0 rfl (lv_at hl 0 rfl) ?_
  refine lv_iload_n hx hb dX11_harm_1 rfl (lv_at hl 1 rfl) ?_
  obtain ⟨z_, g2, L3, hf4, h⟩ := cbx_some h
  refine x_xcallVv (rest := []) li_X11_156 C (rX11_needLesson_0 l hst G H.size b a fu g L p1 z_ (g2, L3) hf4) (kR rfl) hP hD hS 0 11 rfl (zat (by decide) xs_0) rfl hl.1 rfl (Nat.le_of_ble_eq_true rfl) dX11_harm_2 (fun E ce q9 u_ H locs e_ hP hD hS hc1 hc2 hc3 => ?_) (fun u_ H locs e_ hP hD hS => ?_)
  ·
    obtain ⟨e1_, e2_⟩ := cbx_err h e_
    exact x_xout hno hlk hP hD hS hc1 hc2 hc3 () (by rw [e2_]) e1_ (Nat.le_of_ble_eq_true rfl) (Nat.le_of_ble_eq_true rfl)
  ·
    have h := cbx_ok h e_
    have hP : va_P G.1 vwCl (zw G (XS b) 105 a g2 L3) H := hP
    have hD : va_D A (zw G (XS b) 105 a g2 L3) := hD
    refine lv_aload_n hx hb dX11_harm_5 rfl (lv_at hl 0 rfl) ?_
    refine lv_iload_n hx hb dX11_harm_6 rfl (lv_at hl 2 rfl) ?_
    obtain ⟨z_, g6, L7, hf8, h⟩ := cbx_some h
    refine x_xcallVv (rest := []) li_X11_156 C (rX11_needLesson_0 l hst G H.size b a fu g2 L3 p2 z_ (g6, L7) hf8) (kR rfl) hP hD hS 0 11 rfl (zat (by decide) xs_0) rfl hl.1 rfl (Nat.le_of_ble_eq_true rfl) dX11_harm_7 (fun E ce q9 u_ H locs e_ hP hD hS hc1 hc2 hc3 => ?_) (fun u_ H locs e_ hP hD hS => ?_)
    ·
      obtain ⟨e1_, e2_⟩ := cbx_err h e_
      exact x_xout hno hlk hP hD hS hc1 hc2 hc3 () (by rw [e2_]) e1_ (Nat.le_of_ble_eq_true rfl) (Nat.le_of_ble_eq_true rfl)
    ·
      have h := cbx_ok h e_
      have hP : va_P G.1 vwCl (zw G (XS b) 105 a g6 L7) H := hP
      have hD : va_D A (zw G (XS b) 105 a g6 L7) := hD
      refine lv_aload_n hx hb dX11_harm_10 rfl (lv_at hl 0 rfl) ?_
      refine x_getr (Or.inl fl_X11_62) C hP (by decide) xs_0 rfl dX11_harm_11 ?_
      refine lv_iload_n hx hb dX11_harm_14 rfl (lv_at hl 1 rfl) ?_
      refine lv_iload_n hx hb dX11_harm_15 rfl (lv_at hl 2 rfl) ?_
      obtain ⟨z_, g10, L11, hf12, h⟩ := cb_some h
      refine x_callNi (rest := []) li_X11_359 C (rX10_harmDone_9 l G H.size b a fu g6 L7 p1 p2 z_ (g10, L11) hf12) (kR rfl) hP hD hS 9 10 rfl (zat (by decide) xs_9) rfl hl.1 rfl (Nat.le_of_ble_eq_true rfl) dX11_harm_16 (fun x9 u_ H locs e_ hP hD hS => ?_)
      have e_ : x9 = z_ := e_
      subst e_
      have hP : va_P G.1 vwCl (zw G (XS b) 105 a g10 L11) H := hP
      have hD : va_D A (zw G (XS b) 105 a g10 L11) := hD
      exact y_xiret C hr hlk hP hD hS h (Nat.le_of_ble_eq_true rfl) (Nat.le_of_ble_eq_true rfl) dX11_harm_19
def fX11_pair_0 (fu : Nat) (p1 : Int32) (g : Nat → Nat → Int32) (L : Nat → Nat → Int64) : Option ((Except String Int32) × zS) :=
  cbx (fX11_needWhat fu p1 2 g L) (fun x1 g2 L3 =>
  cb (fX10_withoutTwo_9 fu p1 g2 L3) (fun x5 g6 L7 =>
  some (.ok x5, (g6, L7))))
set_option maxHeartbeats 4000000 in
set_option maxRecDepth 100000 in
theorem rX11_pair_0 (l : Launch) (hst : l.stackTraces = false) (G : kG) (sz : Nat) (b : Nat) (a : Nat → Nat) (fu : Nat) (g : Nat → Nat → Int32) (L : Nat → Nat → Int64) (p1 : Int32) (res : Except String Int32) (s9 : zS) (h : fX11_pair_0 fu p1 g L = some (res, s9)) : kMX l yX11_pair cX11_pair 2 (some .int) { frames := 13, cells := 1, slots := 6, locals := 273 } G [.ref (a 0), .int p1] (zw G (XS b) 105 a g L) sz (kQi G (S := Unit) (fun r' _ => res = .ok r') (fun _ => zw G (XS b) 105 a s9.1 s9.2)) (kXC G (S := Unit) (fun E _ => res = .error E) (fun _ => zw G (XS b) 105 a s9.1 s9.2)) := by
  refine kMX.of (by decide) (Nat.le_of_ble_eq_true rfl) ?_
  intro p e s m below meth c A ls H C hr hlk hno hP hD hS hl
  have C : kC G p s m c cX11_pair 2 RX11 A := C
  have hx := C.1
  have hb := C.2.1
  have hl : lv_has ls 2 [(0, .ref (a 0)), (1, .int p1)] := hl
  obtain ⟨locs, hlocs⟩ : ∃ q : List Loc, q = [] := ⟨_, rfl⟩
  rw [← hlocs] at hS
  rw [← hlocs]
  unfold fX11_pair_0 at h
  refine lv_iload_n hx hb dX11_pair_0 rfl (lv_at hl 1 rfl) ?_
  refine lv_iconst (v := 2) hx hb dX11_pair_1 (by decide) ?_
  obtain ⟨z_, g2, L3, hf4, h⟩ := cbx_some h
  refine x_xcallSv (rest := []) li_X11_121 C (rX11_needWhat l hst G H.size b a fu g L p1 2 z_ (g2, L3) hf4) (kR rfl) hP hD hS rfl hl.1 rfl (Nat.le_of_ble_eq_true rfl) dX11_pair_2 (fun E ce q9 u_ H locs e_ hP hD hS hc1 hc2 hc3 => ?_) (fun u_ H locs e_ hP hD hS => ?_)
  ·
    obtain ⟨e1_, e2_⟩ := cbx_err h e_
    exact x_xout hno hlk hP hD hS hc1 hc2 hc3 () (by rw [e2_]) e1_ (Nat.le_of_ble_eq_true rfl) (Nat.le_of_ble_eq_true rfl)
  ·
    have h := cbx_ok h e_
    have hP : va_P G.1 vwCl (zw G (XS b) 105 a g2 L3) H := hP
    have hD : va_D A (zw G (XS b) 105 a g2 L3) := hD
    refine lv_aload_n hx hb dX11_pair_5 rfl (lv_at hl 0 rfl) ?_
    refine x_getr (Or.inl fl_X11_62) C hP (by decide) xs_0 rfl dX11_pair_6 ?_
    refine lv_iload_n hx hb dX11_pair_9 rfl (lv_at hl 1 rfl) ?_
    obtain ⟨z_, g6, L7, hf8, h⟩ := cb_some h
    refine x_callNi (rest := []) li_X11_362 C (rX10_withoutTwo_9 l G H.size b a fu g2 L3 p1 z_ (g6, L7) hf8) (kR rfl) hP hD hS 9 10 rfl (zat (by decide) xs_9) rfl hl.1 rfl (Nat.le_of_ble_eq_true rfl) dX11_pair_10 (fun x5 u_ H locs e_ hP hD hS => ?_)
    have e_ : x5 = z_ := e_
    subst e_
    have hP : va_P G.1 vwCl (zw G (XS b) 105 a g6 L7) H := hP
    have hD : va_D A (zw G (XS b) 105 a g6 L7) := hD
    exact y_xiret C hr hlk hP hD hS h (Nat.le_of_ble_eq_true rfl) (Nat.le_of_ble_eq_true rfl) dX11_pair_13
def fX11_pause_0 (fu : Nat) (p1 : Int32) (p2 : Int32) (g : Nat → Nat → Int32) (L : Nat → Nat → Int64) : Option ((Except String Int32) × zS) :=
  cbx (fX11_needWhat fu p2 2 g L) (fun x1 g2 L3 =>
  cbx (fX11_needWithin fu p1 1 30 g2 L3) (fun x5 g6 L7 =>
  cb (fX10_leastByPause_9 fu p1 p2 g6 L7) (fun x9 g10 L11 =>
  some (.ok x9, (g10, L11)))))
set_option maxHeartbeats 4000000 in
set_option maxRecDepth 100000 in
theorem rX11_pause_0 (l : Launch) (hst : l.stackTraces = false) (G : kG) (sz : Nat) (b : Nat) (a : Nat → Nat) (fu : Nat) (g : Nat → Nat → Int32) (L : Nat → Nat → Int64) (p1 : Int32) (p2 : Int32) (res : Except String Int32) (s9 : zS) (h : fX11_pause_0 fu p1 p2 g L = some (res, s9)) : kMX l yX11_pause cX11_pause 3 (some .int) { frames := 12, cells := 2, slots := 12, locals := 249 } G [.ref (a 0), .int p1, .int p2] (zw G (XS b) 105 a g L) sz (kQi G (S := Unit) (fun r' _ => res = .ok r') (fun _ => zw G (XS b) 105 a s9.1 s9.2)) (kXC G (S := Unit) (fun E _ => res = .error E) (fun _ => zw G (XS b) 105 a s9.1 s9.2)) := by
  refine kMX.of (by decide) (Nat.le_of_ble_eq_true rfl) ?_
  intro p e s m below meth c A ls H C hr hlk hno hP hD hS hl
  have C : kC G p s m c cX11_pause 3 RX11 A := C
  have hx := C.1
  have hb := C.2.1
  have hl : lv_has ls 3 [(0, .ref (a 0)), (1, .int p1), (2, .int p2)] := hl
  obtain ⟨locs, hlocs⟩ : ∃ q : List Loc, q = [] := ⟨_, rfl⟩
  rw [← hlocs] at hS
  rw [← hlocs]
  unfold fX11_pause_0 at h
  refine lv_iload_n hx hb dX11_pause_0 rfl (lv_at hl 2 rfl) ?_
  refine lv_iconst (v := 2) hx hb dX11_pause_1 (by decide) ?_
  obtain ⟨z_, g2, L3, hf4, h⟩ := cbx_some h
  refine x_xcallSv (rest := []) li_X11_121 C (rX11_needWhat l hst G H.size b a fu g L p2 2 z_ (g2, L3) hf4) (kR rfl) hP hD hS rfl hl.1 rfl (Nat.le_of_ble_eq_true rfl) dX11_pause_2 (fun E ce q9 u_ H locs e_ hP hD hS hc1 hc2 hc3 => ?_) (fun u_ H locs e_ hP hD hS => ?_)
  ·
    obtain ⟨e1_, e2_⟩ := cbx_err h e_
    exact x_xout hno hlk hP hD hS hc1 hc2 hc3 () (by rw [e2_]) e1_ (Nat.le_of_ble_eq_true rfl) (Nat.le_of_ble_eq_true rfl)
  ·
    have h := cbx_ok h e_
    have hP : va_P G.1 vwCl (zw G (XS b) 105 a g2 L3) H := hP
    have hD : va_D A (zw G (XS b) 105 a g2 L3) := hD
    refine lv_iload_n hx hb dX11_pause_5 rfl (lv_at hl 1 rfl) ?_
    refine lv_iconst (v := 1) hx hb dX11_pause_6 (by decide) ?_
    refine lv_bipush (v := 30) hx hb dX11_pause_7 (by decide) ?_
    obtain ⟨z_, g6, L7, hf8, h⟩ := cbx_some h
    refine x_xcallSv (rest := []) li_X11_243 C (rX11_needWithin l hst G H.size b a fu g2 L3 p1 1 30 z_ (g6, L7) hf8) (kR rfl) hP hD hS rfl hl.1 rfl (Nat.le_of_ble_eq_true rfl) dX11_pause_9 (fun E ce q9 u_ H locs e_ hP hD hS hc1 hc2 hc3 => ?_) (fun u_ H locs e_ hP hD hS => ?_)
    ·
      obtain ⟨e1_, e2_⟩ := cbx_err h e_
      exact x_xout hno hlk hP hD hS hc1 hc2 hc3 () (by rw [e2_]) e1_ (Nat.le_of_ble_eq_true rfl) (Nat.le_of_ble_eq_true rfl)
    ·
      have h := cbx_ok h e_
      have hP : va_P G.1 vwCl (zw G (XS b) 105 a g6 L7) H := hP
      have hD : va_D A (zw G (XS b) 105 a g6 L7) := hD
      refine lv_aload_n hx hb dX11_pause_12 rfl (lv_at hl 0 rfl) ?_
      refine x_getr (Or.inl fl_X11_62) C hP (by decide) xs_0 rfl dX11_pause_13 ?_
      refine lv_iload_n hx hb dX11_pause_16 rfl (lv_at hl 1 rfl) ?_
      refine lv_iload_n hx hb dX11_pause_17 rfl (lv_at hl 2 rfl) ?_
      obtain ⟨z_, g10, L11, hf12, h⟩ := cb_some h
      refine x_callNi (rest := []) li_X11_365 C (rX10_leastByPause_9 l G H.size b a fu g6 L7 p1 p2 z_ (g10, L11) hf12) (kR rfl) hP hD hS 9 10 rfl (zat (by decide) xs_9) rfl hl.1 rfl (Nat.le_of_ble_eq_true rfl) dX11_pause_18 (fun x9 u_ H locs e_ hP hD hS => ?_)
      have e_ : x9 = z_ := e_
      subst e_
      have hP : va_P G.1 vwCl (zw G (XS b) 105 a g10 L11) H := hP
      have hD : va_D A (zw G (XS b) 105 a g10 L11) := hD
      exact y_xiret C hr hlk hP hD hS h (Nat.le_of_ble_eq_true rfl) (Nat.le_of_ble_eq_true rfl) dX11_pause_21
def fX11_image_0 (fu : Nat) (g : Nat → Nat → Int32) (L : Nat → Nat → Int64) : Option ((Unit) × zS) :=
  cb (fX3_copy_7_6 fu g L) (fun x1 g2 L3 =>
  sti g2 0 15 1 (fun g5 =>
  some ((), (g5, L3))))
set_option maxHeartbeats 4000000 in
set_option maxRecDepth 100000 in
theorem rX11_image_0 (l : Launch) (G : kG) (sz : Nat) (b : Nat) (a : Nat → Nat) (fu : Nat) (g : Nat → Nat → Int32) (L : Nat → Nat → Int64) (res : Unit) (s9 : zS) (h : fX11_image_0 fu g L = some (res, s9)) : kM l yX11_image cX11_image 1 none { frames := 7, cells := 0, slots := 0, locals := 131 } G [.ref (a 0)] (zw G (XS b) 105 a g L) sz (kQv G (S := Unit) (fun _ => True) (fun _ => zw G (XS b) 105 a s9.1 s9.2)) := by
  refine kM.of (by decide) (Nat.le_of_ble_eq_true rfl) ?_
  intro p e s m below meth c A ls H C hr hlk hnm hP hD hS hl
  have C : kC G p s m c cX11_image 1 RX11 A := C
  have hx := C.1
  have hb := C.2.1
  have hl : lv_has ls 1 [(0, .ref (a 0))] := hl
  obtain ⟨locs, hlocs⟩ : ∃ q : List Loc, q = [] := ⟨_, rfl⟩
  rw [← hlocs] at hS
  rw [← hlocs]
  unfold fX11_image_0 at h
  refine lv_aload_n hx hb dX11_image_0 rfl (lv_at hl 0 rfl) ?_
  refine x_getr (Or.inl fl_X11_45) C hP (by decide) xs_0 rfl dX11_image_1 ?_
  refine lv_aload_n hx hb dX11_image_4 rfl (lv_at hl 0 rfl) ?_
  refine x_getr (Or.inl fl_X11_41) C hP (by decide) xs_0 rfl dX11_image_5 ?_
  obtain ⟨z_, g2, L3, hf4, h⟩ := cb_some h
  refine x_callNv (rest := []) li_X11_368 C (rX3_copy_7_6 l G H.size b a fu g L z_ (g2, L3) hf4) (kR rfl) hP hD hS 7 3 rfl (zat (by decide) xs_7) rfl hl.1 rfl (Nat.le_of_ble_eq_true rfl) dX11_image_8 (fun u_ H locs e_ hP hD hS => ?_)
  have hP : va_P G.1 vwCl (zw G (XS b) 105 a g2 L3) H := hP
  have hD : va_D A (zw G (XS b) 105 a g2 L3) := hD
  refine lv_aload_n hx hb dX11_image_11 rfl (lv_at hl 0 rfl) ?_
  refine lv_iconst (v := 1) hx hb dX11_image_12 (by decide) ?_
  refine y_puti (Or.inl fl_X11_94) ft_X11_15 C hP hD hS (by decide) xs_0 rfl rfl rfl dX11_image_13 h (fun g5 H locs h hP hD hS => ?_)
  exact y_vret C hr hlk hP hD hS h (Nat.le_of_ble_eq_true rfl) (Nat.le_of_ble_eq_true rfl) dX11_image_16
def fX11_restore_0 (fu : Nat) (g : Nat → Nat → Int32) (L : Nat → Nat → Int64) : Option ((Int32) × zS) :=
  if (g 0 15) = 0 then ckb 0 (some (0, (g, L)))
  else cb (fX3_copy_6_7 fu g L) (fun x2 g3 L4 =>
  ckb 1 (some (1, (g3, L4))))
set_option maxHeartbeats 4000000 in
set_option maxRecDepth 100000 in
theorem rX11_restore_0 (l : Launch) (G : kG) (sz : Nat) (b : Nat) (a : Nat → Nat) (fu : Nat) (g : Nat → Nat → Int32) (L : Nat → Nat → Int64) (res : Int32) (s9 : zS) (h : fX11_restore_0 fu g L = some (res, s9)) : kM l yX11_restore cX11_restore 1 (some .boolean) { frames := 7, cells := 0, slots := 0, locals := 131 } G [.ref (a 0)] (zw G (XS b) 105 a g L) sz (kQi G (S := Unit) (fun r' _ => r' = res) (fun _ => zw G (XS b) 105 a s9.1 s9.2)) := by
  refine kM.of (by decide) (Nat.le_of_ble_eq_true rfl) ?_
  intro p e s m below meth c A ls H C hr hlk hnm hP hD hS hl
  have C : kC G p s m c cX11_restore 1 RX11 A := C
  have hx := C.1
  have hb := C.2.1
  have hl : lv_has ls 1 [(0, .ref (a 0))] := hl
  obtain ⟨locs, hlocs⟩ : ∃ q : List Loc, q = [] := ⟨_, rfl⟩
  rw [← hlocs] at hS
  rw [← hlocs]
  unfold fX11_restore_0 at h
  refine lv_aload_n hx hb dX11_restore_0 rfl (lv_at hl 0 rfl) ?_
  refine x_getv (v := .int (g 0 15)) (Or.inl fl_X11_94) C hP (by decide) xs_0 rfl dX11_restore_1 ?_
  refine lv_if_ne (x := (g 0 15)) (tgt := 9) hx hb dX11_restore_4 (by decide) (fun c1 => ?_) (fun c1 => ?_)
  ·
    have h := ite_e c1 h
    refine lv_aload_n hx hb dX11_restore_9 rfl (lv_at hl 0 rfl) ?_
    refine x_getr (Or.inl fl_X11_41) C hP (by decide) xs_0 rfl dX11_restore_10 ?_
    refine lv_aload_n hx hb dX11_restore_13 rfl (lv_at hl 0 rfl) ?_
    refine x_getr (Or.inl fl_X11_45) C hP (by decide) xs_0 rfl dX11_restore_14 ?_
    obtain ⟨z_, g3, L4, hf5, h⟩ := cb_some h
    refine x_callNv (rest := []) li_X11_368 C (rX3_copy_6_7 l G H.size b a fu g L z_ (g3, L4) hf5) (kR rfl) hP hD hS 6 3 rfl (zat (by decide) xs_6) rfl hl.1 rfl (Nat.le_of_ble_eq_true rfl) dX11_restore_17 (fun u_ H locs e_ hP hD hS => ?_)
    have hP : va_P G.1 vwCl (zw G (XS b) 105 a g3 L4) H := hP
    have hD : va_D A (zw G (XS b) 105 a g3 L4) := hD
    refine lv_iconst (v := 1) hx hb dX11_restore_20 (by decide) ?_
    exact y_zret C hr hlk hP hD hS h (Nat.le_of_ble_eq_true rfl) (Nat.le_of_ble_eq_true rfl) dX11_restore_21
  ·
    have h := ite_t c1 h
    refine lv_iconst (v := 0) hx hb dX11_restore_7 (by decide) ?_
    exact y_zret C hr hlk hP hD hS h (Nat.le_of_ble_eq_true rfl) (Nat.le_of_ble_eq_true rfl) dX11_restore_8
