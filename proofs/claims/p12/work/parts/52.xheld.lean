theorem tw_258 : (Jvm.Cond.fieldLink "MarshBells$Held" (39 : Nat) "MarshBells$Held" "acts" "I") ∈ lw_tbl := tk_2 (List.mem_of_getElem? (i := 18) rfl)
theorem fl_X3_39 : kFL RX3 39 3 12 9 := ⟨RX3, TX3, rfl, by decide, inWX3, tw_258⟩
theorem tw_251 : (Jvm.Cond.fieldLink "MarshBells$Held" (24 : Nat) "MarshBells$Held" "actKinds" "[I") ∈ lw_tbl := tk_2 (List.mem_of_getElem? (i := 11) rfl)
theorem fl_X3_24 : kFL RX3 24 3 12 4 := ⟨RX3, TX3, rfl, by decide, inWX3, tw_251⟩
theorem tw_252 : (Jvm.Cond.fieldLink "MarshBells$Held" (27 : Nat) "MarshBells$Held" "actLessons" "[I") ∈ lw_tbl := tk_2 (List.mem_of_getElem? (i := 12) rfl)
theorem fl_X3_27 : kFL RX3 27 3 12 5 := ⟨RX3, TX3, rfl, by decide, inWX3, tw_252⟩
theorem tw_253 : (Jvm.Cond.fieldLink "MarshBells$Held" (30 : Nat) "MarshBells$Held" "actOlds" "[I") ∈ lw_tbl := tk_2 (List.mem_of_getElem? (i := 13) rfl)
theorem fl_X3_30 : kFL RX3 30 3 12 6 := ⟨RX3, TX3, rfl, by decide, inWX3, tw_253⟩
theorem dX3_dropFirstAct_0 : decode cX3_dropFirstAct 0 = .ok (.aload_n 0, 1) := by decide +kernel
theorem dX3_dropFirstAct_1 : decode cX3_dropFirstAct 1 = .ok (.getfield 24, 3) := by decide +kernel
theorem dX3_dropFirstAct_4 : decode cX3_dropFirstAct 4 = .ok (.iconst 1, 1) := by decide +kernel
theorem dX3_dropFirstAct_5 : decode cX3_dropFirstAct 5 = .ok (.aload_n 0, 1) := by decide +kernel
theorem dX3_dropFirstAct_6 : decode cX3_dropFirstAct 6 = .ok (.getfield 24, 3) := by decide +kernel
theorem dX3_dropFirstAct_9 : decode cX3_dropFirstAct 9 = .ok (.iconst 0, 1) := by decide +kernel
theorem dX3_dropFirstAct_10 : decode cX3_dropFirstAct 10 = .ok (.bipush 39, 2) := by decide +kernel
theorem tw_565 : (Jvm.Cond.methodLink "MarshBells$Held" (72 : Nat) ({ cls := "java/lang/System", name := "arraycopy", desc := "(Ljava/lang/Object;ILjava/lang/Object;II)V" } : Jvm.MethodName)) ∈ lw_tbl := tk_3 (List.mem_of_getElem? (i := 85) rfl)
theorem tw_567 : (Jvm.Cond.native ({ cls := "java/lang/System", name := "arraycopy", desc := "(Ljava/lang/Object;ILjava/lang/Object;II)V" } : Jvm.MethodName)) ∈ lw_tbl := tk_3 (List.mem_of_getElem? (i := 87) rfl)
theorem tw_566 : (Jvm.Cond.static ({ cls := "java/lang/System", name := "arraycopy", desc := "(Ljava/lang/Object;ILjava/lang/Object;II)V" } : Jvm.MethodName)) ∈ lw_tbl := tk_3 (List.mem_of_getElem? (i := 86) rfl)
theorem tw_24 : (Jvm.Cond.initialized "java/lang/System") ∈ lw_tbl := tk_1 (List.mem_of_getElem? (i := 24) rfl)
theorem lc_X3_72 : kLC RX3 72 := ⟨tw_565, tw_567, tw_566, tw_24⟩
theorem dX3_dropFirstAct_12 : decode cX3_dropFirstAct 12 = .ok (.invokestatic 72, 3) := by decide +kernel
theorem dX3_dropFirstAct_15 : decode cX3_dropFirstAct 15 = .ok (.aload_n 0, 1) := by decide +kernel
theorem dX3_dropFirstAct_16 : decode cX3_dropFirstAct 16 = .ok (.getfield 27, 3) := by decide +kernel
theorem dX3_dropFirstAct_19 : decode cX3_dropFirstAct 19 = .ok (.iconst 1, 1) := by decide +kernel
theorem dX3_dropFirstAct_20 : decode cX3_dropFirstAct 20 = .ok (.aload_n 0, 1) := by decide +kernel
theorem dX3_dropFirstAct_21 : decode cX3_dropFirstAct 21 = .ok (.getfield 27, 3) := by decide +kernel
theorem dX3_dropFirstAct_24 : decode cX3_dropFirstAct 24 = .ok (.iconst 0, 1) := by decide +kernel
theorem dX3_dropFirstAct_25 : decode cX3_dropFirstAct 25 = .ok (.bipush 39, 2) := by decide +kernel
theorem dX3_dropFirstAct_27 : decode cX3_dropFirstAct 27 = .ok (.invokestatic 72, 3) := by decide +kernel
theorem dX3_dropFirstAct_30 : decode cX3_dropFirstAct 30 = .ok (.aload_n 0, 1) := by decide +kernel
theorem dX3_dropFirstAct_31 : decode cX3_dropFirstAct 31 = .ok (.getfield 30, 3) := by decide +kernel
theorem dX3_dropFirstAct_34 : decode cX3_dropFirstAct 34 = .ok (.iconst 1, 1) := by decide +kernel
theorem dX3_dropFirstAct_35 : decode cX3_dropFirstAct 35 = .ok (.aload_n 0, 1) := by decide +kernel
theorem dX3_dropFirstAct_36 : decode cX3_dropFirstAct 36 = .ok (.getfield 30, 3) := by decide +kernel
theorem dX3_dropFirstAct_39 : decode cX3_dropFirstAct 39 = .ok (.iconst 0, 1) := by decide +kernel
theorem dX3_dropFirstAct_40 : decode cX3_dropFirstAct 40 = .ok (.bipush 39, 2) := by decide +kernel
theorem dX3_dropFirstAct_42 : decode cX3_dropFirstAct 42 = .ok (.invokestatic 72, 3) := by decide +kernel
theorem dX3_dropFirstAct_45 : decode cX3_dropFirstAct 45 = .ok (.aload_n 0, 1) := by decide +kernel
theorem dX3_dropFirstAct_46 : decode cX3_dropFirstAct 46 = .ok (.bipush 39, 2) := by decide +kernel
theorem ft_X3_9 : kFT 3 9 .int false RX3 := ⟨RX3, TX3, 12, tyX3, rfl, tyX3_ok, nmX3, rfl, by decide +kernel, rfl⟩
theorem dX3_dropFirstAct_48 : decode cX3_dropFirstAct 48 = .ok (.putfield 39, 3) := by decide +kernel
theorem dX3_dropFirstAct_51 : decode cX3_dropFirstAct 51 = .ok (.return_, 1) := by decide +kernel
theorem dX3_keepAct_0 : decode cX3_keepAct 0 = .ok (.aload_n 0, 1) := by decide +kernel
theorem dX3_keepAct_1 : decode cX3_keepAct 1 = .ok (.getfield 39, 3) := by decide +kernel
theorem dX3_keepAct_4 : decode cX3_keepAct 4 = .ok (.bipush 40, 2) := by decide +kernel
theorem dX3_keepAct_13 : decode cX3_keepAct 13 = .ok (.aload_n 0, 1) := by decide +kernel
theorem dX3_keepAct_14 : decode cX3_keepAct 14 = .ok (.getfield 24, 3) := by decide +kernel
theorem dX3_keepAct_17 : decode cX3_keepAct 17 = .ok (.aload_n 0, 1) := by decide +kernel
theorem dX3_keepAct_18 : decode cX3_keepAct 18 = .ok (.getfield 39, 3) := by decide +kernel
theorem dX3_keepAct_21 : decode cX3_keepAct 21 = .ok (.iload_n 1, 1) := by decide +kernel
theorem dX3_keepAct_22 : decode cX3_keepAct 22 = .ok (.iastore, 1) := by decide +kernel
theorem dX3_keepAct_23 : decode cX3_keepAct 23 = .ok (.aload_n 0, 1) := by decide +kernel
theorem dX3_keepAct_24 : decode cX3_keepAct 24 = .ok (.getfield 27, 3) := by decide +kernel
theorem dX3_keepAct_27 : decode cX3_keepAct 27 = .ok (.aload_n 0, 1) := by decide +kernel
theorem dX3_keepAct_28 : decode cX3_keepAct 28 = .ok (.getfield 39, 3) := by decide +kernel
theorem dX3_keepAct_31 : decode cX3_keepAct 31 = .ok (.iload_n 2, 1) := by decide +kernel
theorem dX3_keepAct_32 : decode cX3_keepAct 32 = .ok (.iastore, 1) := by decide +kernel
theorem dX3_keepAct_33 : decode cX3_keepAct 33 = .ok (.aload_n 0, 1) := by decide +kernel
theorem dX3_keepAct_34 : decode cX3_keepAct 34 = .ok (.getfield 30, 3) := by decide +kernel
theorem dX3_keepAct_37 : decode cX3_keepAct 37 = .ok (.aload_n 0, 1) := by decide +kernel
theorem dX3_keepAct_38 : decode cX3_keepAct 38 = .ok (.getfield 39, 3) := by decide +kernel
theorem dX3_keepAct_41 : decode cX3_keepAct 41 = .ok (.iload_n 3, 1) := by decide +kernel
theorem dX3_keepAct_42 : decode cX3_keepAct 42 = .ok (.iastore, 1) := by decide +kernel
theorem dX3_keepAct_43 : decode cX3_keepAct 43 = .ok (.aload_n 0, 1) := by decide +kernel
theorem dX3_keepAct_44 : decode cX3_keepAct 44 = .ok (.dup, 1) := by decide +kernel
theorem dX3_keepAct_45 : decode cX3_keepAct 45 = .ok (.getfield 39, 3) := by decide +kernel
theorem dX3_keepAct_48 : decode cX3_keepAct 48 = .ok (.iconst 1, 1) := by decide +kernel
theorem dX3_keepAct_49 : decode cX3_keepAct 49 = .ok (.iadd, 1) := by decide +kernel
theorem dX3_keepAct_50 : decode cX3_keepAct 50 = .ok (.putfield 39, 3) := by decide +kernel
theorem dX3_keepAct_53 : decode cX3_keepAct 53 = .ok (.return_, 1) := by decide +kernel
theorem dX3_keepAct_6 : decode cX3_keepAct 6 = .ok (.if_icmp .lt 7, 3) := by decide +kernel
theorem dX3_keepAct_9 : decode cX3_keepAct 9 = .ok (.aload_n 0, 1) := by decide +kernel
theorem tw_561 : (Jvm.Cond.methodLink "MarshBells$Held" (82 : Nat) ({ cls := "MarshBells$Held", name := "dropFirstAct", desc := "()V" } : Jvm.MethodName)) ∈ lw_tbl := tk_3 (List.mem_of_getElem? (i := 81) rfl)
theorem tw_6 : (Jvm.Cond.initialized "MarshBells$Held") ∈ lw_tbl := tk_1 (List.mem_of_getElem? (i := 6) rfl)
theorem tw_564 : (Jvm.Cond.code ({ cls := "MarshBells$Held", name := "dropFirstAct", desc := "()V" } : Jvm.MethodName) prog_5_method_8_code (1 : Nat) (Option.none : Option Jvm.ClassFile.FieldType)) ∈ lw_tbl := tk_3 (List.mem_of_getElem? (i := 84) rfl)
theorem tw_563 : (Jvm.Cond.instanceMethod ({ cls := "MarshBells$Held", name := "dropFirstAct", desc := "()V" } : Jvm.MethodName)) ∈ lw_tbl := tk_3 (List.mem_of_getElem? (i := 83) rfl)
theorem se_X3_dropFirstAct : Cond.selects RX3 yX3_dropFirstAct yX3_dropFirstAct ∈ lw_tbl := List.mem_append_left _ (List.mem_of_getElem? (i := 3) rfl)
theorem li_X3_82 : kLV RX3 82 RX3 yX3_dropFirstAct cX3_dropFirstAct 1 none 0 := ⟨tw_561, tw_563, se_X3_dropFirstAct, tw_564, tw_6, by decide +kernel⟩
theorem dX3_keepAct_10 : decode cX3_keepAct 10 = .ok (.invokevirtual 82, 3) := by decide +kernel
theorem tw_236 : (Jvm.Cond.fieldLink "MarshBells$Held" (9 : Nat) "MarshBells$Held" "overs" "[I") ∈ lw_tbl := tk_1 (List.mem_of_getElem? (i := 236) rfl)
theorem fl_X3_9 : kFL RX3 9 3 12 0 := ⟨RX3, TX3, rfl, by decide, inWX3, tw_236⟩
theorem tw_240 : (Jvm.Cond.fieldLink "MarshBells$Held" (15 : Nat) "MarshBells$Held" "gaps" "[I") ∈ lw_tbl := tk_2 (List.mem_of_getElem? (i := 0) rfl)
theorem fl_X3_15 : kFL RX3 15 3 12 1 := ⟨RX3, TX3, rfl, by decide, inWX3, tw_240⟩
theorem tw_245 : (Jvm.Cond.fieldLink "MarshBells$Held" (18 : Nat) "MarshBells$Held" "rooms" "[I") ∈ lw_tbl := tk_2 (List.mem_of_getElem? (i := 5) rfl)
theorem fl_X3_18 : kFL RX3 18 3 12 2 := ⟨RX3, TX3, rfl, by decide, inWX3, tw_245⟩
theorem tw_248 : (Jvm.Cond.fieldLink "MarshBells$Held" (21 : Nat) "MarshBells$Held" "limits" "[I") ∈ lw_tbl := tk_2 (List.mem_of_getElem? (i := 8) rfl)
theorem fl_X3_21 : kFL RX3 21 3 12 3 := ⟨RX3, TX3, rfl, by decide, inWX3, tw_248⟩
theorem dX3_row_0 : decode cX3_row 0 = .ok (.iload_n 1, 1) := by decide +kernel
theorem dX3_row_1 : decode cX3_row 1 = .ok (.tableswitch 42 0 2 #[27, 32, 37], 27) := by decide +kernel
theorem dX3_row_28 : decode cX3_row 28 = .ok (.aload_n 0, 1) := by decide +kernel
theorem dX3_row_29 : decode cX3_row 29 = .ok (.getfield 9, 3) := by decide +kernel
theorem dX3_row_32 : decode cX3_row 32 = .ok (.areturn, 1) := by decide +kernel
theorem dX3_row_33 : decode cX3_row 33 = .ok (.aload_n 0, 1) := by decide +kernel
theorem dX3_row_34 : decode cX3_row 34 = .ok (.getfield 15, 3) := by decide +kernel
theorem dX3_row_37 : decode cX3_row 37 = .ok (.areturn, 1) := by decide +kernel
theorem dX3_row_38 : decode cX3_row 38 = .ok (.aload_n 0, 1) := by decide +kernel
theorem dX3_row_39 : decode cX3_row 39 = .ok (.getfield 18, 3) := by decide +kernel
theorem dX3_row_42 : decode cX3_row 42 = .ok (.areturn, 1) := by decide +kernel
theorem dX3_row_43 : decode cX3_row 43 = .ok (.aload_n 0, 1) := by decide +kernel
theorem dX3_row_44 : decode cX3_row 44 = .ok (.getfield 21, 3) := by decide +kernel
theorem dX3_row_47 : decode cX3_row 47 = .ok (.areturn, 1) := by decide +kernel
theorem dX3_put_0 : decode cX3_put 0 = .ok (.aload_n 0, 1) := by decide +kernel
theorem dX3_put_1 : decode cX3_put 1 = .ok (.iload_n 1, 1) := by decide +kernel
theorem tw_580 : (Jvm.Cond.methodLink "MarshBells$Held" (78 : Nat) ({ cls := "MarshBells$Held", name := "row", desc := "(I)[I" } : Jvm.MethodName)) ∈ lw_tbl := tk_3 (List.mem_of_getElem? (i := 100) rfl)
theorem tw_583 : (Jvm.Cond.code ({ cls := "MarshBells$Held", name := "row", desc := "(I)[I" } : Jvm.MethodName) prog_5_method_4_code (2 : Nat) (Option.some (Jvm.ClassFile.FieldType.array Jvm.ClassFile.FieldType.int))) ∈ lw_tbl := tk_3 (List.mem_of_getElem? (i := 103) rfl)
theorem tw_582 : (Jvm.Cond.instanceMethod ({ cls := "MarshBells$Held", name := "row", desc := "(I)[I" } : Jvm.MethodName)) ∈ lw_tbl := tk_3 (List.mem_of_getElem? (i := 102) rfl)
theorem se_X3_row : Cond.selects RX3 yX3_row yX3_row ∈ lw_tbl := List.mem_append_left _ (List.mem_of_getElem? (i := 6) rfl)
theorem li_X3_78 : kLV RX3 78 RX3 yX3_row cX3_row 2 (some (.array .int)) 1 := ⟨tw_580, tw_582, se_X3_row, tw_583, tw_6, by decide +kernel⟩
theorem dX3_put_2 : decode cX3_put 2 = .ok (.invokevirtual 78, 3) := by decide +kernel
theorem dX3_put_5 : decode cX3_put 5 = .ok (.iload_n 2, 1) := by decide +kernel
theorem dX3_put_6 : decode cX3_put 6 = .ok (.iload_n 3, 1) := by decide +kernel
theorem dX3_put_7 : decode cX3_put 7 = .ok (.iastore, 1) := by decide +kernel
theorem dX3_put_8 : decode cX3_put 8 = .ok (.return_, 1) := by decide +kernel
theorem dX3_takeBackAct_0 : decode cX3_takeBackAct 0 = .ok (.aload_n 0, 1) := by decide +kernel
theorem dX3_takeBackAct_1 : decode cX3_takeBackAct 1 = .ok (.getfield 39, 3) := by decide +kernel
theorem dX3_takeBackAct_4 : decode cX3_takeBackAct 4 = .ok (.iconst 1, 1) := by decide +kernel
theorem dX3_takeBackAct_5 : decode cX3_takeBackAct 5 = .ok (.if_icmp .ge 5, 3) := by decide +kernel
theorem dX3_takeBackAct_10 : decode cX3_takeBackAct 10 = .ok (.aload_n 0, 1) := by decide +kernel
theorem dX3_takeBackAct_11 : decode cX3_takeBackAct 11 = .ok (.dup, 1) := by decide +kernel
theorem dX3_takeBackAct_12 : decode cX3_takeBackAct 12 = .ok (.getfield 39, 3) := by decide +kernel
theorem dX3_takeBackAct_15 : decode cX3_takeBackAct 15 = .ok (.iconst 1, 1) := by decide +kernel
theorem dX3_takeBackAct_16 : decode cX3_takeBackAct 16 = .ok (.isub, 1) := by decide +kernel
theorem dX3_takeBackAct_17 : decode cX3_takeBackAct 17 = .ok (.putfield 39, 3) := by decide +kernel
theorem dX3_takeBackAct_20 : decode cX3_takeBackAct 20 = .ok (.aload_n 0, 1) := by decide +kernel
theorem dX3_takeBackAct_21 : decode cX3_takeBackAct 21 = .ok (.getfield 24, 3) := by decide +kernel
theorem dX3_takeBackAct_24 : decode cX3_takeBackAct 24 = .ok (.aload_n 0, 1) := by decide +kernel
theorem dX3_takeBackAct_25 : decode cX3_takeBackAct 25 = .ok (.getfield 39, 3) := by decide +kernel
theorem dX3_takeBackAct_28 : decode cX3_takeBackAct 28 = .ok (.iaload, 1) := by decide +kernel
theorem dX3_takeBackAct_29 : decode cX3_takeBackAct 29 = .ok (.iconst 4, 1) := by decide +kernel
theorem dX3_takeBackAct_80 : decode cX3_takeBackAct 80 = .ok (.aload_n 0, 1) := by decide +kernel
theorem dX3_takeBackAct_81 : decode cX3_takeBackAct 81 = .ok (.getfield 39, 3) := by decide +kernel
theorem dX3_takeBackAct_84 : decode cX3_takeBackAct 84 = .ok (.ireturn, 1) := by decide +kernel
theorem dX3_takeBackAct_30 : decode cX3_takeBackAct 30 = .ok (.if_icmp .ne 19, 3) := by decide +kernel
theorem dX3_takeBackAct_49 : decode cX3_takeBackAct 49 = .ok (.aload_n 0, 1) := by decide +kernel
theorem dX3_takeBackAct_50 : decode cX3_takeBackAct 50 = .ok (.aload_n 0, 1) := by decide +kernel
theorem dX3_takeBackAct_51 : decode cX3_takeBackAct 51 = .ok (.getfield 24, 3) := by decide +kernel
theorem dX3_takeBackAct_54 : decode cX3_takeBackAct 54 = .ok (.aload_n 0, 1) := by decide +kernel
theorem dX3_takeBackAct_55 : decode cX3_takeBackAct 55 = .ok (.getfield 39, 3) := by decide +kernel
theorem dX3_takeBackAct_58 : decode cX3_takeBackAct 58 = .ok (.iaload, 1) := by decide +kernel
theorem dX3_takeBackAct_59 : decode cX3_takeBackAct 59 = .ok (.aload_n 0, 1) := by decide +kernel
theorem dX3_takeBackAct_60 : decode cX3_takeBackAct 60 = .ok (.getfield 27, 3) := by decide +kernel
theorem dX3_takeBackAct_63 : decode cX3_takeBackAct 63 = .ok (.aload_n 0, 1) := by decide +kernel
theorem dX3_takeBackAct_64 : decode cX3_takeBackAct 64 = .ok (.getfield 39, 3) := by decide +kernel
theorem dX3_takeBackAct_67 : decode cX3_takeBackAct 67 = .ok (.iaload, 1) := by decide +kernel
theorem dX3_takeBackAct_68 : decode cX3_takeBackAct 68 = .ok (.aload_n 0, 1) := by decide +kernel
theorem dX3_takeBackAct_69 : decode cX3_takeBackAct 69 = .ok (.getfield 30, 3) := by decide +kernel
theorem dX3_takeBackAct_72 : decode cX3_takeBackAct 72 = .ok (.aload_n 0, 1) := by decide +kernel
theorem dX3_takeBackAct_73 : decode cX3_takeBackAct 73 = .ok (.getfield 39, 3) := by decide +kernel
theorem dX3_takeBackAct_76 : decode cX3_takeBackAct 76 = .ok (.iaload, 1) := by decide +kernel
theorem tw_576 : (Jvm.Cond.methodLink "MarshBells$Held" (85 : Nat) ({ cls := "MarshBells$Held", name := "put", desc := "(III)V" } : Jvm.MethodName)) ∈ lw_tbl := tk_3 (List.mem_of_getElem? (i := 96) rfl)
theorem tw_579 : (Jvm.Cond.code ({ cls := "MarshBells$Held", name := "put", desc := "(III)V" } : Jvm.MethodName) prog_5_method_6_code (4 : Nat) (Option.none : Option Jvm.ClassFile.FieldType)) ∈ lw_tbl := tk_3 (List.mem_of_getElem? (i := 99) rfl)
theorem tw_578 : (Jvm.Cond.instanceMethod ({ cls := "MarshBells$Held", name := "put", desc := "(III)V" } : Jvm.MethodName)) ∈ lw_tbl := tk_3 (List.mem_of_getElem? (i := 98) rfl)
theorem se_X3_put : Cond.selects RX3 yX3_put yX3_put ∈ lw_tbl := List.mem_append_left _ (List.mem_of_getElem? (i := 5) rfl)
theorem li_X3_85 : kLV RX3 85 RX3 yX3_put cX3_put 4 none 3 := ⟨tw_576, tw_578, se_X3_put, tw_579, tw_6, by decide +kernel⟩
theorem dX3_takeBackAct_77 : decode cX3_takeBackAct 77 = .ok (.invokevirtual 85, 3) := by decide +kernel
theorem dX3_takeBackAct_33 : decode cX3_takeBackAct 33 = .ok (.aload_n 0, 1) := by decide +kernel
theorem dX3_takeBackAct_34 : decode cX3_takeBackAct 34 = .ok (.aload_n 0, 1) := by decide +kernel
theorem dX3_takeBackAct_35 : decode cX3_takeBackAct 35 = .ok (.getfield 30, 3) := by decide +kernel
theorem dX3_takeBackAct_38 : decode cX3_takeBackAct 38 = .ok (.aload_n 0, 1) := by decide +kernel
theorem dX3_takeBackAct_39 : decode cX3_takeBackAct 39 = .ok (.getfield 39, 3) := by decide +kernel
theorem dX3_takeBackAct_42 : decode cX3_takeBackAct 42 = .ok (.iaload, 1) := by decide +kernel
theorem tw_263 : (Jvm.Cond.fieldLink "MarshBells$Held" (46 : Nat) "MarshBells$Held" "rule" "I") ∈ lw_tbl := tk_2 (List.mem_of_getElem? (i := 23) rfl)
theorem fl_X3_46 : kFL RX3 46 3 12 11 := ⟨RX3, TX3, rfl, by decide, inWX3, tw_263⟩
theorem ft_X3_11 : kFT 3 11 .int false RX3 := ⟨RX3, TX3, 12, tyX3, rfl, tyX3_ok, nmX3, rfl, by decide +kernel, rfl⟩
theorem dX3_takeBackAct_43 : decode cX3_takeBackAct 43 = .ok (.putfield 46, 3) := by decide +kernel
theorem dX3_takeBackAct_46 : decode cX3_takeBackAct 46 = .ok (.goto 34, 3) := by decide +kernel
theorem dX3_takeBackAct_8 : decode cX3_takeBackAct 8 = .ok (.iconst (-1), 1) := by decide +kernel
theorem dX3_takeBackAct_9 : decode cX3_takeBackAct 9 = .ok (.ireturn, 1) := by decide +kernel
theorem tw_254 : (Jvm.Cond.fieldLink "MarshBells$Held" (33 : Nat) "MarshBells$Held" "seenLessons" "[I") ∈ lw_tbl := tk_2 (List.mem_of_getElem? (i := 14) rfl)
theorem fl_X3_33 : kFL RX3 33 3 12 7 := ⟨RX3, TX3, rfl, by decide, inWX3, tw_254⟩
theorem tw_256 : (Jvm.Cond.fieldLink "MarshBells$Held" (36 : Nat) "MarshBells$Held" "seenLates" "[I") ∈ lw_tbl := tk_2 (List.mem_of_getElem? (i := 16) rfl)
theorem fl_X3_36 : kFL RX3 36 3 12 8 := ⟨RX3, TX3, rfl, by decide, inWX3, tw_256⟩
theorem tw_260 : (Jvm.Cond.fieldLink "MarshBells$Held" (43 : Nat) "MarshBells$Held" "seen" "I") ∈ lw_tbl := tk_2 (List.mem_of_getElem? (i := 20) rfl)
theorem fl_X3_43 : kFL RX3 43 3 12 10 := ⟨RX3, TX3, rfl, by decide, inWX3, tw_260⟩
theorem dX3_copy_0 : decode cX3_copy 0 = .ok (.aload_n 1, 1) := by decide +kernel
theorem dX3_copy_1 : decode cX3_copy 1 = .ok (.getfield 9, 3) := by decide +kernel
theorem dX3_copy_4 : decode cX3_copy 4 = .ok (.iconst 0, 1) := by decide +kernel
theorem dX3_copy_5 : decode cX3_copy 5 = .ok (.aload_n 0, 1) := by decide +kernel
theorem dX3_copy_6 : decode cX3_copy 6 = .ok (.getfield 9, 3) := by decide +kernel
theorem dX3_copy_9 : decode cX3_copy 9 = .ok (.iconst 0, 1) := by decide +kernel
theorem dX3_copy_10 : decode cX3_copy 10 = .ok (.bipush 12, 2) := by decide +kernel
theorem dX3_copy_12 : decode cX3_copy 12 = .ok (.invokestatic 72, 3) := by decide +kernel
theorem dX3_copy_15 : decode cX3_copy 15 = .ok (.aload_n 1, 1) := by decide +kernel
theorem dX3_copy_16 : decode cX3_copy 16 = .ok (.getfield 15, 3) := by decide +kernel
theorem dX3_copy_19 : decode cX3_copy 19 = .ok (.iconst 0, 1) := by decide +kernel
theorem dX3_copy_20 : decode cX3_copy 20 = .ok (.aload_n 0, 1) := by decide +kernel
theorem dX3_copy_21 : decode cX3_copy 21 = .ok (.getfield 15, 3) := by decide +kernel
theorem dX3_copy_24 : decode cX3_copy 24 = .ok (.iconst 0, 1) := by decide +kernel
theorem dX3_copy_25 : decode cX3_copy 25 = .ok (.bipush 12, 2) := by decide +kernel
theorem dX3_copy_27 : decode cX3_copy 27 = .ok (.invokestatic 72, 3) := by decide +kernel
theorem dX3_copy_30 : decode cX3_copy 30 = .ok (.aload_n 1, 1) := by decide +kernel
theorem dX3_copy_31 : decode cX3_copy 31 = .ok (.getfield 18, 3) := by decide +kernel
theorem dX3_copy_34 : decode cX3_copy 34 = .ok (.iconst 0, 1) := by decide +kernel
theorem dX3_copy_35 : decode cX3_copy 35 = .ok (.aload_n 0, 1) := by decide +kernel
theorem dX3_copy_36 : decode cX3_copy 36 = .ok (.getfield 18, 3) := by decide +kernel
theorem dX3_copy_39 : decode cX3_copy 39 = .ok (.iconst 0, 1) := by decide +kernel
theorem dX3_copy_40 : decode cX3_copy 40 = .ok (.bipush 12, 2) := by decide +kernel
theorem dX3_copy_42 : decode cX3_copy 42 = .ok (.invokestatic 72, 3) := by decide +kernel
theorem dX3_copy_45 : decode cX3_copy 45 = .ok (.aload_n 1, 1) := by decide +kernel
theorem dX3_copy_46 : decode cX3_copy 46 = .ok (.getfield 21, 3) := by decide +kernel
theorem dX3_copy_49 : decode cX3_copy 49 = .ok (.iconst 0, 1) := by decide +kernel
theorem dX3_copy_50 : decode cX3_copy 50 = .ok (.aload_n 0, 1) := by decide +kernel
theorem dX3_copy_51 : decode cX3_copy 51 = .ok (.getfield 21, 3) := by decide +kernel
theorem dX3_copy_54 : decode cX3_copy 54 = .ok (.iconst 0, 1) := by decide +kernel
theorem dX3_copy_55 : decode cX3_copy 55 = .ok (.bipush 12, 2) := by decide +kernel
theorem dX3_copy_57 : decode cX3_copy 57 = .ok (.invokestatic 72, 3) := by decide +kernel
theorem dX3_copy_60 : decode cX3_copy 60 = .ok (.aload_n 1, 1) := by decide +kernel
theorem dX3_copy_61 : decode cX3_copy 61 = .ok (.getfield 24, 3) := by decide +kernel
theorem dX3_copy_64 : decode cX3_copy 64 = .ok (.iconst 0, 1) := by decide +kernel
theorem dX3_copy_65 : decode cX3_copy 65 = .ok (.aload_n 0, 1) := by decide +kernel
theorem dX3_copy_66 : decode cX3_copy 66 = .ok (.getfield 24, 3) := by decide +kernel
theorem dX3_copy_69 : decode cX3_copy 69 = .ok (.iconst 0, 1) := by decide +kernel
theorem dX3_copy_70 : decode cX3_copy 70 = .ok (.bipush 40, 2) := by decide +kernel
theorem dX3_copy_72 : decode cX3_copy 72 = .ok (.invokestatic 72, 3) := by decide +kernel
theorem dX3_copy_75 : decode cX3_copy 75 = .ok (.aload_n 1, 1) := by decide +kernel
theorem dX3_copy_76 : decode cX3_copy 76 = .ok (.getfield 27, 3) := by decide +kernel
theorem dX3_copy_79 : decode cX3_copy 79 = .ok (.iconst 0, 1) := by decide +kernel
theorem dX3_copy_80 : decode cX3_copy 80 = .ok (.aload_n 0, 1) := by decide +kernel
theorem dX3_copy_81 : decode cX3_copy 81 = .ok (.getfield 27, 3) := by decide +kernel
theorem dX3_copy_84 : decode cX3_copy 84 = .ok (.iconst 0, 1) := by decide +kernel
theorem dX3_copy_85 : decode cX3_copy 85 = .ok (.bipush 40, 2) := by decide +kernel
theorem dX3_copy_87 : decode cX3_copy 87 = .ok (.invokestatic 72, 3) := by decide +kernel
theorem dX3_copy_90 : decode cX3_copy 90 = .ok (.aload_n 1, 1) := by decide +kernel
theorem dX3_copy_91 : decode cX3_copy 91 = .ok (.getfield 30, 3) := by decide +kernel
theorem dX3_copy_94 : decode cX3_copy 94 = .ok (.iconst 0, 1) := by decide +kernel
theorem dX3_copy_95 : decode cX3_copy 95 = .ok (.aload_n 0, 1) := by decide +kernel
theorem dX3_copy_96 : decode cX3_copy 96 = .ok (.getfield 30, 3) := by decide +kernel
theorem dX3_copy_99 : decode cX3_copy 99 = .ok (.iconst 0, 1) := by decide +kernel
theorem dX3_copy_100 : decode cX3_copy 100 = .ok (.bipush 40, 2) := by decide +kernel
theorem dX3_copy_102 : decode cX3_copy 102 = .ok (.invokestatic 72, 3) := by decide +kernel
theorem dX3_copy_105 : decode cX3_copy 105 = .ok (.aload_n 1, 1) := by decide +kernel
theorem dX3_copy_106 : decode cX3_copy 106 = .ok (.getfield 33, 3) := by decide +kernel
theorem dX3_copy_109 : decode cX3_copy 109 = .ok (.iconst 0, 1) := by decide +kernel
theorem dX3_copy_110 : decode cX3_copy 110 = .ok (.aload_n 0, 1) := by decide +kernel
theorem dX3_copy_111 : decode cX3_copy 111 = .ok (.getfield 33, 3) := by decide +kernel
theorem dX3_copy_114 : decode cX3_copy 114 = .ok (.iconst 0, 1) := by decide +kernel
theorem dX3_copy_115 : decode cX3_copy 115 = .ok (.bipush 8, 2) := by decide +kernel
theorem dX3_copy_117 : decode cX3_copy 117 = .ok (.invokestatic 72, 3) := by decide +kernel
theorem dX3_copy_120 : decode cX3_copy 120 = .ok (.aload_n 1, 1) := by decide +kernel
theorem dX3_copy_121 : decode cX3_copy 121 = .ok (.getfield 36, 3) := by decide +kernel
theorem dX3_copy_124 : decode cX3_copy 124 = .ok (.iconst 0, 1) := by decide +kernel
theorem dX3_copy_125 : decode cX3_copy 125 = .ok (.aload_n 0, 1) := by decide +kernel
theorem dX3_copy_126 : decode cX3_copy 126 = .ok (.getfield 36, 3) := by decide +kernel
theorem dX3_copy_129 : decode cX3_copy 129 = .ok (.iconst 0, 1) := by decide +kernel
theorem dX3_copy_130 : decode cX3_copy 130 = .ok (.bipush 8, 2) := by decide +kernel
theorem dX3_copy_132 : decode cX3_copy 132 = .ok (.invokestatic 72, 3) := by decide +kernel
theorem dX3_copy_135 : decode cX3_copy 135 = .ok (.aload_n 0, 1) := by decide +kernel
theorem dX3_copy_136 : decode cX3_copy 136 = .ok (.aload_n 1, 1) := by decide +kernel
theorem dX3_copy_137 : decode cX3_copy 137 = .ok (.getfield 39, 3) := by decide +kernel
theorem dX3_copy_140 : decode cX3_copy 140 = .ok (.putfield 39, 3) := by decide +kernel
theorem dX3_copy_143 : decode cX3_copy 143 = .ok (.aload_n 0, 1) := by decide +kernel
theorem dX3_copy_144 : decode cX3_copy 144 = .ok (.aload_n 1, 1) := by decide +kernel
theorem dX3_copy_145 : decode cX3_copy 145 = .ok (.getfield 43, 3) := by decide +kernel
theorem ft_X3_10 : kFT 3 10 .int false RX3 := ⟨RX3, TX3, 12, tyX3, rfl, tyX3_ok, nmX3, rfl, by decide +kernel, rfl⟩
theorem dX3_copy_148 : decode cX3_copy 148 = .ok (.putfield 43, 3) := by decide +kernel
theorem dX3_copy_151 : decode cX3_copy 151 = .ok (.aload_n 0, 1) := by decide +kernel
theorem dX3_copy_152 : decode cX3_copy 152 = .ok (.aload_n 1, 1) := by decide +kernel
theorem dX3_copy_153 : decode cX3_copy 153 = .ok (.getfield 46, 3) := by decide +kernel
theorem dX3_copy_156 : decode cX3_copy 156 = .ok (.putfield 46, 3) := by decide +kernel
theorem dX3_copy_159 : decode cX3_copy 159 = .ok (.return_, 1) := by decide +kernel
theorem dX3_keepSeen_0 : decode cX3_keepSeen 0 = .ok (.aload_n 0, 1) := by decide +kernel
theorem dX3_keepSeen_1 : decode cX3_keepSeen 1 = .ok (.getfield 43, 3) := by decide +kernel
theorem dX3_keepSeen_4 : decode cX3_keepSeen 4 = .ok (.bipush 8, 2) := by decide +kernel
theorem dX3_keepSeen_39 : decode cX3_keepSeen 39 = .ok (.return_, 1) := by decide +kernel
theorem dX3_keepSeen_6 : decode cX3_keepSeen 6 = .ok (.if_icmp .ge 33, 3) := by decide +kernel
theorem dX3_keepSeen_9 : decode cX3_keepSeen 9 = .ok (.aload_n 0, 1) := by decide +kernel
theorem dX3_keepSeen_10 : decode cX3_keepSeen 10 = .ok (.getfield 33, 3) := by decide +kernel
theorem dX3_keepSeen_13 : decode cX3_keepSeen 13 = .ok (.aload_n 0, 1) := by decide +kernel
theorem dX3_keepSeen_14 : decode cX3_keepSeen 14 = .ok (.getfield 43, 3) := by decide +kernel
theorem dX3_keepSeen_17 : decode cX3_keepSeen 17 = .ok (.iload_n 1, 1) := by decide +kernel
theorem dX3_keepSeen_18 : decode cX3_keepSeen 18 = .ok (.iastore, 1) := by decide +kernel
theorem dX3_keepSeen_19 : decode cX3_keepSeen 19 = .ok (.aload_n 0, 1) := by decide +kernel
theorem dX3_keepSeen_20 : decode cX3_keepSeen 20 = .ok (.getfield 36, 3) := by decide +kernel
theorem dX3_keepSeen_23 : decode cX3_keepSeen 23 = .ok (.aload_n 0, 1) := by decide +kernel
theorem dX3_keepSeen_24 : decode cX3_keepSeen 24 = .ok (.getfield 43, 3) := by decide +kernel
theorem dX3_keepSeen_27 : decode cX3_keepSeen 27 = .ok (.iload_n 2, 1) := by decide +kernel
theorem dX3_keepSeen_28 : decode cX3_keepSeen 28 = .ok (.iastore, 1) := by decide +kernel
theorem dX3_keepSeen_29 : decode cX3_keepSeen 29 = .ok (.aload_n 0, 1) := by decide +kernel
theorem dX3_keepSeen_30 : decode cX3_keepSeen 30 = .ok (.dup, 1) := by decide +kernel
theorem dX3_keepSeen_31 : decode cX3_keepSeen 31 = .ok (.getfield 43, 3) := by decide +kernel
theorem dX3_keepSeen_34 : decode cX3_keepSeen 34 = .ok (.iconst 1, 1) := by decide +kernel
theorem dX3_keepSeen_35 : decode cX3_keepSeen 35 = .ok (.iadd, 1) := by decide +kernel
theorem dX3_keepSeen_36 : decode cX3_keepSeen 36 = .ok (.putfield 43, 3) := by decide +kernel
theorem dX3_value_0 : decode cX3_value 0 = .ok (.aload_n 0, 1) := by decide +kernel
theorem dX3_value_1 : decode cX3_value 1 = .ok (.iload_n 1, 1) := by decide +kernel
theorem dX3_value_2 : decode cX3_value 2 = .ok (.invokevirtual 78, 3) := by decide +kernel
theorem dX3_value_5 : decode cX3_value 5 = .ok (.iload_n 2, 1) := by decide +kernel
theorem dX3_value_6 : decode cX3_value 6 = .ok (.iaload, 1) := by decide +kernel
theorem dX3_value_7 : decode cX3_value 7 = .ok (.ireturn, 1) := by decide +kernel
theorem tw_161 : (Jvm.Cond.fieldLinkNest "MarshBells$Held" (49 : Nat) "MarshBells$Plan" "lessonCount" "I" "MarshBells") ∈ lw_tbl := tk_1 (List.mem_of_getElem? (i := 161) rfl)
theorem fl_X3_49 : kFN RX3 49 7 5 2 := ⟨RX7, TX7, rfl, by decide, inWX7, tw_161⟩
theorem tw_148 : (Jvm.Cond.fieldLinkNest "MarshBells$Held" (54 : Nat) "MarshBells$Plan" "lessons" "[LMarshBells$Lesson;" "MarshBells") ∈ lw_tbl := tk_1 (List.mem_of_getElem? (i := 148) rfl)
theorem fl_X3_54 : kFN RX3 54 7 5 0 := ⟨RX7, TX7, rfl, by decide, inWX7, tw_148⟩
theorem tw_95 : (Jvm.Cond.fieldLinkNest "MarshBells$Held" (58 : Nat) "MarshBells$Lesson" "over" "I" "MarshBells") ∈ lw_tbl := tk_1 (List.mem_of_getElem? (i := 95) rfl)
theorem fl_X3_58 : kFN RX3 58 5 14 6 := ⟨RX5, TX5, rfl, by decide, inWX5, tw_95⟩
theorem tw_116 : (Jvm.Cond.fieldLinkNest "MarshBells$Held" (63 : Nat) "MarshBells$Lesson" "gap" "I" "MarshBells") ∈ lw_tbl := tk_1 (List.mem_of_getElem? (i := 116) rfl)
theorem fl_X3_63 : kFN RX3 63 5 14 13 := ⟨RX5, TX5, rfl, by decide, inWX5, tw_116⟩
theorem tw_97 : (Jvm.Cond.fieldLinkNest "MarshBells$Held" (66 : Nat) "MarshBells$Lesson" "room" "I" "MarshBells") ∈ lw_tbl := tk_1 (List.mem_of_getElem? (i := 97) rfl)
theorem fl_X3_66 : kFN RX3 66 5 14 7 := ⟨RX5, TX5, rfl, by decide, inWX5, tw_97⟩
theorem tw_111 : (Jvm.Cond.fieldLinkNest "MarshBells$Held" (69 : Nat) "MarshBells$Lesson" "limit" "I" "MarshBells") ∈ lw_tbl := tk_1 (List.mem_of_getElem? (i := 111) rfl)
theorem fl_X3_69 : kFN RX3 69 5 14 11 := ⟨RX5, TX5, rfl, by decide, inWX5, tw_111⟩
theorem dX3_start_0 : decode cX3_start 0 = .ok (.iconst 0, 1) := by decide +kernel
theorem dX3_start_1 : decode cX3_start 1 = .ok (.istore_n 2, 1) := by decide +kernel
theorem dX3_start_2 : decode cX3_start 2 = .ok (.iload_n 2, 1) := by decide +kernel
theorem dX3_start_3 : decode cX3_start 3 = .ok (.aload_n 1, 1) := by decide +kernel
theorem dX3_start_4 : decode cX3_start 4 = .ok (.getfield 49, 3) := by decide +kernel
theorem dX3_start_7 : decode cX3_start 7 = .ok (.if_icmp .ge 56, 3) := by decide +kernel
theorem dX3_start_63 : decode cX3_start 63 = .ok (.aload_n 0, 1) := by decide +kernel
theorem dX3_start_64 : decode cX3_start 64 = .ok (.iconst 0, 1) := by decide +kernel
theorem dX3_start_65 : decode cX3_start 65 = .ok (.putfield 39, 3) := by decide +kernel
theorem dX3_start_68 : decode cX3_start 68 = .ok (.aload_n 0, 1) := by decide +kernel
theorem dX3_start_69 : decode cX3_start 69 = .ok (.iconst 0, 1) := by decide +kernel
theorem dX3_start_70 : decode cX3_start 70 = .ok (.putfield 43, 3) := by decide +kernel
theorem dX3_start_73 : decode cX3_start 73 = .ok (.aload_n 0, 1) := by decide +kernel
theorem dX3_start_74 : decode cX3_start 74 = .ok (.iconst (-1), 1) := by decide +kernel
theorem dX3_start_75 : decode cX3_start 75 = .ok (.putfield 46, 3) := by decide +kernel
theorem dX3_start_78 : decode cX3_start 78 = .ok (.return_, 1) := by decide +kernel
theorem dX3_start_10 : decode cX3_start 10 = .ok (.aload_n 1, 1) := by decide +kernel
theorem dX3_start_11 : decode cX3_start 11 = .ok (.getfield 54, 3) := by decide +kernel
theorem dX3_start_14 : decode cX3_start 14 = .ok (.iload_n 2, 1) := by decide +kernel
theorem dX3_start_15 : decode cX3_start 15 = .ok (.aaload, 1) := by decide +kernel
theorem dX3_start_16 : decode cX3_start 16 = .ok (.astore_n 3, 1) := by decide +kernel
theorem dX3_start_17 : decode cX3_start 17 = .ok (.aload_n 0, 1) := by decide +kernel
theorem dX3_start_18 : decode cX3_start 18 = .ok (.getfield 9, 3) := by decide +kernel
theorem dX3_start_21 : decode cX3_start 21 = .ok (.iload_n 2, 1) := by decide +kernel
theorem dX3_start_22 : decode cX3_start 22 = .ok (.aload_n 3, 1) := by decide +kernel
theorem dX3_start_23 : decode cX3_start 23 = .ok (.getfield 58, 3) := by decide +kernel
theorem dX3_start_26 : decode cX3_start 26 = .ok (.iastore, 1) := by decide +kernel
theorem dX3_start_27 : decode cX3_start 27 = .ok (.aload_n 0, 1) := by decide +kernel
theorem dX3_start_28 : decode cX3_start 28 = .ok (.getfield 15, 3) := by decide +kernel
theorem dX3_start_31 : decode cX3_start 31 = .ok (.iload_n 2, 1) := by decide +kernel
theorem dX3_start_32 : decode cX3_start 32 = .ok (.aload_n 3, 1) := by decide +kernel
theorem dX3_start_33 : decode cX3_start 33 = .ok (.getfield 63, 3) := by decide +kernel
theorem dX3_start_36 : decode cX3_start 36 = .ok (.iastore, 1) := by decide +kernel
theorem dX3_start_37 : decode cX3_start 37 = .ok (.aload_n 0, 1) := by decide +kernel
theorem dX3_start_38 : decode cX3_start 38 = .ok (.getfield 18, 3) := by decide +kernel
theorem dX3_start_41 : decode cX3_start 41 = .ok (.iload_n 2, 1) := by decide +kernel
theorem dX3_start_42 : decode cX3_start 42 = .ok (.aload_n 3, 1) := by decide +kernel
theorem dX3_start_43 : decode cX3_start 43 = .ok (.getfield 66, 3) := by decide +kernel
theorem dX3_start_46 : decode cX3_start 46 = .ok (.iastore, 1) := by decide +kernel
theorem dX3_start_47 : decode cX3_start 47 = .ok (.aload_n 0, 1) := by decide +kernel
theorem dX3_start_48 : decode cX3_start 48 = .ok (.getfield 21, 3) := by decide +kernel
theorem dX3_start_51 : decode cX3_start 51 = .ok (.iload_n 2, 1) := by decide +kernel
theorem dX3_start_52 : decode cX3_start 52 = .ok (.aload_n 3, 1) := by decide +kernel
theorem dX3_start_53 : decode cX3_start 53 = .ok (.getfield 69, 3) := by decide +kernel
theorem dX3_start_56 : decode cX3_start 56 = .ok (.iastore, 1) := by decide +kernel
theorem dX3_start_57 : decode cX3_start 57 = .ok (.iinc 2 1, 3) := by decide +kernel
theorem dX3_start_60 : decode cX3_start 60 = .ok (.goto (-58), 3) := by decide +kernel
def fX3_dropFirstAct_6 (fu : Nat) (g : Nat → Nat → Int32) (L : Nat → Nat → Int64) : Option ((Unit) × zS) :=
  stA g 29 (va_cpy (g 29) (g 29) (Int32.toNatClampNeg 1) (Int32.toNatClampNeg 0) (Int32.toNatClampNeg 39)) (fun g1 =>
  stA g1 30 (va_cpy (g1 30) (g1 30) (Int32.toNatClampNeg 1) (Int32.toNatClampNeg 0) (Int32.toNatClampNeg 39)) (fun g2 =>
  stA g2 31 (va_cpy (g2 31) (g2 31) (Int32.toNatClampNeg 1) (Int32.toNatClampNeg 0) (Int32.toNatClampNeg 39)) (fun g3 =>
  sti g3 6 9 39 (fun g4 =>
  some ((), (g4, L))))))
set_option maxHeartbeats 4000000 in
set_option maxRecDepth 100000 in
theorem rX3_dropFirstAct_6 (l : Launch) (G : kG) (sz : Nat) (b : Nat) (a : Nat → Nat) (fu : Nat) (g : Nat → Nat → Int32) (L : Nat → Nat → Int64) (res : Unit) (s9 : zS) (h : fX3_dropFirstAct_6 fu g L = some (res, s9)) : kM l yX3_dropFirstAct cX3_dropFirstAct 1 none { frames := 6, cells := 0, slots := 0, locals := 110 } G [.ref (a 6)] (zw G (XS b) 105 a g L) sz (kQv G (S := Unit) (fun _ => True) (fun _ => zw G (XS b) 105 a s9.1 s9.2)) := by
  refine kM.of (by decide) (Nat.le_of_ble_eq_true rfl) ?_
  intro p e s m below meth c A ls H C hr hlk hnm hP hD hS hl
  have C : kC G p s m c cX3_dropFirstAct 1 RX3 A := C
  have hx := C.1
  have hb := C.2.1
  have hl : lv_has ls 1 [(0, .ref (a 6))] := hl
  obtain ⟨locs, hlocs⟩ : ∃ q : List Loc, q = [] := ⟨_, rfl⟩
  rw [← hlocs] at hS
  rw [← hlocs]
  unfold fX3_dropFirstAct_6 at h
  refine lv_aload_n hx hb dX3_dropFirstAct_0 rfl (lv_at hl 0 rfl) ?_
  refine x_getr (Or.inl fl_X3_24) C hP (by decide) xs_6 rfl dX3_dropFirstAct_1 ?_
  refine lv_iconst (v := 1) hx hb dX3_dropFirstAct_4 (by decide) ?_
  refine lv_aload_n hx hb dX3_dropFirstAct_5 rfl (lv_at hl 0 rfl) ?_
  refine x_getr (Or.inl fl_X3_24) C hP (by decide) xs_6 rfl dX3_dropFirstAct_6 ?_
  refine lv_iconst (v := 0) hx hb dX3_dropFirstAct_9 (by decide) ?_
  refine lv_bipush (v := 39) hx hb dX3_dropFirstAct_10 (by decide) ?_
  refine y_copy lc_X3_72 C hl.1 hP hD hS (by decide) (by decide) xs_29 xs_29 (by decide) (by decide) (by decide) (by decide) (by decide) (Nat.le_of_ble_eq_true rfl) (Nat.le_of_ble_eq_true rfl) dX3_dropFirstAct_12 h (fun g1 H locs h hP hD hS => ?_)
  refine lv_aload_n hx hb dX3_dropFirstAct_15 rfl (lv_at hl 0 rfl) ?_
  refine x_getr (Or.inl fl_X3_27) C hP (by decide) xs_6 rfl dX3_dropFirstAct_16 ?_
  refine lv_iconst (v := 1) hx hb dX3_dropFirstAct_19 (by decide) ?_
  refine lv_aload_n hx hb dX3_dropFirstAct_20 rfl (lv_at hl 0 rfl) ?_
  refine x_getr (Or.inl fl_X3_27) C hP (by decide) xs_6 rfl dX3_dropFirstAct_21 ?_
  refine lv_iconst (v := 0) hx hb dX3_dropFirstAct_24 (by decide) ?_
  refine lv_bipush (v := 39) hx hb dX3_dropFirstAct_25 (by decide) ?_
  refine y_copy lc_X3_72 C hl.1 hP hD hS (by decide) (by decide) xs_30 xs_30 (by decide) (by decide) (by decide) (by decide) (by decide) (Nat.le_of_ble_eq_true rfl) (Nat.le_of_ble_eq_true rfl) dX3_dropFirstAct_27 h (fun g2 H locs h hP hD hS => ?_)
  refine lv_aload_n hx hb dX3_dropFirstAct_30 rfl (lv_at hl 0 rfl) ?_
  refine x_getr (Or.inl fl_X3_30) C hP (by decide) xs_6 rfl dX3_dropFirstAct_31 ?_
  refine lv_iconst (v := 1) hx hb dX3_dropFirstAct_34 (by decide) ?_
  refine lv_aload_n hx hb dX3_dropFirstAct_35 rfl (lv_at hl 0 rfl) ?_
  refine x_getr (Or.inl fl_X3_30) C hP (by decide) xs_6 rfl dX3_dropFirstAct_36 ?_
  refine lv_iconst (v := 0) hx hb dX3_dropFirstAct_39 (by decide) ?_
  refine lv_bipush (v := 39) hx hb dX3_dropFirstAct_40 (by decide) ?_
  refine y_copy lc_X3_72 C hl.1 hP hD hS (by decide) (by decide) xs_31 xs_31 (by decide) (by decide) (by decide) (by decide) (by decide) (Nat.le_of_ble_eq_true rfl) (Nat.le_of_ble_eq_true rfl) dX3_dropFirstAct_42 h (fun g3 H locs h hP hD hS => ?_)
  refine lv_aload_n hx hb dX3_dropFirstAct_45 rfl (lv_at hl 0 rfl) ?_
  refine lv_bipush (v := 39) hx hb dX3_dropFirstAct_46 (by decide) ?_
  refine y_puti (Or.inl fl_X3_39) ft_X3_9 C hP hD hS (by decide) xs_6 rfl rfl rfl dX3_dropFirstAct_48 h (fun g4 H locs h hP hD hS => ?_)
  exact y_vret C hr hlk hP hD hS h (Nat.le_of_ble_eq_true rfl) (Nat.le_of_ble_eq_true rfl) dX3_dropFirstAct_51
def fX3_keepAct_6_p13 (fu : Nat) (v1 : Int32) (v2 : Int32) (v3 : Int32) (g : Nat → Nat → Int32) (L : Nat → Nat → Int64) : Option ((Unit) × zS) :=
  ck (g 6 9) 40 (sti g 29 (Int32.toNatClampNeg (g 6 9)) v1 (fun g1 =>
  ck (g1 6 9) 40 (sti g1 30 (Int32.toNatClampNeg (g1 6 9)) v2 (fun g2 =>
  ck (g2 6 9) 40 (sti g2 31 (Int32.toNatClampNeg (g2 6 9)) v3 (fun g3 =>
  sti g3 6 9 ((g3 6 9) + 1) (fun g4 =>
  some ((), (g4, L)))))))))
def fX3_keepAct_6 (fu : Nat) (p1 : Int32) (p2 : Int32) (p3 : Int32) (g : Nat → Nat → Int32) (L : Nat → Nat → Int64) : Option ((Unit) × zS) :=
  if (g 6 9) < 40 then fX3_keepAct_6_p13 fu p1 p2 p3 g L
  else cb (fX3_dropFirstAct_6 fu g L) (fun x6 g7 L8 =>
  fX3_keepAct_6_p13 fu p1 p2 p3 g7 L8)
set_option maxHeartbeats 4000000 in
set_option maxRecDepth 100000 in
theorem rX3_keepAct_6 (l : Launch) (G : kG) (sz : Nat) (b : Nat) (a : Nat → Nat) (fu : Nat) (g : Nat → Nat → Int32) (L : Nat → Nat → Int64) (p1 : Int32) (p2 : Int32) (p3 : Int32) (res : Unit) (s9 : zS) (h : fX3_keepAct_6 fu p1 p2 p3 g L = some (res, s9)) : kM l yX3_keepAct cX3_keepAct 4 none { frames := 7, cells := 0, slots := 0, locals := 130 } G [.ref (a 6), .int p1, .int p2, .int p3] (zw G (XS b) 105 a g L) sz (kQv G (S := Unit) (fun _ => True) (fun _ => zw G (XS b) 105 a s9.1 s9.2)) := by
  refine kM.of (by decide) (Nat.le_of_ble_eq_true rfl) ?_
  intro p e s m below meth c A ls H C hr hlk hnm hP hD hS hl
  have C : kC G p s m c cX3_keepAct 4 RX3 A := C
  have hx := C.1
  have hb := C.2.1
  have hl : lv_has ls 4 [(0, .ref (a 6)), (1, .int p1), (2, .int p2), (3, .int p3)] := hl
  obtain ⟨locs, hlocs⟩ : ∃ q : List Loc, q = [] := ⟨_, rfl⟩
  rw [← hlocs] at hS
  rw [← hlocs]
  unfold fX3_keepAct_6 at h
  refine lv_aload_n hx hb dX3_keepAct_0 rfl (lv_at hl 0 rfl) ?_
  refine x_getv (v := .int (g 6 9)) (Or.inl fl_X3_39) C hP (by decide) xs_6 rfl dX3_keepAct_1 ?_
  refine lv_bipush (v := 40) hx hb dX3_keepAct_4 (by decide) ?_
  have J13 : ∀ (v1 : Int32) (v2 : Int32) (v3 : Int32) (g : Nat → Nat → Int32) (L : Nat → Nat → Int64) (H : Heap) (locs : List Loc) (ls : Array Slot), fX3_keepAct_6_p13 fu v1 v2 v3 g L = some (res, s9) → va_P G.1 vwCl (zw G (XS b) 105 a g L) H → va_D A (zw G (XS b) 105 a g L) → va_S A s.heap H locs → lv_has ls 4 [(0, .ref (a 6)), (1, .int v1), (2, .int v2), (3, .int v3)] → W p l e { frames := 7, cells := 0, slots := 0, locals := 130 } s m [.ref (a 6), .int p1, .int p2, .int p3].toArray below meth c H locs 0 0 (MQ below ((kQv G (S := Unit) (fun _ => True) (fun _ => zw G (XS b) 105 a s9.1 s9.2)) A) [.ref (a 6), .int p1, .int p2, .int p3].toArray s 0 0 A) (F0 m 13 ls []) := by
    intro v1 v2 v3 g L H locs ls h hP hD hS hl
    unfold fX3_keepAct_6_p13 at h
    refine lv_aload_n hx hb dX3_keepAct_13 rfl (lv_at hl 0 rfl) ?_
    refine x_getr (Or.inl fl_X3_24) C hP (by decide) xs_6 rfl dX3_keepAct_14 ?_
    refine lv_aload_n hx hb dX3_keepAct_17 rfl (lv_at hl 0 rfl) ?_
    refine x_getv (v := .int (g 6 9)) (Or.inl fl_X3_39) C hP (by decide) xs_6 rfl dX3_keepAct_18 ?_
    refine lv_iload_n hx hb dX3_keepAct_21 rfl (lv_at hl 1 rfl) ?_
    refine y_ast C hP hD hS (by decide) xs_29 dX3_keepAct_22 h (fun g1 H locs h hP hD hS => ?_)
    refine lv_aload_n hx hb dX3_keepAct_23 rfl (lv_at hl 0 rfl) ?_
    refine x_getr (Or.inl fl_X3_27) C hP (by decide) xs_6 rfl dX3_keepAct_24 ?_
    refine lv_aload_n hx hb dX3_keepAct_27 rfl (lv_at hl 0 rfl) ?_
    refine x_getv (v := .int (g1 6 9)) (Or.inl fl_X3_39) C hP (by decide) xs_6 rfl dX3_keepAct_28 ?_
    refine lv_iload_n hx hb dX3_keepAct_31 rfl (lv_at hl 2 rfl) ?_
    refine y_ast C hP hD hS (by decide) xs_30 dX3_keepAct_32 h (fun g2 H locs h hP hD hS => ?_)
    refine lv_aload_n hx hb dX3_keepAct_33 rfl (lv_at hl 0 rfl) ?_
    refine x_getr (Or.inl fl_X3_30) C hP (by decide) xs_6 rfl dX3_keepAct_34 ?_
    refine lv_aload_n hx hb dX3_keepAct_37 rfl (lv_at hl 0 rfl) ?_
    refine x_getv (v := .int (g2 6 9)) (Or.inl fl_X3_39) C hP (by decide) xs_6 rfl dX3_keepAct_38 ?_
    refine lv_iload_n hx hb dX3_keepAct_41 rfl (lv_at hl 3 rfl) ?_
    refine y_ast C hP hD hS (by decide) xs_31 dX3_keepAct_42 h (fun g3 H locs h hP hD hS => ?_)
    refine lv_aload_n hx hb dX3_keepAct_43 rfl (lv_at hl 0 rfl) ?_
    refine lv_dup hx hb dX3_keepAct_44 rfl ?_
    refine x_getv (v := .int (g3 6 9)) (Or.inl fl_X3_39) C hP (by decide) xs_6 rfl dX3_keepAct_45 ?_
    refine lv_iconst (v := 1) hx hb dX3_keepAct_48 (by decide) ?_
    refine lv_iadd hx hb dX3_keepAct_49 ?_
    refine y_puti (Or.inl fl_X3_39) ft_X3_9 C hP hD hS (by decide) xs_6 rfl rfl rfl dX3_keepAct_50 h (fun g4 H locs h hP hD hS => ?_)
    exact y_vret C hr hlk hP hD hS h (Nat.le_of_ble_eq_true rfl) (Nat.le_of_ble_eq_true rfl) dX3_keepAct_53
  refine lv_icmp_lt (x := (g 6 9)) (y := 40) (tgt := 13) hx hb dX3_keepAct_6 (by decide) (fun c5 => ?_) (fun c5 => ?_)
  ·
    have h := ite_t c5 h
    exact J13 p1 p2 p3 g L H locs ls h hP hD hS (lv_sub hl [0, 1, 2, 3] rfl)
  ·
    have h := ite_e c5 h
    refine lv_aload_n hx hb dX3_keepAct_9 rfl (lv_at hl 0 rfl) ?_
    obtain ⟨z_, g7, L8, hf9, h⟩ := cb_some h
    refine x_callVv (rest := []) li_X3_82 C (rX3_dropFirstAct_6 l G H.size b a fu g L z_ (g7, L8) hf9) (kR rfl) hP hD hS 6 3 rfl (zat (by decide) xs_6) rfl hl.1 rfl (Nat.le_of_ble_eq_true rfl) dX3_keepAct_10 (fun u_ H locs e_ hP hD hS => ?_)
    have hP : va_P G.1 vwCl (zw G (XS b) 105 a g7 L8) H := hP
    have hD : va_D A (zw G (XS b) 105 a g7 L8) := hD
    exact J13 p1 p2 p3 g7 L8 H locs ls h hP hD hS (lv_sub hl [0, 1, 2, 3] rfl)
def fX3_row_6 (fu : Nat) (p1 : Int32) (g : Nat → Nat → Int32) (L : Nat → Nat → Int64) : Option ((Nat) × zS) :=
  if (Int32.toInt p1) = 0 then (some (25, (g, L))) else
  if (Int32.toInt p1) = 1 then (some (26, (g, L))) else
  if (Int32.toInt p1) = 2 then (some (27, (g, L))) else
  some (28, (g, L))
set_option maxHeartbeats 4000000 in
set_option maxRecDepth 100000 in
theorem rX3_row_6 (l : Launch) (G : kG) (sz : Nat) (b : Nat) (a : Nat → Nat) (fu : Nat) (g : Nat → Nat → Int32) (L : Nat → Nat → Int64) (p1 : Int32) (res : Nat) (s9 : zS) (h : fX3_row_6 fu p1 g L = some (res, s9)) : kM l yX3_row cX3_row 2 (some (.array .int)) { frames := 6, cells := 0, slots := 0, locals := 110 } G [.ref (a 6), .int p1] (zw G (XS b) 105 a g L) sz (kQr G (S := Unit) (fun _ => True) (fun _ => zw G (XS b) 105 a s9.1 s9.2) (fun _ => a res)) := by
  refine kM.of (by decide) (Nat.le_of_ble_eq_true rfl) ?_
  intro p e s m below meth c A ls H C hr hlk hnm hP hD hS hl
  have C : kC G p s m c cX3_row 2 RX3 A := C
  have hx := C.1
  have hb := C.2.1
  have hl : lv_has ls 2 [(0, .ref (a 6)), (1, .int p1)] := hl
  obtain ⟨locs, hlocs⟩ : ∃ q : List Loc, q = [] := ⟨_, rfl⟩
  rw [← hlocs] at hS
  rw [← hlocs]
  unfold fX3_row_6 at h
  refine lv_iload_n hx hb dX3_row_0 rfl (lv_at hl 1 rfl) ?_
  by_cases c1 : (Int32.toInt p1) = 0
  ·
    have h := ite_t c1 h
    refine lv_tableIn (off := 27) (tgt := 28) hx hb dX3_row_1 (by omega) (by omega) (by rw [c1]; rfl) (by decide) ?_
    refine lv_aload_n hx hb dX3_row_28 rfl (lv_at hl 0 rfl) ?_
    refine x_getr (Or.inl fl_X3_9) C hP (by decide) xs_6 rfl dX3_row_29 ?_
    exact y_aret C hr hlk hP hD hS h (Nat.le_of_ble_eq_true rfl) (Nat.le_of_ble_eq_true rfl) dX3_row_32
  have h := ite_e c1 h
  by_cases c2 : (Int32.toInt p1) = 1
  ·
    have h := ite_t c2 h
    refine lv_tableIn (off := 32) (tgt := 33) hx hb dX3_row_1 (by omega) (by omega) (by rw [c2]; rfl) (by decide) ?_
    refine lv_aload_n hx hb dX3_row_33 rfl (lv_at hl 0 rfl) ?_
    refine x_getr (Or.inl fl_X3_15) C hP (by decide) xs_6 rfl dX3_row_34 ?_
    exact y_aret C hr hlk hP hD hS h (Nat.le_of_ble_eq_true rfl) (Nat.le_of_ble_eq_true rfl) dX3_row_37
  have h := ite_e c2 h
  by_cases c3 : (Int32.toInt p1) = 2
  ·
    have h := ite_t c3 h
    refine lv_tableIn (off := 37) (tgt := 38) hx hb dX3_row_1 (by omega) (by omega) (by rw [c3]; rfl) (by decide) ?_
    refine lv_aload_n hx hb dX3_row_38 rfl (lv_at hl 0 rfl) ?_
    refine x_getr (Or.inl fl_X3_18) C hP (by decide) xs_6 rfl dX3_row_39 ?_
    exact y_aret C hr hlk hP hD hS h (Nat.le_of_ble_eq_true rfl) (Nat.le_of_ble_eq_true rfl) dX3_row_42
  have h := ite_e c3 h
  refine lv_tableOut (tgt := 43) hx hb dX3_row_1 (by omega) (by decide) ?_
  refine lv_aload_n hx hb dX3_row_43 rfl (lv_at hl 0 rfl) ?_
  refine x_getr (Or.inl fl_X3_21) C hP (by decide) xs_6 rfl dX3_row_44 ?_
  exact y_aret C hr hlk hP hD hS h (Nat.le_of_ble_eq_true rfl) (Nat.le_of_ble_eq_true rfl) dX3_row_47
def fX3_put_6 (fu : Nat) (p1 : Int32) (p2 : Int32) (p3 : Int32) (g : Nat → Nat → Int32) (L : Nat → Nat → Int64) : Option ((Unit) × zS) :=
  cb (fX3_row_6 fu p1 g L) (fun x1 g2 L3 => ckr x1 (
  ck p2 12 (sti g2 x1 (Int32.toNatClampNeg p2) p3 (fun g5 =>
  some ((), (g5, L3))))))
set_option maxHeartbeats 4000000 in
set_option maxRecDepth 100000 in
theorem rX3_put_6 (l : Launch) (G : kG) (sz : Nat) (b : Nat) (a : Nat → Nat) (fu : Nat) (g : Nat → Nat → Int32) (L : Nat → Nat → Int64) (p1 : Int32) (p2 : Int32) (p3 : Int32) (res : Unit) (s9 : zS) (h : fX3_put_6 fu p1 p2 p3 g L = some (res, s9)) : kM l yX3_put cX3_put 4 none { frames := 7, cells := 0, slots := 0, locals := 131 } G [.ref (a 6), .int p1, .int p2, .int p3] (zw G (XS b) 105 a g L) sz (kQv G (S := Unit) (fun _ => True) (fun _ => zw G (XS b) 105 a s9.1 s9.2)) := by
  refine kM.of (by decide) (Nat.le_of_ble_eq_true rfl) ?_
  intro p e s m below meth c A ls H C hr hlk hnm hP hD hS hl
  have C : kC G p s m c cX3_put 4 RX3 A := C
  have hx := C.1
  have hb := C.2.1
  have hl : lv_has ls 4 [(0, .ref (a 6)), (1, .int p1), (2, .int p2), (3, .int p3)] := hl
  obtain ⟨locs, hlocs⟩ : ∃ q : List Loc, q = [] := ⟨_, rfl⟩
  rw [← hlocs] at hS
  rw [← hlocs]
  unfold fX3_put_6 at h
  refine lv_aload_n hx hb dX3_put_0 rfl (lv_at hl 0 rfl) ?_
  refine lv_iload_n hx hb dX3_put_1 rfl (lv_at hl 1 rfl) ?_
  obtain ⟨z_, g2, L3, hf4, h⟩ := cb_some h
  refine x_callVr (rest := []) li_X3_78 C (rX3_row_6 l G H.size b a fu g L p1 z_ (g2, L3) hf4) (kR rfl) hP hD hS 6 3 rfl (zat (by decide) xs_6) rfl hl.1 rfl (Nat.le_of_ble_eq_true rfl) dX3_put_2 (fun u_ H locs e_ hP hD hS => ?_)
  have hP : va_P G.1 vwCl (zw G (XS b) 105 a g2 L3) H := hP
  have hD : va_D A (zw G (XS b) 105 a g2 L3) := hD
  obtain ⟨x1, ex_⟩ : ∃ q : Nat, q = z_ := ⟨_, rfl⟩
  subst ex_
  obtain ⟨x1l, x1h, h⟩ := ckr_some h
  refine lv_iload_n hx hb dX3_put_5 rfl (lv_at hl 2 rfl) ?_
  refine lv_iload_n hx hb dX3_put_6 rfl (lv_at hl 3 rfl) ?_
  refine y_ast C hP hD hS (by omega) (xs_row (by omega) (by omega)) dX3_put_7 h (fun g5 H locs h hP hD hS => ?_)
  exact y_vret C hr hlk hP hD hS h (Nat.le_of_ble_eq_true rfl) (Nat.le_of_ble_eq_true rfl) dX3_put_8
def fX3_takeBackAct_6_p80 (fu : Nat) (g : Nat → Nat → Int32) (L : Nat → Nat → Int64) : Option ((Int32) × zS) :=
  some ((g 6 9), (g, L))
def fX3_takeBackAct_6 (fu : Nat) (g : Nat → Nat → Int32) (L : Nat → Nat → Int64) : Option ((Int32) × zS) :=
  if 1 ≤ (g 6 9) then sti g 6 9 ((g 6 9) - 1) (fun g2 =>
  ck (g2 6 9) 40 (
  if (g2 29 (Int32.toNatClampNeg (g2 6 9))) = 4 then ck (g2 6 9) 40 (
  sti g2 6 11 (g2 31 (Int32.toNatClampNeg (g2 6 9))) (fun g8 =>
  fX3_takeBackAct_6_p80 fu g8 L))
  else ck (g2 6 9) 40 (
  ck (g2 6 9) 40 (
  ck (g2 6 9) 40 (
  cb (fX3_put_6 fu (g2 29 (Int32.toNatClampNeg (g2 6 9))) (g2 30 (Int32.toNatClampNeg (g2 6 9))) (g2 31 (Int32.toNatClampNeg (g2 6 9))) g2 L) (fun x4 g5 L6 =>
  fX3_takeBackAct_6_p80 fu g5 L6))))))
  else some ((-1), (g, L))
set_option maxHeartbeats 4000000 in
set_option maxRecDepth 100000 in
theorem rX3_takeBackAct_6 (l : Launch) (G : kG) (sz : Nat) (b : Nat) (a : Nat → Nat) (fu : Nat) (g : Nat → Nat → Int32) (L : Nat → Nat → Int64) (res : Int32) (s9 : zS) (h : fX3_takeBackAct_6 fu g L = some (res, s9)) : kM l yX3_takeBackAct cX3_takeBackAct 1 (some .int) { frames := 8, cells := 0, slots := 0, locals := 154 } G [.ref (a 6)] (zw G (XS b) 105 a g L) sz (kQi G (S := Unit) (fun r' _ => r' = res) (fun _ => zw G (XS b) 105 a s9.1 s9.2)) := by
  refine kM.of (by decide) (Nat.le_of_ble_eq_true rfl) ?_
  intro p e s m below meth c A ls H C hr hlk hnm hP hD hS hl
  have C : kC G p s m c cX3_takeBackAct 1 RX3 A := C
  have hx := C.1
  have hb := C.2.1
  have hl : lv_has ls 1 [(0, .ref (a 6))] := hl
  obtain ⟨locs, hlocs⟩ : ∃ q : List Loc, q = [] := ⟨_, rfl⟩
  rw [← hlocs] at hS
  rw [← hlocs]
  unfold fX3_takeBackAct_6 at h
  refine lv_aload_n hx hb dX3_takeBackAct_0 rfl (lv_at hl 0 rfl) ?_
  refine x_getv (v := .int (g 6 9)) (Or.inl fl_X3_39) C hP (by decide) xs_6 rfl dX3_takeBackAct_1 ?_
  refine lv_iconst (v := 1) hx hb dX3_takeBackAct_4 (by decide) ?_
  refine lv_icmp_ge (x := (g 6 9)) (y := 1) (tgt := 10) hx hb dX3_takeBackAct_5 (by decide) (fun c1 => ?_) (fun c1 => ?_)
  ·
    have h := ite_t c1 h
    refine lv_aload_n hx hb dX3_takeBackAct_10 rfl (lv_at hl 0 rfl) ?_
    refine lv_dup hx hb dX3_takeBackAct_11 rfl ?_
    refine x_getv (v := .int (g 6 9)) (Or.inl fl_X3_39) C hP (by decide) xs_6 rfl dX3_takeBackAct_12 ?_
    refine lv_iconst (v := 1) hx hb dX3_takeBackAct_15 (by decide) ?_
    refine lv_isub hx hb dX3_takeBackAct_16 ?_
    refine y_puti (Or.inl fl_X3_39) ft_X3_9 C hP hD hS (by decide) xs_6 rfl rfl rfl dX3_takeBackAct_17 h (fun g2 H locs h hP hD hS => ?_)
    refine lv_aload_n hx hb dX3_takeBackAct_20 rfl (lv_at hl 0 rfl) ?_
    refine x_getr (Or.inl fl_X3_24) C hP (by decide) xs_6 rfl dX3_takeBackAct_21 ?_
    refine lv_aload_n hx hb dX3_takeBackAct_24 rfl (lv_at hl 0 rfl) ?_
    refine x_getv (v := .int (g2 6 9)) (Or.inl fl_X3_39) C hP (by decide) xs_6 rfl dX3_takeBackAct_25 ?_
    refine y_ald C hP (by decide) xs_29 dX3_takeBackAct_28 h (fun h => ?_)
    refine lv_iconst (v := 4) hx hb dX3_takeBackAct_29 (by decide) ?_
    have J80 : ∀ (g : Nat → Nat → Int32) (L : Nat → Nat → Int64) (H : Heap) (locs : List Loc) (ls : Array Slot), fX3_takeBackAct_6_p80 fu g L = some (res, s9) → va_P G.1 vwCl (zw G (XS b) 105 a g L) H → va_D A (zw G (XS b) 105 a g L) → va_S A s.heap H locs → lv_has ls 1 [(0, .ref (a 6))] → W p l e { frames := 8, cells := 0, slots := 0, locals := 154 } s m [.ref (a 6)].toArray below meth c H locs 0 0 (MQ below ((kQi G (S := Unit) (fun r' _ => r' = res) (fun _ => zw G (XS b) 105 a s9.1 s9.2)) A) [.ref (a 6)].toArray s 0 0 A) (F0 m 80 ls []) := by
      intro g L H locs ls h hP hD hS hl
      unfold fX3_takeBackAct_6_p80 at h
      refine lv_aload_n hx hb dX3_takeBackAct_80 rfl (lv_at hl 0 rfl) ?_
      refine x_getv (v := .int (g 6 9)) (Or.inl fl_X3_39) C hP (by decide) xs_6 rfl dX3_takeBackAct_81 ?_
      exact y_iret C hr hlk hP hD hS h (Nat.le_of_ble_eq_true rfl) (Nat.le_of_ble_eq_true rfl) dX3_takeBackAct_84
    refine lv_icmp_ne (x := (g2 29 (Int32.toNatClampNeg (g2 6 9)))) (y := 4) (tgt := 49) hx hb dX3_takeBackAct_30 (by decide) (fun c3 => ?_) (fun c3 => ?_)
    ·
      have h := ite_e c3 h
      refine lv_aload_n hx hb dX3_takeBackAct_49 rfl (lv_at hl 0 rfl) ?_
      refine lv_aload_n hx hb dX3_takeBackAct_50 rfl (lv_at hl 0 rfl) ?_
      refine x_getr (Or.inl fl_X3_24) C hP (by decide) xs_6 rfl dX3_takeBackAct_51 ?_
      refine lv_aload_n hx hb dX3_takeBackAct_54 rfl (lv_at hl 0 rfl) ?_
      refine x_getv (v := .int (g2 6 9)) (Or.inl fl_X3_39) C hP (by decide) xs_6 rfl dX3_takeBackAct_55 ?_
      refine y_ald C hP (by decide) xs_29 dX3_takeBackAct_58 h (fun h => ?_)
      refine lv_aload_n hx hb dX3_takeBackAct_59 rfl (lv_at hl 0 rfl) ?_
      refine x_getr (Or.inl fl_X3_27) C hP (by decide) xs_6 rfl dX3_takeBackAct_60 ?_
      refine lv_aload_n hx hb dX3_takeBackAct_63 rfl (lv_at hl 0 rfl) ?_
      refine x_getv (v := .int (g2 6 9)) (Or.inl fl_X3_39) C hP (by decide) xs_6 rfl dX3_takeBackAct_64 ?_
      refine y_ald C hP (by decide) xs_30 dX3_takeBackAct_67 h (fun h => ?_)
      refine lv_aload_n hx hb dX3_takeBackAct_68 rfl (lv_at hl 0 rfl) ?_
      refine x_getr (Or.inl fl_X3_30) C hP (by decide) xs_6 rfl dX3_takeBackAct_69 ?_
      refine lv_aload_n hx hb dX3_takeBackAct_72 rfl (lv_at hl 0 rfl) ?_
      refine x_getv (v := .int (g2 6 9)) (Or.inl fl_X3_39) C hP (by decide) xs_6 rfl dX3_takeBackAct_73 ?_
      refine y_ald C hP (by decide) xs_31 dX3_takeBackAct_76 h (fun h => ?_)
      obtain ⟨z_, g5, L6, hf7, h⟩ := cb_some h
      refine x_callVv (rest := []) li_X3_85 C (rX3_put_6 l G H.size b a fu g2 L (g2 29 (Int32.toNatClampNeg (g2 6 9))) (g2 30 (Int32.toNatClampNeg (g2 6 9))) (g2 31 (Int32.toNatClampNeg (g2 6 9))) z_ (g5, L6) hf7) (kR rfl) hP hD hS 6 3 rfl (zat (by decide) xs_6) rfl hl.1 rfl (Nat.le_of_ble_eq_true rfl) dX3_takeBackAct_77 (fun u_ H locs e_ hP hD hS => ?_)
      have hP : va_P G.1 vwCl (zw G (XS b) 105 a g5 L6) H := hP
      have hD : va_D A (zw G (XS b) 105 a g5 L6) := hD
      exact J80 g5 L6 H locs ls h hP hD hS (lv_sub hl [0] rfl)
    ·
      have h := ite_t c3 h
      refine lv_aload_n hx hb dX3_takeBackAct_33 rfl (lv_at hl 0 rfl) ?_
      refine lv_aload_n hx hb dX3_takeBackAct_34 rfl (lv_at hl 0 rfl) ?_
      refine x_getr (Or.inl fl_X3_30) C hP (by decide) xs_6 rfl dX3_takeBackAct_35 ?_
      refine lv_aload_n hx hb dX3_takeBackAct_38 rfl (lv_at hl 0 rfl) ?_
      refine x_getv (v := .int (g2 6 9)) (Or.inl fl_X3_39) C hP (by decide) xs_6 rfl dX3_takeBackAct_39 ?_
      refine y_ald C hP (by decide) xs_31 dX3_takeBackAct_42 h (fun h => ?_)
      refine y_puti (Or.inl fl_X3_46) ft_X3_11 C hP hD hS (by decide) xs_6 rfl rfl rfl dX3_takeBackAct_43 h (fun g8 H locs h hP hD hS => ?_)
      refine lv_goto (tgt := 80) hx hb dX3_takeBackAct_46 (by decide) ?_
      exact J80 g8 L H locs ls h hP hD hS (lv_sub hl [0] rfl)
  ·
    have h := ite_e c1 h
    refine lv_iconst (v := -1) hx hb dX3_takeBackAct_8 (by decide) ?_
    exact y_iret C hr hlk hP hD hS h (Nat.le_of_ble_eq_true rfl) (Nat.le_of_ble_eq_true rfl) dX3_takeBackAct_9
def fX3_copy_6_7 (fu : Nat) (g : Nat → Nat → Int32) (L : Nat → Nat → Int64) : Option ((Unit) × zS) :=
  stA g 25 (va_cpy (g 34) (g 25) (Int32.toNatClampNeg 0) (Int32.toNatClampNeg 0) (Int32.toNatClampNeg 12)) (fun g1 =>
  stA g1 26 (va_cpy (g1 35) (g1 26) (Int32.toNatClampNeg 0) (Int32.toNatClampNeg 0) (Int32.toNatClampNeg 12)) (fun g2 =>
  stA g2 27 (va_cpy (g2 36) (g2 27) (Int32.toNatClampNeg 0) (Int32.toNatClampNeg 0) (Int32.toNatClampNeg 12)) (fun g3 =>
  stA g3 28 (va_cpy (g3 37) (g3 28) (Int32.toNatClampNeg 0) (Int32.toNatClampNeg 0) (Int32.toNatClampNeg 12)) (fun g4 =>
  stA g4 29 (va_cpy (g4 38) (g4 29) (Int32.toNatClampNeg 0) (Int32.toNatClampNeg 0) (Int32.toNatClampNeg 40)) (fun g5 =>
  stA g5 30 (va_cpy (g5 39) (g5 30) (Int32.toNatClampNeg 0) (Int32.toNatClampNeg 0) (Int32.toNatClampNeg 40)) (fun g6 =>
  stA g6 31 (va_cpy (g6 40) (g6 31) (Int32.toNatClampNeg 0) (Int32.toNatClampNeg 0) (Int32.toNatClampNeg 40)) (fun g7 =>
  stA g7 32 (va_cpy (g7 41) (g7 32) (Int32.toNatClampNeg 0) (Int32.toNatClampNeg 0) (Int32.toNatClampNeg 8)) (fun g8 =>
  stA g8 33 (va_cpy (g8 42) (g8 33) (Int32.toNatClampNeg 0) (Int32.toNatClampNeg 0) (Int32.toNatClampNeg 8)) (fun g9 =>
  sti g9 6 9 (g9 7 9) (fun g10 =>
  sti g10 6 10 (g10 7 10) (fun g11 =>
  sti g11 6 11 (g11 7 11) (fun g12 =>
  some ((), (g12, L))))))))))))))
set_option maxHeartbeats 4000000 in
set_option maxRecDepth 100000 in
theorem rX3_copy_6_7 (l : Launch) (G : kG) (sz : Nat) (b : Nat) (a : Nat → Nat) (fu : Nat) (g : Nat → Nat → Int32) (L : Nat → Nat → Int64) (res : Unit) (s9 : zS) (h : fX3_copy_6_7 fu g L = some (res, s9)) : kM l yX3_copy cX3_copy 2 none { frames := 6, cells := 0, slots := 0, locals := 110 } G [.ref (a 6), .ref (a 7)] (zw G (XS b) 105 a g L) sz (kQv G (S := Unit) (fun _ => True) (fun _ => zw G (XS b) 105 a s9.1 s9.2)) := by
  refine kM.of (by decide) (Nat.le_of_ble_eq_true rfl) ?_
  intro p e s m below meth c A ls H C hr hlk hnm hP hD hS hl
  have C : kC G p s m c cX3_copy 2 RX3 A := C
  have hx := C.1
  have hb := C.2.1
  have hl : lv_has ls 2 [(0, .ref (a 6)), (1, .ref (a 7))] := hl
  obtain ⟨locs, hlocs⟩ : ∃ q : List Loc, q = [] := ⟨_, rfl⟩
  rw [← hlocs] at hS
  rw [← hlocs]
  unfold fX3_copy_6_7 at h
  refine lv_aload_n hx hb dX3_copy_0 rfl (lv_at hl 1 rfl) ?_
  refine x_getr (Or.inl fl_X3_9) C hP (by decide) xs_7 rfl dX3_copy_1 ?_
  refine lv_iconst (v := 0) hx hb dX3_copy_4 (by decide) ?_
  refine lv_aload_n hx hb dX3_copy_5 rfl (lv_at hl 0 rfl) ?_
  refine x_getr (Or.inl fl_X3_9) C hP (by decide) xs_6 rfl dX3_copy_6 ?_
  refine lv_iconst (v := 0) hx hb dX3_copy_9 (by decide) ?_
  refine lv_bipush (v := 12) hx hb dX3_copy_10 (by decide) ?_
  refine y_copy lc_X3_72 C hl.1 hP hD hS (by decide) (by decide) xs_34 xs_25 (by decide) (by decide) (by decide) (by decide) (by decide) (Nat.le_of_ble_eq_true rfl) (Nat.le_of_ble_eq_true rfl) dX3_copy_12 h (fun g1 H locs h hP hD hS => ?_)
  refine lv_aload_n hx hb dX3_copy_15 rfl (lv_at hl 1 rfl) ?_
  refine x_getr (Or.inl fl_X3_15) C hP (by decide) xs_7 rfl dX3_copy_16 ?_
  refine lv_iconst (v := 0) hx hb dX3_copy_19 (by decide) ?_
  refine lv_aload_n hx hb dX3_copy_20 rfl (lv_at hl 0 rfl) ?_
  refine x_getr (Or.inl fl_X3_15) C hP (by decide) xs_6 rfl dX3_copy_21 ?_
  refine lv_iconst (v := 0) hx hb dX3_copy_24 (by decide) ?_
  refine lv_bipush (v := 12) hx hb dX3_copy_25 (by decide) ?_
  refine y_copy lc_X3_72 C hl.1 hP hD hS (by decide) (by decide) xs_35 xs_26 (by decide) (by decide) (by decide) (by decide) (by decide) (Nat.le_of_ble_eq_true rfl) (Nat.le_of_ble_eq_true rfl) dX3_copy_27 h (fun g2 H locs h hP hD hS => ?_)
  refine lv_aload_n hx hb dX3_copy_30 rfl (lv_at hl 1 rfl) ?_
  refine x_getr (Or.inl fl_X3_18) C hP (by decide) xs_7 rfl dX3_copy_31 ?_
  refine lv_iconst (v := 0) hx hb dX3_copy_34 (by decide) ?_
  refine lv_aload_n hx hb dX3_copy_35 rfl (lv_at hl 0 rfl) ?_
  refine x_getr (Or.inl fl_X3_18) C hP (by decide) xs_6 rfl dX3_copy_36 ?_
  refine lv_iconst (v := 0) hx hb dX3_copy_39 (by decide) ?_
  refine lv_bipush (v := 12) hx hb dX3_copy_40 (by decide) ?_
  refine y_copy lc_X3_72 C hl.1 hP hD hS (by decide) (by decide) xs_36 xs_27 (by decide) (by decide) (by decide) (by decide) (by decide) (Nat.le_of_ble_eq_true rfl) (Nat.le_of_ble_eq_true rfl) dX3_copy_42 h (fun g3 H locs h hP hD hS => ?_)
  refine lv_aload_n hx hb dX3_copy_45 rfl (lv_at hl 1 rfl) ?_
  refine x_getr (Or.inl fl_X3_21) C hP (by decide) xs_7 rfl dX3_copy_46 ?_
  refine lv_iconst (v := 0) hx hb dX3_copy_49 (by decide) ?_
  refine lv_aload_n hx hb dX3_copy_50 rfl (lv_at hl 0 rfl) ?_
  refine x_getr (Or.inl fl_X3_21) C hP (by decide) xs_6 rfl dX3_copy_51 ?_
  refine lv_iconst (v := 0) hx hb dX3_copy_54 (by decide) ?_
  refine lv_bipush (v := 12) hx hb dX3_copy_55 (by decide) ?_
  refine y_copy lc_X3_72 C hl.1 hP hD hS (by decide) (by decide) xs_37 xs_28 (by decide) (by decide) (by decide) (by decide) (by decide) (Nat.le_of_ble_eq_true rfl) (Nat.le_of_ble_eq_true rfl) dX3_copy_57 h (fun g4 H locs h hP hD hS => ?_)
  refine lv_aload_n hx hb dX3_copy_60 rfl (lv_at hl 1 rfl) ?_
  refine x_getr (Or.inl fl_X3_24) C hP (by decide) xs_7 rfl dX3_copy_61 ?_
  refine lv_iconst (v := 0) hx hb dX3_copy_64 (by decide) ?_
  refine lv_aload_n hx hb dX3_copy_65 rfl (lv_at hl 0 rfl) ?_
  refine x_getr (Or.inl fl_X3_24) C hP (by decide) xs_6 rfl dX3_copy_66 ?_
  refine lv_iconst (v := 0) hx hb dX3_copy_69 (by decide) ?_
  refine lv_bipush (v := 40) hx hb dX3_copy_70 (by decide) ?_
  refine y_copy lc_X3_72 C hl.1 hP hD hS (by decide) (by decide) xs_38 xs_29 (by decide) (by decide) (by decide) (by decide) (by decide) (Nat.le_of_ble_eq_true rfl) (Nat.le_of_ble_eq_true rfl) dX3_copy_72 h (fun g5 H locs h hP hD hS => ?_)
  refine lv_aload_n hx hb dX3_copy_75 rfl (lv_at hl 1 rfl) ?_
  refine x_getr (Or.inl fl_X3_27) C hP (by decide) xs_7 rfl dX3_copy_76 ?_
  refine lv_iconst (v := 0) hx hb dX3_copy_79 (by decide) ?_
  refine lv_aload_n hx hb dX3_copy_80 rfl (lv_at hl 0 rfl) ?_
  refine x_getr (Or.inl fl_X3_27) C hP (by decide) xs_6 rfl dX3_copy_81 ?_
  refine lv_iconst (v := 0) hx hb dX3_copy_84 (by decide) ?_
  refine lv_bipush (v := 40) hx hb dX3_copy_85 (by decide) ?_
  refine y_copy lc_X3_72 C hl.1 hP hD hS (by decide) (by decide) xs_39 xs_30 (by decide) (by decide) (by decide) (by decide) (by decide) (Nat.le_of_ble_eq_true rfl) (Nat.le_of_ble_eq_true rfl) dX3_copy_87 h (fun g6 H locs h hP hD hS => ?_)
  refine lv_aload_n hx hb dX3_copy_90 rfl (lv_at hl 1 rfl) ?_
  refine x_getr (Or.inl fl_X3_30) C hP (by decide) xs_7 rfl dX3_copy_91 ?_
  refine lv_iconst (v := 0) hx hb dX3_copy_94 (by decide) ?_
  refine lv_aload_n hx hb dX3_copy_95 rfl (lv_at hl 0 rfl) ?_
  refine x_getr (Or.inl fl_X3_30) C hP (by decide) xs_6 rfl dX3_copy_96 ?_
  refine lv_iconst (v := 0) hx hb dX3_copy_99 (by decide) ?_
  refine lv_bipush (v := 40) hx hb dX3_copy_100 (by decide) ?_
  refine y_copy lc_X3_72 C hl.1 hP hD hS (by decide) (by decide) xs_40 xs_31 (by decide) (by decide) (by decide) (by decide) (by decide) (Nat.le_of_ble_eq_true rfl) (Nat.le_of_ble_eq_true rfl) dX3_copy_102 h (fun g7 H locs h hP hD hS => ?_)
  refine lv_aload_n hx hb dX3_copy_105 rfl (lv_at hl 1 rfl) ?_
  refine x_getr (Or.inl fl_X3_33) C hP (by decide) xs_7 rfl dX3_copy_106 ?_
  refine lv_iconst (v := 0) hx hb dX3_copy_109 (by decide) ?_
  refine lv_aload_n hx hb dX3_copy_110 rfl (lv_at hl 0 rfl) ?_
  refine x_getr (Or.inl fl_X3_33) C hP (by decide) xs_6 rfl dX3_copy_111 ?_
  refine lv_iconst (v := 0) hx hb dX3_copy_114 (by decide) ?_
  refine lv_bipush (v := 8) hx hb dX3_copy_115 (by decide) ?_
  refine y_copy lc_X3_72 C hl.1 hP hD hS (by decide) (by decide) xs_41 xs_32 (by decide) (by decide) (by decide) (by decide) (by decide) (Nat.le_of_ble_eq_true rfl) (Nat.le_of_ble_eq_true rfl) dX3_copy_117 h (fun g8 H locs h hP hD hS => ?_)
  refine lv_aload_n hx hb dX3_copy_120 rfl (lv_at hl 1 rfl) ?_
  refine x_getr (Or.inl fl_X3_36) C hP (by decide) xs_7 rfl dX3_copy_121 ?_
  refine lv_iconst (v := 0) hx hb dX3_copy_124 (by decide) ?_
  refine lv_aload_n hx hb dX3_copy_125 rfl (lv_at hl 0 rfl) ?_
  refine x_getr (Or.inl fl_X3_36) C hP (by decide) xs_6 rfl dX3_copy_126 ?_
  refine lv_iconst (v := 0) hx hb dX3_copy_129 (by decide) ?_
  refine lv_bipush (v := 8) hx hb dX3_copy_130 (by decide) ?_
  refine y_copy lc_X3_72 C hl.1 hP hD hS (by decide) (by decide) xs_42 xs_33 (by decide) (by decide) (by decide) (by decide) (by decide) (Nat.le_of_ble_eq_true rfl) (Nat.le_of_ble_eq_true rfl) dX3_copy_132 h (fun g9 H locs h hP hD hS => ?_)
  refine lv_aload_n hx hb dX3_copy_135 rfl (lv_at hl 0 rfl) ?_
  refine lv_aload_n hx hb dX3_copy_136 rfl (lv_at hl 1 rfl) ?_
  refine x_getv (v := .int (g9 7 9)) (Or.inl fl_X3_39) C hP (by decide) xs_7 rfl dX3_copy_137 ?_
  refine y_puti (Or.inl fl_X3_39) ft_X3_9 C hP hD hS (by decide) xs_6 rfl rfl rfl dX3_copy_140 h (fun g10 H locs h hP hD hS => ?_)
  refine lv_aload_n hx hb dX3_copy_143 rfl (lv_at hl 0 rfl) ?_
  refine lv_aload_n hx hb dX3_copy_144 rfl (lv_at hl 1 rfl) ?_
  refine x_getv (v := .int (g10 7 10)) (Or.inl fl_X3_43) C hP (by decide) xs_7 rfl dX3_copy_145 ?_
  refine y_puti (Or.inl fl_X3_43) ft_X3_10 C hP hD hS (by decide) xs_6 rfl rfl rfl dX3_copy_148 h (fun g11 H locs h hP hD hS => ?_)
  refine lv_aload_n hx hb dX3_copy_151 rfl (lv_at hl 0 rfl) ?_
  refine lv_aload_n hx hb dX3_copy_152 rfl (lv_at hl 1 rfl) ?_
  refine x_getv (v := .int (g11 7 11)) (Or.inl fl_X3_46) C hP (by decide) xs_7 rfl dX3_copy_153 ?_
  refine y_puti (Or.inl fl_X3_46) ft_X3_11 C hP hD hS (by decide) xs_6 rfl rfl rfl dX3_copy_156 h (fun g12 H locs h hP hD hS => ?_)
  exact y_vret C hr hlk hP hD hS h (Nat.le_of_ble_eq_true rfl) (Nat.le_of_ble_eq_true rfl) dX3_copy_159
def fX3_copy_7_6 (fu : Nat) (g : Nat → Nat → Int32) (L : Nat → Nat → Int64) : Option ((Unit) × zS) :=
  stA g 34 (va_cpy (g 25) (g 34) (Int32.toNatClampNeg 0) (Int32.toNatClampNeg 0) (Int32.toNatClampNeg 12)) (fun g1 =>
  stA g1 35 (va_cpy (g1 26) (g1 35) (Int32.toNatClampNeg 0) (Int32.toNatClampNeg 0) (Int32.toNatClampNeg 12)) (fun g2 =>
  stA g2 36 (va_cpy (g2 27) (g2 36) (Int32.toNatClampNeg 0) (Int32.toNatClampNeg 0) (Int32.toNatClampNeg 12)) (fun g3 =>
  stA g3 37 (va_cpy (g3 28) (g3 37) (Int32.toNatClampNeg 0) (Int32.toNatClampNeg 0) (Int32.toNatClampNeg 12)) (fun g4 =>
  stA g4 38 (va_cpy (g4 29) (g4 38) (Int32.toNatClampNeg 0) (Int32.toNatClampNeg 0) (Int32.toNatClampNeg 40)) (fun g5 =>
  stA g5 39 (va_cpy (g5 30) (g5 39) (Int32.toNatClampNeg 0) (Int32.toNatClampNeg 0) (Int32.toNatClampNeg 40)) (fun g6 =>
  stA g6 40 (va_cpy (g6 31) (g6 40) (Int32.toNatClampNeg 0) (Int32.toNatClampNeg 0) (Int32.toNatClampNeg 40)) (fun g7 =>
  stA g7 41 (va_cpy (g7 32) (g7 41) (Int32.toNatClampNeg 0) (Int32.toNatClampNeg 0) (Int32.toNatClampNeg 8)) (fun g8 =>
  stA g8 42 (va_cpy (g8 33) (g8 42) (Int32.toNatClampNeg 0) (Int32.toNatClampNeg 0) (Int32.toNatClampNeg 8)) (fun g9 =>
  sti g9 7 9 (g9 6 9) (fun g10 =>
  sti g10 7 10 (g10 6 10) (fun g11 =>
  sti g11 7 11 (g11 6 11) (fun g12 =>
  some ((), (g12, L))))))))))))))
set_option maxHeartbeats 4000000 in
set_option maxRecDepth 100000 in
theorem rX3_copy_7_6 (l : Launch) (G : kG) (sz : Nat) (b : Nat) (a : Nat → Nat) (fu : Nat) (g : Nat → Nat → Int32) (L : Nat → Nat → Int64) (res : Unit) (s9 : zS) (h : fX3_copy_7_6 fu g L = some (res, s9)) : kM l yX3_copy cX3_copy 2 none { frames := 6, cells := 0, slots := 0, locals := 110 } G [.ref (a 7), .ref (a 6)] (zw G (XS b) 105 a g L) sz (kQv G (S := Unit) (fun _ => True) (fun _ => zw G (XS b) 105 a s9.1 s9.2)) := by
  refine kM.of (by decide) (Nat.le_of_ble_eq_true rfl) ?_
  intro p e s m below meth c A ls H C hr hlk hnm hP hD hS hl
  have C : kC G p s m c cX3_copy 2 RX3 A := C
  have hx := C.1
  have hb := C.2.1
  have hl : lv_has ls 2 [(0, .ref (a 7)), (1, .ref (a 6))] := hl
  obtain ⟨locs, hlocs⟩ : ∃ q : List Loc, q = [] := ⟨_, rfl⟩
  rw [← hlocs] at hS
  rw [← hlocs]
  unfold fX3_copy_7_6 at h
  refine lv_aload_n hx hb dX3_copy_0 rfl (lv_at hl 1 rfl) ?_
  refine x_getr (Or.inl fl_X3_9) C hP (by decide) xs_6 rfl dX3_copy_1 ?_
  refine lv_iconst (v := 0) hx hb dX3_copy_4 (by decide) ?_
  refine lv_aload_n hx hb dX3_copy_5 rfl (lv_at hl 0 rfl) ?_
  refine x_getr (Or.inl fl_X3_9) C hP (by decide) xs_7 rfl dX3_copy_6 ?_
  refine lv_iconst (v := 0) hx hb dX3_copy_9 (by decide) ?_
  refine lv_bipush (v := 12) hx hb dX3_copy_10 (by decide) ?_
  refine y_copy lc_X3_72 C hl.1 hP hD hS (by decide) (by decide) xs_25 xs_34 (by decide) (by decide) (by decide) (by decide) (by decide) (Nat.le_of_ble_eq_true rfl) (Nat.le_of_ble_eq_true rfl) dX3_copy_12 h (fun g1 H locs h hP hD hS => ?_)
  refine lv_aload_n hx hb dX3_copy_15 rfl (lv_at hl 1 rfl) ?_
  refine x_getr (Or.inl fl_X3_15) C hP (by decide) xs_6 rfl dX3_copy_16 ?_
  refine lv_iconst (v := 0) hx hb dX3_copy_19 (by decide) ?_
  refine lv_aload_n hx hb dX3_copy_20 rfl (lv_at hl 0 rfl) ?_
  refine x_getr (Or.inl fl_X3_15) C hP (by decide) xs_7 rfl dX3_copy_21 ?_
  refine lv_iconst (v := 0) hx hb dX3_copy_24 (by decide) ?_
  refine lv_bipush (v := 12) hx hb dX3_copy_25 (by decide) ?_
  refine y_copy lc_X3_72 C hl.1 hP hD hS (by decide) (by decide) xs_26 xs_35 (by decide) (by decide) (by decide) (by decide) (by decide) (Nat.le_of_ble_eq_true rfl) (Nat.le_of_ble_eq_true rfl) dX3_copy_27 h (fun g2 H locs h hP hD hS => ?_)
  refine lv_aload_n hx hb dX3_copy_30 rfl (lv_at hl 1 rfl) ?_
  refine x_getr (Or.inl fl_X3_18) C hP (by decide) xs_6 rfl dX3_copy_31 ?_
  refine lv_iconst (v := 0) hx hb dX3_copy_34 (by decide) ?_
  refine lv_aload_n hx hb dX3_copy_35 rfl (lv_at hl 0 rfl) ?_
  refine x_getr (Or.inl fl_X3_18) C hP (by decide) xs_7 rfl dX3_copy_36 ?_
  refine lv_iconst (v := 0) hx hb dX3_copy_39 (by decide) ?_
  refine lv_bipush (v := 12) hx hb dX3_copy_40 (by decide) ?_
  refine y_copy lc_X3_72 C hl.1 hP hD hS (by decide) (by decide) xs_27 xs_36 (by decide) (by decide) (by decide) (by decide) (by decide) (Nat.le_of_ble_eq_true rfl) (Nat.le_of_ble_eq_true rfl) dX3_copy_42 h (fun g3 H locs h hP hD hS => ?_)
  refine lv_aload_n hx hb dX3_copy_45 rfl (lv_at hl 1 rfl) ?_
  refine x_getr (Or.inl fl_X3_21) C hP (by decide) xs_6 rfl dX3_copy_46 ?_
  refine lv_iconst (v := 0) hx hb dX3_copy_49 (by decide) ?_
  refine lv_aload_n hx hb dX3_copy_50 rfl (lv_at hl 0 rfl) ?_
  refine x_getr (Or.inl fl_X3_21) C hP (by decide) xs_7 rfl dX3_copy_51 ?_
  refine lv_iconst (v := 0) hx hb dX3_copy_54 (by decide) ?_
  refine lv_bipush (v := 12) hx hb dX3_copy_55 (by decide) ?_
  refine y_copy lc_X3_72 C hl.1 hP hD hS (by decide) (by decide) xs_28 xs_37 (by decide) (by decide) (by decide) (by decide) (by decide) (Nat.le_of_ble_eq_true rfl) (Nat.le_of_ble_eq_true rfl) dX3_copy_57 h (fun g4 H locs h hP hD hS => ?_)
  refine lv_aload_n hx hb dX3_copy_60 rfl (lv_at hl 1 rfl) ?_
  refine x_getr (Or.inl fl_X3_24) C hP (by decide) xs_6 rfl dX3_copy_61 ?_
  refine lv_iconst (v := 0) hx hb dX3_copy_64 (by decide) ?_
  refine lv_aload_n hx hb dX3_copy_65 rfl (lv_at hl 0 rfl) ?_
  refine x_getr (Or.inl fl_X3_24) C hP (by decide) xs_7 rfl dX3_copy_66 ?_
  refine lv_iconst (v := 0) hx hb dX3_copy_69 (by decide) ?_
  refine lv_bipush (v := 40) hx hb dX3_copy_70 (by decide) ?_
  refine y_copy lc_X3_72 C hl.1 hP hD hS (by decide) (by decide) xs_29 xs_38 (by decide) (by decide) (by decide) (by decide) (by decide) (Nat.le_of_ble_eq_true rfl) (Nat.le_of_ble_eq_true rfl) dX3_copy_72 h (fun g5 H locs h hP hD hS => ?_)
  refine lv_aload_n hx hb dX3_copy_75 rfl (lv_at hl 1 rfl) ?_
  refine x_getr (Or.inl fl_X3_27) C hP (by decide) xs_6 rfl dX3_copy_76 ?_
  refine lv_iconst (v := 0) hx hb dX3_copy_79 (by decide) ?_
  refine lv_aload_n hx hb dX3_copy_80 rfl (lv_at hl 0 rfl) ?_
  refine x_getr (Or.inl fl_X3_27) C hP (by decide) xs_7 rfl dX3_copy_81 ?_
  refine lv_iconst (v := 0) hx hb dX3_copy_84 (by decide) ?_
  refine lv_bipush (v := 40) hx hb dX3_copy_85 (by decide) ?_
  refine y_copy lc_X3_72 C hl.1 hP hD hS (by decide) (by decide) xs_30 xs_39 (by decide) (by decide) (by decide) (by decide) (by decide) (Nat.le_of_ble_eq_true rfl) (Nat.le_of_ble_eq_true rfl) dX3_copy_87 h (fun g6 H locs h hP hD hS => ?_)
  refine lv_aload_n hx hb dX3_copy_90 rfl (lv_at hl 1 rfl) ?_
  refine x_getr (Or.inl fl_X3_30) C hP (by decide) xs_6 rfl dX3_copy_91 ?_
  refine lv_iconst (v := 0) hx hb dX3_copy_94 (by decide) ?_
  refine lv_aload_n hx hb dX3_copy_95 rfl (lv_at hl 0 rfl) ?_
  refine x_getr (Or.inl fl_X3_30) C hP (by decide) xs_7 rfl dX3_copy_96 ?_
  refine lv_iconst (v := 0) hx hb dX3_copy_99 (by decide) ?_
  refine lv_bipush (v := 40) hx hb dX3_copy_100 (by decide) ?_
  refine y_copy lc_X3_72 C hl.1 hP hD hS (by decide) (by decide) xs_31 xs_40 (by decide) (by decide) (by decide) (by decide) (by decide) (Nat.le_of_ble_eq_true rfl) (Nat.le_of_ble_eq_true rfl) dX3_copy_102 h (fun g7 H locs h hP hD hS => ?_)
  refine lv_aload_n hx hb dX3_copy_105 rfl (lv_at hl 1 rfl) ?_
  refine x_getr (Or.inl fl_X3_33) C hP (by decide) xs_6 rfl dX3_copy_106 ?_
  refine lv_iconst (v := 0) hx hb dX3_copy_109 (by decide) ?_
  refine lv_aload_n hx hb dX3_copy_110 rfl (lv_at hl 0 rfl) ?_
  refine x_getr (Or.inl fl_X3_33) C hP (by decide) xs_7 rfl dX3_copy_111 ?_
  refine lv_iconst (v := 0) hx hb dX3_copy_114 (by decide) ?_
  refine lv_bipush (v := 8) hx hb dX3_copy_115 (by decide) ?_
  refine y_copy lc_X3_72 C hl.1 hP hD hS (by decide) (by decide) xs_32 xs_41 (by decide) (by decide) (by decide) (by decide) (by decide) (Nat.le_of_ble_eq_true rfl) (Nat.le_of_ble_eq_true rfl) dX3_copy_117 h (fun g8 H locs h hP hD hS => ?_)
  refine lv_aload_n hx hb dX3_copy_120 rfl (lv_at hl 1 rfl) ?_
  refine x_getr (Or.inl fl_X3_36) C hP (by decide) xs_6 rfl dX3_copy_121 ?_
  refine lv_iconst (v := 0) hx hb dX3_copy_124 (by decide) ?_
  refine lv_aload_n hx hb dX3_copy_125 rfl (lv_at hl 0 rfl) ?_
  refine x_getr (Or.inl fl_X3_36) C hP (by decide) xs_7 rfl dX3_copy_126 ?_
  refine lv_iconst (v := 0) hx hb dX3_copy_129 (by decide) ?_
  refine lv_bipush (v := 8) hx hb dX3_copy_130 (by decide) ?_
  refine y_copy lc_X3_72 C hl.1 hP hD hS (by decide) (by decide) xs_33 xs_42 (by decide) (by decide) (by decide) (by decide) (by decide) (Nat.le_of_ble_eq_true rfl) (Nat.le_of_ble_eq_true rfl) dX3_copy_132 h (fun g9 H locs h hP hD hS => ?_)
  refine lv_aload_n hx hb dX3_copy_135 rfl (lv_at hl 0 rfl) ?_
  refine lv_aload_n hx hb dX3_copy_136 rfl (lv_at hl 1 rfl) ?_
  refine x_getv (v := .int (g9 6 9)) (Or.inl fl_X3_39) C hP (by decide) xs_6 rfl dX3_copy_137 ?_
  refine y_puti (Or.inl fl_X3_39) ft_X3_9 C hP hD hS (by decide) xs_7 rfl rfl rfl dX3_copy_140 h (fun g10 H locs h hP hD hS => ?_)
  refine lv_aload_n hx hb dX3_copy_143 rfl (lv_at hl 0 rfl) ?_
  refine lv_aload_n hx hb dX3_copy_144 rfl (lv_at hl 1 rfl) ?_
  refine x_getv (v := .int (g10 6 10)) (Or.inl fl_X3_43) C hP (by decide) xs_6 rfl dX3_copy_145 ?_
  refine y_puti (Or.inl fl_X3_43) ft_X3_10 C hP hD hS (by decide) xs_7 rfl rfl rfl dX3_copy_148 h (fun g11 H locs h hP hD hS => ?_)
  refine lv_aload_n hx hb dX3_copy_151 rfl (lv_at hl 0 rfl) ?_
  refine lv_aload_n hx hb dX3_copy_152 rfl (lv_at hl 1 rfl) ?_
  refine x_getv (v := .int (g11 6 11)) (Or.inl fl_X3_46) C hP (by decide) xs_6 rfl dX3_copy_153 ?_
  refine y_puti (Or.inl fl_X3_46) ft_X3_11 C hP hD hS (by decide) xs_7 rfl rfl rfl dX3_copy_156 h (fun g12 H locs h hP hD hS => ?_)
  exact y_vret C hr hlk hP hD hS h (Nat.le_of_ble_eq_true rfl) (Nat.le_of_ble_eq_true rfl) dX3_copy_159
def fX3_keepSeen_6_p39 (fu : Nat) (g : Nat → Nat → Int32) (L : Nat → Nat → Int64) : Option ((Unit) × zS) :=
  some ((), (g, L))
def fX3_keepSeen_6 (fu : Nat) (p1 : Int32) (p2 : Int32) (g : Nat → Nat → Int32) (L : Nat → Nat → Int64) : Option ((Unit) × zS) :=
  if 8 ≤ (g 6 10) then fX3_keepSeen_6_p39 fu g L
  else ck (g 6 10) 8 (sti g 32 (Int32.toNatClampNeg (g 6 10)) p1 (fun g2 =>
  ck (g2 6 10) 8 (sti g2 33 (Int32.toNatClampNeg (g2 6 10)) p2 (fun g3 =>
  sti g3 6 10 ((g3 6 10) + 1) (fun g4 =>
  fX3_keepSeen_6_p39 fu g4 L)))))
set_option maxHeartbeats 4000000 in
set_option maxRecDepth 100000 in
theorem rX3_keepSeen_6 (l : Launch) (G : kG) (sz : Nat) (b : Nat) (a : Nat → Nat) (fu : Nat) (g : Nat → Nat → Int32) (L : Nat → Nat → Int64) (p1 : Int32) (p2 : Int32) (res : Unit) (s9 : zS) (h : fX3_keepSeen_6 fu p1 p2 g L = some (res, s9)) : kM l yX3_keepSeen cX3_keepSeen 3 none { frames := 6, cells := 0, slots := 0, locals := 110 } G [.ref (a 6), .int p1, .int p2] (zw G (XS b) 105 a g L) sz (kQv G (S := Unit) (fun _ => True) (fun _ => zw G (XS b) 105 a s9.1 s9.2)) := by
  refine kM.of (by decide) (Nat.le_of_ble_eq_true rfl) ?_
  intro p e s m below meth c A ls H C hr hlk hnm hP hD hS hl
  have C : kC G p s m c cX3_keepSeen 3 RX3 A := C
  have hx := C.1
  have hb := C.2.1
  have hl : lv_has ls 3 [(0, .ref (a 6)), (1, .int p1), (2, .int p2)] := hl
  obtain ⟨locs, hlocs⟩ : ∃ q : List Loc, q = [] := ⟨_, rfl⟩
  rw [← hlocs] at hS
  rw [← hlocs]
  unfold fX3_keepSeen_6 at h
  refine lv_aload_n hx hb dX3_keepSeen_0 rfl (lv_at hl 0 rfl) ?_
  refine x_getv (v := .int (g 6 10)) (Or.inl fl_X3_43) C hP (by decide) xs_6 rfl dX3_keepSeen_1 ?_
  refine lv_bipush (v := 8) hx hb dX3_keepSeen_4 (by decide) ?_
  have J39 : ∀ (g : Nat → Nat → Int32) (L : Nat → Nat → Int64) (H : Heap) (locs : List Loc) (ls : Array Slot), fX3_keepSeen_6_p39 fu g L = some (res, s9) → va_P G.1 vwCl (zw G (XS b) 105 a g L) H → va_D A (zw G (XS b) 105 a g L) → va_S A s.heap H locs → lv_has ls 3 [] → W p l e { frames := 6, cells := 0, slots := 0, locals := 110 } s m [.ref (a 6), .int p1, .int p2].toArray below meth c H locs 0 0 (MQ below ((kQv G (S := Unit) (fun _ => True) (fun _ => zw G (XS b) 105 a s9.1 s9.2)) A) [.ref (a 6), .int p1, .int p2].toArray s 0 0 A) (F0 m 39 ls []) := by
    intro g L H locs ls h hP hD hS hl
    unfold fX3_keepSeen_6_p39 at h
    exact y_vret C hr hlk hP hD hS h (Nat.le_of_ble_eq_true rfl) (Nat.le_of_ble_eq_true rfl) dX3_keepSeen_39
  refine lv_icmp_ge (x := (g 6 10)) (y := 8) (tgt := 39) hx hb dX3_keepSeen_6 (by decide) (fun c1 => ?_) (fun c1 => ?_)
  ·
    have h := ite_t c1 h
    exact J39 g L H locs ls h hP hD hS (lv_sub hl [] rfl)
  ·
    have h := ite_e c1 h
    refine lv_aload_n hx hb dX3_keepSeen_9 rfl (lv_at hl 0 rfl) ?_
    refine x_getr (Or.inl fl_X3_33) C hP (by decide) xs_6 rfl dX3_keepSeen_10 ?_
    refine lv_aload_n hx hb dX3_keepSeen_13 rfl (lv_at hl 0 rfl) ?_
    refine x_getv (v := .int (g 6 10)) (Or.inl fl_X3_43) C hP (by decide) xs_6 rfl dX3_keepSeen_14 ?_
    refine lv_iload_n hx hb dX3_keepSeen_17 rfl (lv_at hl 1 rfl) ?_
    refine y_ast C hP hD hS (by decide) xs_32 dX3_keepSeen_18 h (fun g2 H locs h hP hD hS => ?_)
    refine lv_aload_n hx hb dX3_keepSeen_19 rfl (lv_at hl 0 rfl) ?_
    refine x_getr (Or.inl fl_X3_36) C hP (by decide) xs_6 rfl dX3_keepSeen_20 ?_
    refine lv_aload_n hx hb dX3_keepSeen_23 rfl (lv_at hl 0 rfl) ?_
    refine x_getv (v := .int (g2 6 10)) (Or.inl fl_X3_43) C hP (by decide) xs_6 rfl dX3_keepSeen_24 ?_
    refine lv_iload_n hx hb dX3_keepSeen_27 rfl (lv_at hl 2 rfl) ?_
    refine y_ast C hP hD hS (by decide) xs_33 dX3_keepSeen_28 h (fun g3 H locs h hP hD hS => ?_)
    refine lv_aload_n hx hb dX3_keepSeen_29 rfl (lv_at hl 0 rfl) ?_
    refine lv_dup hx hb dX3_keepSeen_30 rfl ?_
    refine x_getv (v := .int (g3 6 10)) (Or.inl fl_X3_43) C hP (by decide) xs_6 rfl dX3_keepSeen_31 ?_
    refine lv_iconst (v := 1) hx hb dX3_keepSeen_34 (by decide) ?_
    refine lv_iadd hx hb dX3_keepSeen_35 ?_
    refine y_puti (Or.inl fl_X3_43) ft_X3_10 C hP hD hS (by decide) xs_6 rfl rfl rfl dX3_keepSeen_36 h (fun g4 H locs h hP hD hS => ?_)
    exact J39 g4 L H locs ls h hP hD hS (lv_sub hl [] rfl)
def fX3_value_6 (fu : Nat) (p1 : Int32) (p2 : Int32) (g : Nat → Nat → Int32) (L : Nat → Nat → Int64) : Option ((Int32) × zS) :=
  cb (fX3_row_6 fu p1 g L) (fun x1 g2 L3 => ckr x1 (
  ck p2 12 (
  some ((g2 x1 (Int32.toNatClampNeg p2)), (g2, L3)))))
set_option maxHeartbeats 4000000 in
set_option maxRecDepth 100000 in
theorem rX3_value_6 (l : Launch) (G : kG) (sz : Nat) (b : Nat) (a : Nat → Nat) (fu : Nat) (g : Nat → Nat → Int32) (L : Nat → Nat → Int64) (p1 : Int32) (p2 : Int32) (res : Int32) (s9 : zS) (h : fX3_value_6 fu p1 p2 g L = some (res, s9)) : kM l yX3_value cX3_value 3 (some .int) { frames := 7, cells := 0, slots := 0, locals := 131 } G [.ref (a 6), .int p1, .int p2] (zw G (XS b) 105 a g L) sz (kQi G (S := Unit) (fun r' _ => r' = res) (fun _ => zw G (XS b) 105 a s9.1 s9.2)) := by
  refine kM.of (by decide) (Nat.le_of_ble_eq_true rfl) ?_
  intro p e s m below meth c A ls H C hr hlk hnm hP hD hS hl
  have C : kC G p s m c cX3_value 3 RX3 A := C
  have hx := C.1
  have hb := C.2.1
  have hl : lv_has ls 3 [(0, .ref (a 6)), (1, .int p1), (2, .int p2)] := hl
  obtain ⟨locs, hlocs⟩ : ∃ q : List Loc, q = [] := ⟨_, rfl⟩
  rw [← hlocs] at hS
  rw [← hlocs]
  unfold fX3_value_6 at h
  refine lv_aload_n hx hb dX3_value_0 rfl (lv_at hl 0 rfl) ?_
  refine lv_iload_n hx hb dX3_value_1 rfl (lv_at hl 1 rfl) ?_
  obtain ⟨z_, g2, L3, hf4, h⟩ := cb_some h
  refine x_callVr (rest := []) li_X3_78 C (rX3_row_6 l G H.size b a fu g L p1 z_ (g2, L3) hf4) (kR rfl) hP hD hS 6 3 rfl (zat (by decide) xs_6) rfl hl.1 rfl (Nat.le_of_ble_eq_true rfl) dX3_value_2 (fun u_ H locs e_ hP hD hS => ?_)
  have hP : va_P G.1 vwCl (zw G (XS b) 105 a g2 L3) H := hP
  have hD : va_D A (zw G (XS b) 105 a g2 L3) := hD
  obtain ⟨x1, ex_⟩ : ∃ q : Nat, q = z_ := ⟨_, rfl⟩
  subst ex_
  obtain ⟨x1l, x1h, h⟩ := ckr_some h
  refine lv_iload_n hx hb dX3_value_5 rfl (lv_at hl 2 rfl) ?_
  refine y_ald C hP (by omega) (xs_row (by omega) (by omega)) dX3_value_6 h (fun h => ?_)
  exact y_iret C hr hlk hP hD hS h (Nat.le_of_ble_eq_true rfl) (Nat.le_of_ble_eq_true rfl) dX3_value_7
def fX3_start_6_1_s2 (fu : Nat) (k2 : Int32 × (Nat → Nat → Int32) × (Nat → Nat → Int64) → Option ((Unit) × zS)) (v2 : Int32) (g : Nat → Nat → Int32) (L : Nat → Nat → Int64) : Option ((Unit) × zS) :=
  if (g 1 2) ≤ v2 then sti g 6 9 0 (fun g2 =>
  sti g2 6 10 0 (fun g3 =>
  sti g3 6 11 (-1) (fun g4 =>
  some ((), (g4, L)))))
  else ck v2 12 (ltn (57 + (Int32.toNatClampNeg v2) % 12) (fun q5 =>
  ck v2 12 (sti g 25 (Int32.toNatClampNeg v2) (g q5 6) (fun g6 =>
  ck v2 12 (sti g6 26 (Int32.toNatClampNeg v2) (g6 q5 13) (fun g7 =>
  ck v2 12 (sti g7 27 (Int32.toNatClampNeg v2) (g7 q5 7) (fun g8 =>
  ck v2 12 (sti g8 28 (Int32.toNatClampNeg v2) (g8 q5 11) (fun g9 =>
  k2 ((v2 + 1), g9, L)))))))))))
def fX3_start_6_1_l2 (fu : Nat) (v2 : Int32) (g : Nat → Nat → Int32) (L : Nat → Nat → Int64) : Option ((Unit) × zS) :=
  whileK (fun k v => fX3_start_6_1_s2 fu k v.1 v.2.1 v.2.2) fu (v2, g, L)
def fX3_start_6_1 (fu : Nat) (g : Nat → Nat → Int32) (L : Nat → Nat → Int64) : Option ((Unit) × zS) :=
  fX3_start_6_1_l2 fu 0 g L
set_option maxHeartbeats 4000000 in
set_option maxRecDepth 100000 in
theorem rX3_start_6_1 (l : Launch) (G : kG) (sz : Nat) (b : Nat) (a : Nat → Nat) (fu : Nat) (g : Nat → Nat → Int32) (L : Nat → Nat → Int64) (res : Unit) (s9 : zS) (h : fX3_start_6_1 fu g L = some (res, s9)) : kM l yX3_start cX3_start 4 none { frames := 6, cells := 0, slots := 0, locals := 110 } G [.ref (a 6), .ref (a 1)] (zw G (XS b) 105 a g L) sz (kQv G (S := Unit) (fun _ => True) (fun _ => zw G (XS b) 105 a s9.1 s9.2)) := by
  refine kM.of (by decide) (Nat.le_of_ble_eq_true rfl) ?_
  intro p e s m below meth c A ls H C hr hlk hnm hP hD hS hl
  have C : kC G p s m c cX3_start 4 RX3 A := C
  have hx := C.1
  have hb := C.2.1
  have hl : lv_has ls 4 [(0, .ref (a 6)), (1, .ref (a 1))] := hl
  obtain ⟨locs, hlocs⟩ : ∃ q : List Loc, q = [] := ⟨_, rfl⟩
  rw [← hlocs] at hS
  rw [← hlocs]
  unfold fX3_start_6_1 at h
  refine lv_iconst (v := 0) hx hb dX3_start_0 (by decide) ?_
  refine lv_istore_n (lv' := [(2, .int 0), (0, .ref (a 6)), (1, .ref (a 1))]) hx hb dX3_start_1 rfl hl (by decide) rfl (fun ls hl => ?_)
  have lp2 : ∀ (_ : True), ∀ (n : Nat) (v : Int32 × (Nat → Nat → Int32) × (Nat → Nat → Int64)), whileK (fun k v => fX3_start_6_1_s2 fu k v.1 v.2.1 v.2.2) n v = some (res, s9) → ∀ (H : Heap) (locs : List Loc) (ls : Array Slot), va_P G.1 vwCl (zw G (XS b) 105 a (v.2.1) (v.2.2)) H → va_D A (zw G (XS b) 105 a (v.2.1) (v.2.2)) → va_S A s.heap H locs → lv_has ls 4 [(0, .ref (a 6)), (1, .ref (a 1)), (2, .int (v.1))] → W p l e { frames := 6, cells := 0, slots := 0, locals := 110 } s m [.ref (a 6), .ref (a 1)].toArray below meth c H locs 0 0 (MQ below ((kQv G (S := Unit) (fun _ => True) (fun _ => zw G (XS b) 105 a s9.1 s9.2)) A) [.ref (a 6), .ref (a 1)].toArray s 0 0 A) (F0 m 2 ls []) := by
    intro _
    refine while_ind (fun k2 ih2 v h => ?_)
    obtain ⟨v2, g, L⟩ := v
    intro H locs ls hP hD hS hl
    have h : fX3_start_6_1_s2 fu k2 v2 g L = some (res, s9) := h
    have hP : va_P G.1 vwCl (zw G (XS b) 105 a g L) H := hP
    have hD : va_D A (zw G (XS b) 105 a g L) := hD
    have hl : lv_has ls 4 [(0, .ref (a 6)), (1, .ref (a 1)), (2, .int v2)] := hl
    show W p l e { frames := 6, cells := 0, slots := 0, locals := 110 } s m [.ref (a 6), .ref (a 1)].toArray below meth c H locs 0 0 (MQ below ((kQv G (S := Unit) (fun _ => True) (fun _ => zw G (XS b) 105 a s9.1 s9.2)) A) [.ref (a 6), .ref (a 1)].toArray s 0 0 A) (F0 m 2 ls [])
    unfold fX3_start_6_1_s2 at h
    refine lv_iload_n hx hb dX3_start_2 rfl (lv_at hl 2 rfl) ?_
    refine lv_aload_n hx hb dX3_start_3 rfl (lv_at hl 1 rfl) ?_
    refine x_getv (v := .int (g 1 2)) (Or.inr fl_X3_49) C hP (by decide) xs_1 rfl dX3_start_4 ?_
    refine lv_icmp_ge (x := v2) (y := (g 1 2)) (tgt := 63) hx hb dX3_start_7 (by decide) (fun c1 => ?_) (fun c1 => ?_)
    ·
      have h := ite_t c1 h
      refine lv_aload_n hx hb dX3_start_63 rfl (lv_at hl 0 rfl) ?_
      refine lv_iconst (v := 0) hx hb dX3_start_64 (by decide) ?_
      refine y_puti (Or.inl fl_X3_39) ft_X3_9 C hP hD hS (by decide) xs_6 rfl rfl rfl dX3_start_65 h (fun g2 H locs h hP hD hS => ?_)
      refine lv_aload_n hx hb dX3_start_68 rfl (lv_at hl 0 rfl) ?_
      refine lv_iconst (v := 0) hx hb dX3_start_69 (by decide) ?_
      refine y_puti (Or.inl fl_X3_43) ft_X3_10 C hP hD hS (by decide) xs_6 rfl rfl rfl dX3_start_70 h (fun g3 H locs h hP hD hS => ?_)
      refine lv_aload_n hx hb dX3_start_73 rfl (lv_at hl 0 rfl) ?_
      refine lv_iconst (v := -1) hx hb dX3_start_74 (by decide) ?_
      refine y_puti (Or.inl fl_X3_46) ft_X3_11 C hP hD hS (by decide) xs_6 rfl rfl rfl dX3_start_75 h (fun g4 H locs h hP hD hS => ?_)
      exact y_vret C hr hlk hP hD hS h (Nat.le_of_ble_eq_true rfl) (Nat.le_of_ble_eq_true rfl) dX3_start_78
    ·
      have h := ite_e c1 h
      refine lv_aload_n hx hb dX3_start_10 rfl (lv_at hl 1 rfl) ?_
      refine x_getr (Or.inr fl_X3_54) C hP (by decide) xs_1 rfl dX3_start_11 ?_
      refine lv_iload_n hx hb dX3_start_14 rfl (lv_at hl 2 rfl) ?_
      refine y_aald (t := 57) C hP (by decide) xs_17 dX3_start_15 h (fun q5 q5l q5h h => ?_)
      refine lv_astore_n (lv' := [(3, .ref (a q5)), (0, .ref (a 6)), (1, .ref (a 1)), (2, .int v2)]) hx hb dX3_start_16 rfl hl (by decide) rfl (fun ls hl => ?_)
      refine lv_aload_n hx hb dX3_start_17 rfl (lv_at hl 1 rfl) ?_
      refine x_getr (Or.inl fl_X3_9) C hP (by decide) xs_6 rfl dX3_start_18 ?_
      refine lv_iload_n hx hb dX3_start_21 rfl (lv_at hl 3 rfl) ?_
      refine lv_aload_n hx hb dX3_start_22 rfl (lv_at hl 0 rfl) ?_
      refine x_getv (v := .int (g q5 6)) (Or.inr fl_X3_58) C hP (by omega) (xs_les (by omega) (by omega)) rfl dX3_start_23 ?_
      refine y_ast C hP hD hS (by decide) xs_25 dX3_start_26 h (fun g6 H locs h hP hD hS => ?_)
      refine lv_aload_n hx hb dX3_start_27 rfl (lv_at hl 1 rfl) ?_
      refine x_getr (Or.inl fl_X3_15) C hP (by decide) xs_6 rfl dX3_start_28 ?_
      refine lv_iload_n hx hb dX3_start_31 rfl (lv_at hl 3 rfl) ?_
      refine lv_aload_n hx hb dX3_start_32 rfl (lv_at hl 0 rfl) ?_
      refine x_getv (v := .int (g6 q5 13)) (Or.inr fl_X3_63) C hP (by omega) (xs_les (by omega) (by omega)) rfl dX3_start_33 ?_
      refine y_ast C hP hD hS (by decide) xs_26 dX3_start_36 h (fun g7 H locs h hP hD hS => ?_)
      refine lv_aload_n hx hb dX3_start_37 rfl (lv_at hl 1 rfl) ?_
      refine x_getr (Or.inl fl_X3_18) C hP (by decide) xs_6 rfl dX3_start_38 ?_
      refine lv_iload_n hx hb dX3_start_41 rfl (lv_at hl 3 rfl) ?_
      refine lv_aload_n hx hb dX3_start_42 rfl (lv_at hl 0 rfl) ?_
      refine x_getv (v := .int (g7 q5 7)) (Or.inr fl_X3_66) C hP (by omega) (xs_les (by omega) (by omega)) rfl dX3_start_43 ?_
      refine y_ast C hP hD hS (by decide) xs_27 dX3_start_46 h (fun g8 H locs h hP hD hS => ?_)
      refine lv_aload_n hx hb dX3_start_47 rfl (lv_at hl 1 rfl) ?_
      refine x_getr (Or.inl fl_X3_21) C hP (by decide) xs_6 rfl dX3_start_48 ?_
      refine lv_iload_n hx hb dX3_start_51 rfl (lv_at hl 3 rfl) ?_
      refine lv_aload_n hx hb dX3_start_52 rfl (lv_at hl 0 rfl) ?_
      refine x_getv (v := .int (g8 q5 11)) (Or.inr fl_X3_69) C hP (by omega) (xs_les (by omega) (by omega)) rfl dX3_start_53 ?_
      refine y_ast C hP hD hS (by decide) xs_28 dX3_start_56 h (fun g9 H locs h hP hD hS => ?_)
      refine lv_iinc (v := (v2 + 1)) (lv' := [(2, .int (v2 + 1)), (3, .ref (a q5)), (0, .ref (a 6)), (1, .ref (a 1))]) hx hb dX3_start_57 hl (k := 3) rfl rfl (by decide) rfl (fun ls hl => ?_)
      refine lv_goto (tgt := 2) hx hb dX3_start_60 (by decide) ?_
      exact ih2 ((v2 + 1), g9, L) h H locs ls hP hD hS (lv_sub hl [2, 3, 0] rfl)
  exact lp2 trivial fu (0, g, L) h H locs ls hP hD hS (lv_sub hl [1, 2, 0] rfl)
