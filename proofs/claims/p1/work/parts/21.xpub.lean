theorem k_zero {x : Int32} (h0 : ¬ x < 0) (h1 : x ≤ 0) : x = 0 := by
  rw [Int32.lt_iff_toInt_lt] at h0
  rw [Int32.le_iff_toInt_le] at h1
  have e : (0 : Int32).toInt = 0 := by decide
  rw [e] at h0 h1
  exact Int32.toInt_inj.mp (by rw [e]; omega)
theorem dX11_put_0 : decode cX11_put 0 = .ok (.bipush 24, 2) := by decide +kernel
theorem dX11_put_2 : decode cX11_put 2 = .ok (.istore_n 2, 1) := by decide +kernel
theorem dX11_put_3 : decode cX11_put 3 = .ok (.iload_n 2, 1) := by decide +kernel
theorem dX11_put_4 : decode cX11_put 4 = .ok (.ifCond .lt 47, 3) := by decide +kernel
theorem dX11_put_7 : decode cX11_put 7 = .ok (.aload_n 0, 1) := by decide +kernel
theorem dX11_put_8 : decode cX11_put 8 = .ok (.getfield 87, 3) := by decide +kernel
theorem dX11_put_11 : decode cX11_put 11 = .ok (.aload_n 0, 1) := by decide +kernel
theorem dX11_put_12 : decode cX11_put 12 = .ok (.getfield 9, 3) := by decide +kernel
theorem dX11_put_15 : decode cX11_put 15 = .ok (.arraylength, 1) := by decide +kernel
theorem dX11_put_16 : decode cX11_put 16 = .ok (.if_icmp .ge 29, 3) := by decide +kernel
theorem dX11_put_19 : decode cX11_put 19 = .ok (.aload_n 0, 1) := by decide +kernel
theorem dX11_put_20 : decode cX11_put 20 = .ok (.getfield 9, 3) := by decide +kernel
theorem dX11_put_23 : decode cX11_put 23 = .ok (.aload_n 0, 1) := by decide +kernel
theorem dX11_put_24 : decode cX11_put 24 = .ok (.getfield 87, 3) := by decide +kernel
theorem dX11_put_27 : decode cX11_put 27 = .ok (.iload_n 1, 1) := by decide +kernel
theorem dX11_put_28 : decode cX11_put 28 = .ok (.iload_n 2, 1) := by decide +kernel
theorem dX11_put_29 : decode cX11_put 29 = .ok (.iushr, 1) := by decide +kernel
theorem dX11_put_30 : decode cX11_put 30 = .ok (.sipush 255, 3) := by decide +kernel
theorem dX11_put_33 : decode cX11_put 33 = .ok (.iand, 1) := by decide +kernel
theorem dX11_put_34 : decode cX11_put 34 = .ok (.iastore, 1) := by decide +kernel
theorem dX11_put_35 : decode cX11_put 35 = .ok (.aload_n 0, 1) := by decide +kernel
theorem dX11_put_36 : decode cX11_put 36 = .ok (.dup, 1) := by decide +kernel
theorem dX11_put_37 : decode cX11_put 37 = .ok (.getfield 87, 3) := by decide +kernel
theorem dX11_put_40 : decode cX11_put 40 = .ok (.iconst 1, 1) := by decide +kernel
theorem dX11_put_41 : decode cX11_put 41 = .ok (.iadd, 1) := by decide +kernel
theorem dX11_put_42 : decode cX11_put 42 = .ok (.putfield 87, 3) := by decide +kernel
theorem dX11_put_45 : decode cX11_put 45 = .ok (.iinc 2 (-8), 3) := by decide +kernel
theorem dX11_put_48 : decode cX11_put 48 = .ok (.goto (-45), 3) := by decide +kernel
theorem dX11_put_51 : decode cX11_put 51 = .ok (.return_, 1) := by decide +kernel
theorem dX11_feed_0 : decode cX11_feed 0 = .ok (.aload_n 0, 1) := by decide +kernel
theorem dX11_feed_1 : decode cX11_feed 1 = .ok (.getfield 87, 3) := by decide +kernel
theorem dX11_feed_4 : decode cX11_feed 4 = .ok (.bipush 20, 2) := by decide +kernel
theorem dX11_feed_6 : decode cX11_feed 6 = .ok (.iadd, 1) := by decide +kernel
theorem dX11_feed_7 : decode cX11_feed 7 = .ok (.sipush 700, 3) := by decide +kernel
theorem dX11_feed_10 : decode cX11_feed 10 = .ok (.if_icmp .le 5, 3) := by decide +kernel
theorem dX11_feed_15 : decode cX11_feed 15 = .ok (.aload_n 0, 1) := by decide +kernel
theorem dX11_feed_16 : decode cX11_feed 16 = .ok (.iload_n 1, 1) := by decide +kernel
theorem tw_541 : (Jvm.Cond.methodLink "MarshBells" (101 : Nat) ({ cls := "MarshBells", name := "put", desc := "(I)V" } : Jvm.MethodName)) ∈ lw_tbl := tk_3 (List.mem_of_getElem? (i := 61) rfl)
theorem tw_1 : (Jvm.Cond.initialized "MarshBells") ∈ lw_tbl := tk_1 (List.mem_of_getElem? (i := 1) rfl)
theorem tw_544 : (Jvm.Cond.code ({ cls := "MarshBells", name := "put", desc := "(I)V" } : Jvm.MethodName) prog_1_method_42_code (3 : Nat) (Option.none : Option Jvm.ClassFile.FieldType)) ∈ lw_tbl := tk_3 (List.mem_of_getElem? (i := 64) rfl)
theorem tw_543 : (Jvm.Cond.instanceMethod ({ cls := "MarshBells", name := "put", desc := "(I)V" } : Jvm.MethodName)) ∈ lw_tbl := tk_3 (List.mem_of_getElem? (i := 63) rfl)
theorem se_X11_put : Cond.selects RX11 yX11_put yX11_put ∈ lw_tbl := List.mem_append_left _ (List.mem_of_getElem? (i := 0) rfl)
theorem li_X11_101 : kLV RX11 101 RX11 yX11_put cX11_put 3 none 1 := ⟨tw_541, tw_543, se_X11_put, tw_544, tw_1, by decide +kernel⟩
theorem dX11_feed_17 : decode cX11_feed 17 = .ok (.invokevirtual 101, 3) := by decide +kernel
theorem dX11_feed_20 : decode cX11_feed 20 = .ok (.aload_n 0, 1) := by decide +kernel
theorem dX11_feed_21 : decode cX11_feed 21 = .ok (.iload_n 2, 1) := by decide +kernel
theorem dX11_feed_22 : decode cX11_feed 22 = .ok (.invokevirtual 101, 3) := by decide +kernel
theorem dX11_feed_25 : decode cX11_feed 25 = .ok (.aload_n 0, 1) := by decide +kernel
theorem dX11_feed_26 : decode cX11_feed 26 = .ok (.iload_n 3, 1) := by decide +kernel
theorem dX11_feed_27 : decode cX11_feed 27 = .ok (.invokevirtual 101, 3) := by decide +kernel
theorem dX11_feed_30 : decode cX11_feed 30 = .ok (.aload_n 0, 1) := by decide +kernel
theorem dX11_feed_31 : decode cX11_feed 31 = .ok (.iload 4, 2) := by decide +kernel
theorem dX11_feed_33 : decode cX11_feed 33 = .ok (.invokevirtual 101, 3) := by decide +kernel
theorem dX11_feed_36 : decode cX11_feed 36 = .ok (.aload_n 0, 1) := by decide +kernel
theorem dX11_feed_37 : decode cX11_feed 37 = .ok (.iload 5, 2) := by decide +kernel
theorem dX11_feed_39 : decode cX11_feed 39 = .ok (.invokevirtual 101, 3) := by decide +kernel
theorem dX11_feed_42 : decode cX11_feed 42 = .ok (.aload_n 0, 1) := by decide +kernel
theorem dX11_feed_43 : decode cX11_feed 43 = .ok (.getfield 87, 3) := by decide +kernel
theorem dX11_feed_46 : decode cX11_feed 46 = .ok (.ireturn, 1) := by decide +kernel
theorem dX11_house_0 : decode cX11_house 0 = .ok (.iload_n 1, 1) := by decide +kernel
theorem dX11_house_1 : decode cX11_house 1 = .ok (.ifCond .lt 11, 3) := by decide +kernel
theorem dX11_house_12 : decode cX11_house 12 = .ok (.new 105, 3) := by decide +kernel
theorem dX11_house_15 : decode cX11_house 15 = .ok (.dup, 1) := by decide +kernel
theorem dX11_house_16 : decode cX11_house 16 = .ok (.invokespecial 107, 3) := by decide +kernel
theorem dX11_house_19 : decode cX11_house 19 = .ok (.athrow, 1) := by decide +kernel
theorem dX11_house_4 : decode cX11_house 4 = .ok (.iload_n 1, 1) := by decide +kernel
theorem dX11_house_5 : decode cX11_house 5 = .ok (.aload_n 0, 1) := by decide +kernel
theorem dX11_house_6 : decode cX11_house 6 = .ok (.getfield 87, 3) := by decide +kernel
theorem dX11_house_9 : decode cX11_house 9 = .ok (.if_icmp .le 11, 3) := by decide +kernel
theorem dX11_house_20 : decode cX11_house 20 = .ok (.aload_n 0, 1) := by decide +kernel
theorem dX11_house_21 : decode cX11_house 21 = .ok (.iconst 0, 1) := by decide +kernel
theorem dX11_house_22 : decode cX11_house 22 = .ok (.putfield 87, 3) := by decide +kernel
theorem dX11_house_25 : decode cX11_house 25 = .ok (.aload_n 0, 1) := by decide +kernel
theorem dX11_house_26 : decode cX11_house 26 = .ok (.getfield 34, 3) := by decide +kernel
theorem dX11_house_29 : decode cX11_house 29 = .ok (.iload_n 1, 1) := by decide +kernel
theorem dX11_house_30 : decode cX11_house 30 = .ok (.aload_n 0, 1) := by decide +kernel
theorem dX11_house_31 : decode cX11_house 31 = .ok (.getfield 26, 3) := by decide +kernel
theorem tw_799 : (Jvm.Cond.methodLinkNest "MarshBells" (108 : Nat) ({ cls := "MarshBells$Parser", name := "read", desc := "(ILMarshBells$Plan;)V" } : Jvm.MethodName) "MarshBells") ∈ lw_tbl := tk_4 (List.mem_of_getElem? (i := 79) rfl)
theorem tw_802 : (Jvm.Cond.code ({ cls := "MarshBells$Parser", name := "read", desc := "(ILMarshBells$Plan;)V" } : Jvm.MethodName) prog_8_method_2_code (4 : Nat) (Option.none : Option Jvm.ClassFile.FieldType)) ∈ lw_tbl := tk_4 (List.mem_of_getElem? (i := 82) rfl)
theorem tw_801 : (Jvm.Cond.instanceMethod ({ cls := "MarshBells$Parser", name := "read", desc := "(ILMarshBells$Plan;)V" } : Jvm.MethodName)) ∈ lw_tbl := tk_4 (List.mem_of_getElem? (i := 81) rfl)
theorem se_X6_read : Cond.selects RX6 yX6_read yX6_read ∈ lw_tbl := List.mem_append_left _ (List.mem_of_getElem? (i := 33) rfl)
theorem li_X11_108 : kLN RX11 108 RX6 yX6_read "MarshBells" cX6_read 4 none 2 := ⟨tw_799, tw_801, se_X6_read, tw_802, tw_5, by decide +kernel⟩
theorem dX11_house_34 : decode cX11_house 34 = .ok (.invokevirtual 108, 3) := by decide +kernel
theorem dX11_house_37 : decode cX11_house 37 = .ok (.aload_n 0, 1) := by decide +kernel
theorem dX11_house_38 : decode cX11_house 38 = .ok (.aload_n 0, 1) := by decide +kernel
theorem dX11_house_39 : decode cX11_house 39 = .ok (.getfield 34, 3) := by decide +kernel
theorem tw_204 : (Jvm.Cond.fieldLinkNest "MarshBells" (112 : Nat) "MarshBells$Parser" "faultPlace" "I" "MarshBells") ∈ lw_tbl := tk_1 (List.mem_of_getElem? (i := 204) rfl)
theorem fl_X11_112 : kFN RX11 112 6 11 8 := ⟨RX6, TX6, rfl, by decide, inWX6, tw_204⟩
theorem dX11_house_42 : decode cX11_house 42 = .ok (.getfield 112, 3) := by decide +kernel
theorem dX11_house_45 : decode cX11_house 45 = .ok (.putfield 91, 3) := by decide +kernel
theorem dX11_house_48 : decode cX11_house 48 = .ok (.aload_n 0, 1) := by decide +kernel
theorem dX11_house_49 : decode cX11_house 49 = .ok (.getfield 34, 3) := by decide +kernel
theorem tw_202 : (Jvm.Cond.fieldLinkNest "MarshBells" (113 : Nat) "MarshBells$Parser" "fault" "I" "MarshBells") ∈ lw_tbl := tk_1 (List.mem_of_getElem? (i := 202) rfl)
theorem fl_X11_113 : kFN RX11 113 6 11 7 := ⟨RX6, TX6, rfl, by decide, inWX6, tw_202⟩
theorem dX11_house_52 : decode cX11_house 52 = .ok (.getfield 113, 3) := by decide +kernel
theorem dX11_house_55 : decode cX11_house 55 = .ok (.ifCond .eq 21, 3) := by decide +kernel
theorem dX11_house_76 : decode cX11_house 76 = .ok (.aload_n 0, 1) := by decide +kernel
theorem dX11_house_77 : decode cX11_house 77 = .ok (.getfield 26, 3) := by decide +kernel
theorem dX11_house_80 : decode cX11_house 80 = .ok (.astore_n 2, 1) := by decide +kernel
theorem dX11_house_81 : decode cX11_house 81 = .ok (.aload_n 0, 1) := by decide +kernel
theorem dX11_house_82 : decode cX11_house 82 = .ok (.aload_n 0, 1) := by decide +kernel
theorem dX11_house_83 : decode cX11_house 83 = .ok (.getfield 22, 3) := by decide +kernel
theorem dX11_house_86 : decode cX11_house 86 = .ok (.putfield 26, 3) := by decide +kernel
theorem dX11_house_89 : decode cX11_house 89 = .ok (.aload_n 0, 1) := by decide +kernel
theorem dX11_house_90 : decode cX11_house 90 = .ok (.aload_n 2, 1) := by decide +kernel
theorem dX11_house_91 : decode cX11_house 91 = .ok (.putfield 22, 3) := by decide +kernel
theorem dX11_house_94 : decode cX11_house 94 = .ok (.aload_n 0, 1) := by decide +kernel
theorem dX11_house_95 : decode cX11_house 95 = .ok (.getfield 53, 3) := by decide +kernel
theorem dX11_house_98 : decode cX11_house 98 = .ok (.aload_n 2, 1) := by decide +kernel
theorem tw_318 : (Jvm.Cond.fieldLinkNest "MarshBells" (116 : Nat) "MarshBells$Day" "plan" "LMarshBells$Plan;" "MarshBells") ∈ lw_tbl := tk_2 (List.mem_of_getElem? (i := 78) rfl)
theorem fl_X11_116 : kFN RX11 116 1 10 7 := ⟨RX1, TX1, rfl, by decide, inWX1, tw_318⟩
theorem dX11_house_99 : decode cX11_house 99 = .ok (.putfield 116, 3) := by decide +kernel
theorem dX11_house_102 : decode cX11_house 102 = .ok (.aload_n 0, 1) := by decide +kernel
theorem dX11_house_103 : decode cX11_house 103 = .ok (.getfield 41, 3) := by decide +kernel
theorem dX11_house_106 : decode cX11_house 106 = .ok (.aload_n 2, 1) := by decide +kernel
theorem tw_984 : (Jvm.Cond.methodLinkNest "MarshBells" (117 : Nat) ({ cls := "MarshBells$Held", name := "start", desc := "(LMarshBells$Plan;)V" } : Jvm.MethodName) "MarshBells") ∈ lw_tbl := tk_5 (List.mem_of_getElem? (i := 24) rfl)
theorem tw_987 : (Jvm.Cond.code ({ cls := "MarshBells$Held", name := "start", desc := "(LMarshBells$Plan;)V" } : Jvm.MethodName) prog_5_method_2_code (4 : Nat) (Option.none : Option Jvm.ClassFile.FieldType)) ∈ lw_tbl := tk_5 (List.mem_of_getElem? (i := 27) rfl)
theorem tw_986 : (Jvm.Cond.instanceMethod ({ cls := "MarshBells$Held", name := "start", desc := "(LMarshBells$Plan;)V" } : Jvm.MethodName)) ∈ lw_tbl := tk_5 (List.mem_of_getElem? (i := 26) rfl)
theorem se_X3_start : Cond.selects RX3 yX3_start yX3_start ∈ lw_tbl := List.mem_append_left _ (List.mem_of_getElem? (i := 62) rfl)
theorem li_X11_117 : kLN RX11 117 RX3 yX3_start "MarshBells" cX3_start 4 none 1 := ⟨tw_984, tw_986, se_X3_start, tw_987, tw_6, by decide +kernel⟩
theorem dX11_house_107 : decode cX11_house 107 = .ok (.invokevirtual 117, 3) := by decide +kernel
theorem dX11_house_110 : decode cX11_house 110 = .ok (.aload_n 0, 1) := by decide +kernel
theorem dX11_house_111 : decode cX11_house 111 = .ok (.iconst 0, 1) := by decide +kernel
theorem dX11_house_112 : decode cX11_house 112 = .ok (.putfield 94, 3) := by decide +kernel
theorem dX11_house_115 : decode cX11_house 115 = .ok (.aload_n 0, 1) := by decide +kernel
theorem dX11_house_116 : decode cX11_house 116 = .ok (.iconst 0, 1) := by decide +kernel
theorem dX11_house_117 : decode cX11_house 117 = .ok (.putfield 98, 3) := by decide +kernel
theorem dX11_house_120 : decode cX11_house 120 = .ok (.iconst 0, 1) := by decide +kernel
theorem dX11_house_121 : decode cX11_house 121 = .ok (.ireturn, 1) := by decide +kernel
theorem dX11_fault_0 : decode cX11_fault 0 = .ok (.aload_n 0, 1) := by decide +kernel
theorem dX11_fault_1 : decode cX11_fault 1 = .ok (.getfield 91, 3) := by decide +kernel
theorem dX11_fault_4 : decode cX11_fault 4 = .ok (.ireturn, 1) := by decide +kernel
theorem dX11_countOfDay_0 : decode cX11_countOfDay 0 = .ok (.aload_n 0, 1) := by decide +kernel
theorem dX11_countOfDay_1 : decode cX11_countOfDay 1 = .ok (.getfield 53, 3) := by decide +kernel
theorem dX11_countOfDay_4 : decode cX11_countOfDay 4 = .ok (.iconst 0, 1) := by decide +kernel
theorem tw_712 : (Jvm.Cond.methodLinkNest "MarshBells" (201 : Nat) ({ cls := "MarshBells$Day", name := "runFrom", desc := "(I)V" } : Jvm.MethodName) "MarshBells") ∈ lw_tbl := tk_3 (List.mem_of_getElem? (i := 232) rfl)
theorem li_X11_201 : kLN RX11 201 RX1 yX1_runFrom "MarshBells" cX1_runFrom 3 none 1 := ⟨tw_712, tw_694, se_X1_runFrom, tw_695, tw_7, by decide +kernel⟩
theorem dX11_countOfDay_5 : decode cX11_countOfDay 5 = .ok (.invokevirtual 201, 3) := by decide +kernel
theorem dX11_countOfDay_8 : decode cX11_countOfDay 8 = .ok (.iload_n 1, 1) := by decide +kernel
theorem dX11_countOfDay_9 : decode cX11_countOfDay 9 = .ok (.lookupswitch 59 #[(7, 35), (12, 43), (13, 51)], 35) := by decide +kernel
theorem dX11_countOfDay_44 : decode cX11_countOfDay 44 = .ok (.aload_n 0, 1) := by decide +kernel
theorem dX11_countOfDay_45 : decode cX11_countOfDay 45 = .ok (.getfield 53, 3) := by decide +kernel
theorem tw_1019 : (Jvm.Cond.methodLinkNest "MarshBells" (372 : Nat) ({ cls := "MarshBells$Day", name := "lost", desc := "()I" } : Jvm.MethodName) "MarshBells") ∈ lw_tbl := tk_5 (List.mem_of_getElem? (i := 59) rfl)
theorem li_X11_372 : kLN RX11 372 RX1 yX1_lost "MarshBells" cX1_lost 3 (some .int) 0 := ⟨tw_1019, tw_654, se_X1_lost, tw_655, tw_7, by decide +kernel⟩
theorem dX11_countOfDay_48 : decode cX11_countOfDay 48 = .ok (.invokevirtual 372, 3) := by decide +kernel
theorem dX11_countOfDay_51 : decode cX11_countOfDay 51 = .ok (.ireturn, 1) := by decide +kernel
theorem dX11_countOfDay_52 : decode cX11_countOfDay 52 = .ok (.aload_n 0, 1) := by decide +kernel
theorem dX11_countOfDay_53 : decode cX11_countOfDay 53 = .ok (.getfield 53, 3) := by decide +kernel
theorem tw_1020 : (Jvm.Cond.methodLinkNest "MarshBells" (375 : Nat) ({ cls := "MarshBells$Day", name := "lateOnes", desc := "()I" } : Jvm.MethodName) "MarshBells") ∈ lw_tbl := tk_5 (List.mem_of_getElem? (i := 60) rfl)
theorem tw_1023 : (Jvm.Cond.code ({ cls := "MarshBells$Day", name := "lateOnes", desc := "()I" } : Jvm.MethodName) prog_3_method_13_code (3 : Nat) (Option.some Jvm.ClassFile.FieldType.int)) ∈ lw_tbl := tk_5 (List.mem_of_getElem? (i := 63) rfl)
theorem tw_1022 : (Jvm.Cond.instanceMethod ({ cls := "MarshBells$Day", name := "lateOnes", desc := "()I" } : Jvm.MethodName)) ∈ lw_tbl := tk_5 (List.mem_of_getElem? (i := 62) rfl)
theorem se_X1_lateOnes : Cond.selects RX1 yX1_lateOnes yX1_lateOnes ∈ lw_tbl := List.mem_append_left _ (List.mem_of_getElem? (i := 64) rfl)
theorem li_X11_375 : kLN RX11 375 RX1 yX1_lateOnes "MarshBells" cX1_lateOnes 3 (some .int) 0 := ⟨tw_1020, tw_1022, se_X1_lateOnes, tw_1023, tw_7, by decide +kernel⟩
theorem dX11_countOfDay_56 : decode cX11_countOfDay 56 = .ok (.invokevirtual 375, 3) := by decide +kernel
theorem dX11_countOfDay_59 : decode cX11_countOfDay 59 = .ok (.ireturn, 1) := by decide +kernel
theorem dX11_countOfDay_60 : decode cX11_countOfDay 60 = .ok (.aload_n 0, 1) := by decide +kernel
theorem dX11_countOfDay_61 : decode cX11_countOfDay 61 = .ok (.getfield 53, 3) := by decide +kernel
theorem tw_1024 : (Jvm.Cond.methodLinkNest "MarshBells" (378 : Nat) ({ cls := "MarshBells$Day", name := "latest", desc := "()I" } : Jvm.MethodName) "MarshBells") ∈ lw_tbl := tk_5 (List.mem_of_getElem? (i := 64) rfl)
theorem tw_1027 : (Jvm.Cond.code ({ cls := "MarshBells$Day", name := "latest", desc := "()I" } : Jvm.MethodName) prog_3_method_14_code (3 : Nat) (Option.some Jvm.ClassFile.FieldType.int)) ∈ lw_tbl := tk_5 (List.mem_of_getElem? (i := 67) rfl)
theorem tw_1026 : (Jvm.Cond.instanceMethod ({ cls := "MarshBells$Day", name := "latest", desc := "()I" } : Jvm.MethodName)) ∈ lw_tbl := tk_5 (List.mem_of_getElem? (i := 66) rfl)
theorem se_X1_latest : Cond.selects RX1 yX1_latest yX1_latest ∈ lw_tbl := List.mem_append_left _ (List.mem_of_getElem? (i := 65) rfl)
theorem li_X11_378 : kLN RX11 378 RX1 yX1_latest "MarshBells" cX1_latest 3 (some .int) 0 := ⟨tw_1024, tw_1026, se_X1_latest, tw_1027, tw_7, by decide +kernel⟩
theorem dX11_countOfDay_64 : decode cX11_countOfDay 64 = .ok (.invokevirtual 378, 3) := by decide +kernel
theorem dX11_countOfDay_67 : decode cX11_countOfDay 67 = .ok (.ireturn, 1) := by decide +kernel
theorem dX11_countOfDay_68 : decode cX11_countOfDay 68 = .ok (.aload_n 0, 1) := by decide +kernel
theorem dX11_countOfDay_69 : decode cX11_countOfDay 69 = .ok (.getfield 53, 3) := by decide +kernel
theorem tw_1028 : (Jvm.Cond.methodLinkNest "MarshBells" (381 : Nat) ({ cls := "MarshBells$Day", name := "begunLater", desc := "()I" } : Jvm.MethodName) "MarshBells") ∈ lw_tbl := tk_5 (List.mem_of_getElem? (i := 68) rfl)
theorem tw_1031 : (Jvm.Cond.code ({ cls := "MarshBells$Day", name := "begunLater", desc := "()I" } : Jvm.MethodName) prog_3_method_15_code (3 : Nat) (Option.some Jvm.ClassFile.FieldType.int)) ∈ lw_tbl := tk_5 (List.mem_of_getElem? (i := 71) rfl)
theorem tw_1030 : (Jvm.Cond.instanceMethod ({ cls := "MarshBells$Day", name := "begunLater", desc := "()I" } : Jvm.MethodName)) ∈ lw_tbl := tk_5 (List.mem_of_getElem? (i := 70) rfl)
theorem se_X1_begunLater : Cond.selects RX1 yX1_begunLater yX1_begunLater ∈ lw_tbl := List.mem_append_left _ (List.mem_of_getElem? (i := 66) rfl)
theorem li_X11_381 : kLN RX11 381 RX1 yX1_begunLater "MarshBells" cX1_begunLater 3 (some .int) 0 := ⟨tw_1028, tw_1030, se_X1_begunLater, tw_1031, tw_7, by decide +kernel⟩
theorem dX11_countOfDay_72 : decode cX11_countOfDay 72 = .ok (.invokevirtual 381, 3) := by decide +kernel
theorem dX11_countOfDay_75 : decode cX11_countOfDay 75 = .ok (.ireturn, 1) := by decide +kernel
theorem dX11_count_0 : decode cX11_count 0 = .ok (.iload_n 1, 1) := by decide +kernel
theorem dX11_count_1 : decode cX11_count 1 = .ok (.bipush 15, 2) := by decide +kernel
theorem tw_997 : (Jvm.Cond.methodLink "MarshBells" (121 : Nat) ({ cls := "MarshBells", name := "needWhat", desc := "(II)V" } : Jvm.MethodName)) ∈ lw_tbl := tk_5 (List.mem_of_getElem? (i := 37) rfl)
theorem tw_999 : (Jvm.Cond.code ({ cls := "MarshBells", name := "needWhat", desc := "(II)V" } : Jvm.MethodName) prog_1_method_44_code (2 : Nat) (Option.none : Option Jvm.ClassFile.FieldType)) ∈ lw_tbl := tk_5 (List.mem_of_getElem? (i := 39) rfl)
theorem tw_998 : (Jvm.Cond.static ({ cls := "MarshBells", name := "needWhat", desc := "(II)V" } : Jvm.MethodName)) ∈ lw_tbl := tk_5 (List.mem_of_getElem? (i := 38) rfl)
theorem li_X11_121 : kLS RX11 121 yX11_needWhat cX11_needWhat 2 none 2 := ⟨tw_997, tw_998, tw_999, tw_1, by decide +kernel⟩
theorem dX11_count_3 : decode cX11_count 3 = .ok (.invokestatic 121, 3) := by decide +kernel
theorem dX11_count_6 : decode cX11_count 6 = .ok (.iload_n 1, 1) := by decide +kernel
theorem k_rng15 {x : Int32} (h0 : ¬ x < 0) (h1 : x < 15) : x = 0 ∨ x = 1 ∨ x = 2 ∨ x = 3 ∨ x = 4 ∨ x = 5 ∨ x = 6 ∨ x = 7 ∨ x = 8 ∨ x = 9 ∨ x = 10 ∨ x = 11 ∨ x = 12 ∨ x = 13 ∨ x = 14 := by
  rcases pk_ix x (n := 15) (by decide) with h | h | ⟨j, hj, rfl⟩
  · exact absurd h h0
  · exact absurd h (by have h9 := h1; rw [Int32.lt_iff_toInt_lt] at h9; rw [Int32.le_iff_toInt_le]; exact Int.not_le.mpr h9)
  · exact match j, hj with | 0, _ => Or.inl rfl | 1, _ => Or.inr (Or.inl rfl) | 2, _ => Or.inr (Or.inr (Or.inl rfl)) | 3, _ => Or.inr (Or.inr (Or.inr (Or.inl rfl))) | 4, _ => Or.inr (Or.inr (Or.inr (Or.inr (Or.inl rfl)))) | 5, _ => Or.inr (Or.inr (Or.inr (Or.inr (Or.inr (Or.inl rfl))))) | 6, _ => Or.inr (Or.inr (Or.inr (Or.inr (Or.inr (Or.inr (Or.inl rfl)))))) | 7, _ => Or.inr (Or.inr (Or.inr (Or.inr (Or.inr (Or.inr (Or.inr (Or.inl rfl))))))) | 8, _ => Or.inr (Or.inr (Or.inr (Or.inr (Or.inr (Or.inr (Or.inr (Or.inr (Or.inl rfl)))))))) | 9, _ => Or.inr (Or.inr (Or.inr (Or.inr (Or.inr (Or.inr (Or.inr (Or.inr (Or.inr (Or.inl rfl))))))))) | 10, _ => Or.inr (Or.inr (Or.inr (Or.inr (Or.inr (Or.inr (Or.inr (Or.inr (Or.inr (Or.inr (Or.inl rfl)))))))))) | 11, _ => Or.inr (Or.inr (Or.inr (Or.inr (Or.inr (Or.inr (Or.inr (Or.inr (Or.inr (Or.inr (Or.inr (Or.inl rfl))))))))))) | 12, _ => Or.inr (Or.inr (Or.inr (Or.inr (Or.inr (Or.inr (Or.inr (Or.inr (Or.inr (Or.inr (Or.inr (Or.inr (Or.inl rfl)))))))))))) | 13, _ => Or.inr (Or.inr (Or.inr (Or.inr (Or.inr (Or.inr (Or.inr (Or.inr (Or.inr (Or.inr (Or.inr (Or.inr (Or.inr (Or.inl rfl))))))))))))) | 14, _ => Or.inr (Or.inr (Or.inr (Or.inr (Or.inr (Or.inr (Or.inr (Or.inr (Or.inr (Or.inr (Or.inr (Or.inr (Or.inr (Or.inr (rfl)))))))))))))) | j + 15, hj => absurd hj (by omega)
theorem dX11_count_7 : decode cX11_count 7 = .ok (.tableswitch 146 0 11 #[61, 69, 80, 88, 96, 104, 112, 146, 120, 125, 132, 139], 61) := by decide +kernel
theorem dX11_count_68 : decode cX11_count 68 = .ok (.aload_n 0, 1) := by decide +kernel
theorem dX11_count_69 : decode cX11_count 69 = .ok (.getfield 22, 3) := by decide +kernel
theorem dX11_count_72 : decode cX11_count 72 = .ok (.getfield 125, 3) := by decide +kernel
theorem dX11_count_75 : decode cX11_count 75 = .ok (.ireturn, 1) := by decide +kernel
theorem dX11_count_76 : decode cX11_count 76 = .ok (.aload_n 0, 1) := by decide +kernel
theorem dX11_count_77 : decode cX11_count 77 = .ok (.getfield 22, 3) := by decide +kernel
theorem dX11_count_80 : decode cX11_count 80 = .ok (.getfield 128, 3) := by decide +kernel
theorem dX11_count_83 : decode cX11_count 83 = .ok (.getfield 132, 3) := by decide +kernel
theorem dX11_count_86 : decode cX11_count 86 = .ok (.ireturn, 1) := by decide +kernel
theorem dX11_count_87 : decode cX11_count 87 = .ok (.aload_n 0, 1) := by decide +kernel
theorem dX11_count_88 : decode cX11_count 88 = .ok (.getfield 41, 3) := by decide +kernel
theorem tw_264 : (Jvm.Cond.fieldLinkNest "MarshBells" (137 : Nat) "MarshBells$Held" "rule" "I" "MarshBells") ∈ lw_tbl := tk_2 (List.mem_of_getElem? (i := 24) rfl)
theorem fl_X11_137 : kFN RX11 137 3 12 11 := ⟨RX3, TX3, rfl, by decide, inWX3, tw_264⟩
theorem dX11_count_91 : decode cX11_count 91 = .ok (.getfield 137, 3) := by decide +kernel
theorem dX11_count_94 : decode cX11_count 94 = .ok (.ireturn, 1) := by decide +kernel
theorem dX11_count_95 : decode cX11_count 95 = .ok (.aload_n 0, 1) := by decide +kernel
theorem dX11_count_96 : decode cX11_count 96 = .ok (.getfield 22, 3) := by decide +kernel
theorem tw_170 : (Jvm.Cond.fieldLinkNest "MarshBells" (140 : Nat) "MarshBells$Plan" "walk" "I" "MarshBells") ∈ lw_tbl := tk_1 (List.mem_of_getElem? (i := 170) rfl)
theorem fl_X11_140 : kFN RX11 140 7 5 3 := ⟨RX7, TX7, rfl, by decide, inWX7, tw_170⟩
theorem dX11_count_99 : decode cX11_count 99 = .ok (.getfield 140, 3) := by decide +kernel
theorem dX11_count_102 : decode cX11_count 102 = .ok (.ireturn, 1) := by decide +kernel
theorem dX11_count_103 : decode cX11_count 103 = .ok (.aload_n 0, 1) := by decide +kernel
theorem dX11_count_104 : decode cX11_count 104 = .ok (.getfield 22, 3) := by decide +kernel
theorem tw_174 : (Jvm.Cond.fieldLinkNest "MarshBells" (143 : Nat) "MarshBells$Plan" "stair" "I" "MarshBells") ∈ lw_tbl := tk_1 (List.mem_of_getElem? (i := 174) rfl)
theorem fl_X11_143 : kFN RX11 143 7 5 4 := ⟨RX7, TX7, rfl, by decide, inWX7, tw_174⟩
theorem dX11_count_107 : decode cX11_count 107 = .ok (.getfield 143, 3) := by decide +kernel
theorem dX11_count_110 : decode cX11_count 110 = .ok (.ireturn, 1) := by decide +kernel
theorem dX11_count_111 : decode cX11_count 111 = .ok (.aload_n 0, 1) := by decide +kernel
theorem dX11_count_112 : decode cX11_count 112 = .ok (.getfield 41, 3) := by decide +kernel
theorem tw_259 : (Jvm.Cond.fieldLinkNest "MarshBells" (146 : Nat) "MarshBells$Held" "acts" "I" "MarshBells") ∈ lw_tbl := tk_2 (List.mem_of_getElem? (i := 19) rfl)
theorem fl_X11_146 : kFN RX11 146 3 12 9 := ⟨RX3, TX3, rfl, by decide, inWX3, tw_259⟩
theorem dX11_count_115 : decode cX11_count 115 = .ok (.getfield 146, 3) := by decide +kernel
theorem dX11_count_118 : decode cX11_count 118 = .ok (.ireturn, 1) := by decide +kernel
theorem dX11_count_119 : decode cX11_count 119 = .ok (.aload_n 0, 1) := by decide +kernel
theorem dX11_count_120 : decode cX11_count 120 = .ok (.getfield 41, 3) := by decide +kernel
theorem tw_261 : (Jvm.Cond.fieldLinkNest "MarshBells" (149 : Nat) "MarshBells$Held" "seen" "I" "MarshBells") ∈ lw_tbl := tk_2 (List.mem_of_getElem? (i := 21) rfl)
theorem fl_X11_149 : kFN RX11 149 3 12 10 := ⟨RX3, TX3, rfl, by decide, inWX3, tw_261⟩
theorem dX11_count_123 : decode cX11_count 123 = .ok (.getfield 149, 3) := by decide +kernel
theorem dX11_count_126 : decode cX11_count 126 = .ok (.ireturn, 1) := by decide +kernel
theorem dX11_count_153 : decode cX11_count 153 = .ok (.aload_n 0, 1) := by decide +kernel
theorem dX11_count_154 : decode cX11_count 154 = .ok (.iload_n 1, 1) := by decide +kernel
theorem tw_1015 : (Jvm.Cond.methodLink "MarshBells" (152 : Nat) ({ cls := "MarshBells", name := "countOfDay", desc := "(I)I" } : Jvm.MethodName)) ∈ lw_tbl := tk_5 (List.mem_of_getElem? (i := 55) rfl)
theorem tw_1018 : (Jvm.Cond.code ({ cls := "MarshBells", name := "countOfDay", desc := "(I)I" } : Jvm.MethodName) prog_1_method_41_code (2 : Nat) (Option.some Jvm.ClassFile.FieldType.int)) ∈ lw_tbl := tk_5 (List.mem_of_getElem? (i := 58) rfl)
theorem tw_1017 : (Jvm.Cond.instanceMethod ({ cls := "MarshBells", name := "countOfDay", desc := "(I)I" } : Jvm.MethodName)) ∈ lw_tbl := tk_5 (List.mem_of_getElem? (i := 57) rfl)
theorem se_X11_countOfDay : Cond.selects RX11 yX11_countOfDay yX11_countOfDay ∈ lw_tbl := List.mem_append_left _ (List.mem_of_getElem? (i := 63) rfl)
theorem li_X11_152 : kLV RX11 152 RX11 yX11_countOfDay cX11_countOfDay 2 (some .int) 1 := ⟨tw_1015, tw_1017, se_X11_countOfDay, tw_1018, tw_1, by decide +kernel⟩
theorem dX11_count_155 : decode cX11_count 155 = .ok (.invokevirtual 152, 3) := by decide +kernel
theorem dX11_count_158 : decode cX11_count 158 = .ok (.ireturn, 1) := by decide +kernel
theorem dX11_count_127 : decode cX11_count 127 = .ok (.aload_n 0, 1) := by decide +kernel
theorem dX11_count_128 : decode cX11_count 128 = .ok (.getfield 87, 3) := by decide +kernel
theorem dX11_count_131 : decode cX11_count 131 = .ok (.ireturn, 1) := by decide +kernel
theorem dX11_count_132 : decode cX11_count 132 = .ok (.aload_n 0, 1) := by decide +kernel
theorem dX11_count_133 : decode cX11_count 133 = .ok (.getfield 13, 3) := by decide +kernel
theorem dX11_count_136 : decode cX11_count 136 = .ok (.iconst 0, 1) := by decide +kernel
theorem dX11_count_137 : decode cX11_count 137 = .ok (.iaload, 1) := by decide +kernel
theorem dX11_count_138 : decode cX11_count 138 = .ok (.ireturn, 1) := by decide +kernel
theorem dX11_count_139 : decode cX11_count 139 = .ok (.aload_n 0, 1) := by decide +kernel
theorem dX11_count_140 : decode cX11_count 140 = .ok (.getfield 13, 3) := by decide +kernel
theorem dX11_count_143 : decode cX11_count 143 = .ok (.iconst 1, 1) := by decide +kernel
theorem dX11_count_144 : decode cX11_count 144 = .ok (.iaload, 1) := by decide +kernel
theorem dX11_count_145 : decode cX11_count 145 = .ok (.ireturn, 1) := by decide +kernel
theorem dX11_count_146 : decode cX11_count 146 = .ok (.aload_n 0, 1) := by decide +kernel
theorem dX11_count_147 : decode cX11_count 147 = .ok (.getfield 13, 3) := by decide +kernel
theorem dX11_count_150 : decode cX11_count 150 = .ok (.iconst 2, 1) := by decide +kernel
theorem dX11_count_151 : decode cX11_count 151 = .ok (.iaload, 1) := by decide +kernel
theorem dX11_count_152 : decode cX11_count 152 = .ok (.ireturn, 1) := by decide +kernel
theorem dX11_lesson_0 : decode cX11_lesson 0 = .ok (.aload_n 0, 1) := by decide +kernel
theorem dX11_lesson_1 : decode cX11_lesson 1 = .ok (.iload_n 1, 1) := by decide +kernel
theorem tw_1039 : (Jvm.Cond.methodLink "MarshBells" (156 : Nat) ({ cls := "MarshBells", name := "needLesson", desc := "(I)V" } : Jvm.MethodName)) ∈ lw_tbl := tk_5 (List.mem_of_getElem? (i := 79) rfl)
theorem tw_1042 : (Jvm.Cond.code ({ cls := "MarshBells", name := "needLesson", desc := "(I)V" } : Jvm.MethodName) prog_1_method_43_code (2 : Nat) (Option.none : Option Jvm.ClassFile.FieldType)) ∈ lw_tbl := tk_5 (List.mem_of_getElem? (i := 82) rfl)
theorem tw_1041 : (Jvm.Cond.instanceMethod ({ cls := "MarshBells", name := "needLesson", desc := "(I)V" } : Jvm.MethodName)) ∈ lw_tbl := tk_5 (List.mem_of_getElem? (i := 81) rfl)
theorem se_X11_needLesson : Cond.selects RX11 yX11_needLesson yX11_needLesson ∈ lw_tbl := List.mem_append_left _ (List.mem_of_getElem? (i := 67) rfl)
theorem li_X11_156 : kLV RX11 156 RX11 yX11_needLesson cX11_needLesson 2 none 1 := ⟨tw_1039, tw_1041, se_X11_needLesson, tw_1042, tw_1, by decide +kernel⟩
theorem dX11_lesson_2 : decode cX11_lesson 2 = .ok (.invokevirtual 156, 3) := by decide +kernel
theorem dX11_day_0 : decode cX11_day 0 = .ok (.aload_n 0, 1) := by decide +kernel
theorem dX11_day_1 : decode cX11_day 1 = .ok (.iload_n 1, 1) := by decide +kernel
theorem dX11_day_2 : decode cX11_day 2 = .ok (.invokevirtual 156, 3) := by decide +kernel
theorem dX11_chain_0 : decode cX11_chain 0 = .ok (.aload_n 0, 1) := by decide +kernel
theorem dX11_chain_1 : decode cX11_chain 1 = .ok (.iload_n 1, 1) := by decide +kernel
theorem dX11_chain_2 : decode cX11_chain 2 = .ok (.invokevirtual 156, 3) := by decide +kernel
theorem dX11_become_0 : decode cX11_become 0 = .ok (.aload_n 0, 1) := by decide +kernel
theorem dX11_become_1 : decode cX11_become 1 = .ok (.iload_n 1, 1) := by decide +kernel
theorem dX11_become_2 : decode cX11_become 2 = .ok (.invokevirtual 156, 3) := by decide +kernel
theorem dX11_far_0 : decode cX11_far 0 = .ok (.aload_n 0, 1) := by decide +kernel
theorem dX11_far_1 : decode cX11_far 1 = .ok (.iload_n 1, 1) := by decide +kernel
theorem dX11_far_2 : decode cX11_far 2 = .ok (.invokevirtual 156, 3) := by decide +kernel
theorem dX11_reaches_0 : decode cX11_reaches 0 = .ok (.aload_n 0, 1) := by decide +kernel
theorem dX11_reaches_1 : decode cX11_reaches 1 = .ok (.iload_n 1, 1) := by decide +kernel
theorem dX11_reaches_2 : decode cX11_reaches 2 = .ok (.invokevirtual 156, 3) := by decide +kernel
theorem dX11_slack_0 : decode cX11_slack 0 = .ok (.aload_n 0, 1) := by decide +kernel
theorem dX11_slack_1 : decode cX11_slack 1 = .ok (.iload_n 1, 1) := by decide +kernel
theorem dX11_slack_2 : decode cX11_slack 2 = .ok (.invokevirtual 156, 3) := by decide +kernel
theorem dX11_gaps_0 : decode cX11_gaps 0 = .ok (.aload_n 0, 1) := by decide +kernel
theorem dX11_gaps_1 : decode cX11_gaps 1 = .ok (.iload_n 2, 1) := by decide +kernel
theorem dX11_gaps_2 : decode cX11_gaps 2 = .ok (.invokevirtual 156, 3) := by decide +kernel
theorem dX11_gap_0 : decode cX11_gap 0 = .ok (.aload_n 0, 1) := by decide +kernel
theorem dX11_gap_1 : decode cX11_gap 1 = .ok (.iload_n 1, 1) := by decide +kernel
theorem dX11_gap_2 : decode cX11_gap 2 = .ok (.invokevirtual 156, 3) := by decide +kernel
theorem dX11_chance_0 : decode cX11_chance 0 = .ok (.aload_n 0, 1) := by decide +kernel
theorem dX11_chance_1 : decode cX11_chance 1 = .ok (.iload_n 1, 1) := by decide +kernel
theorem dX11_chance_2 : decode cX11_chance 2 = .ok (.invokevirtual 156, 3) := by decide +kernel
theorem dX11_mean_0 : decode cX11_mean 0 = .ok (.aload_n 0, 1) := by decide +kernel
theorem dX11_mean_1 : decode cX11_mean 1 = .ok (.iload_n 1, 1) := by decide +kernel
theorem dX11_mean_2 : decode cX11_mean 2 = .ok (.invokevirtual 156, 3) := by decide +kernel
theorem dX11_room_0 : decode cX11_room 0 = .ok (.aload_n 0, 1) := by decide +kernel
theorem dX11_room_1 : decode cX11_room 1 = .ok (.iload_n 1, 1) := by decide +kernel
theorem dX11_room_2 : decode cX11_room 2 = .ok (.invokevirtual 156, 3) := by decide +kernel
theorem dX11_limit_0 : decode cX11_limit 0 = .ok (.aload_n 0, 1) := by decide +kernel
theorem dX11_limit_1 : decode cX11_limit 1 = .ok (.iload_n 1, 1) := by decide +kernel
theorem dX11_limit_2 : decode cX11_limit 2 = .ok (.invokevirtual 156, 3) := by decide +kernel
theorem dX11_see_0 : decode cX11_see 0 = .ok (.aload_n 0, 1) := by decide +kernel
theorem dX11_see_1 : decode cX11_see 1 = .ok (.iload_n 1, 1) := by decide +kernel
theorem dX11_see_2 : decode cX11_see 2 = .ok (.invokevirtual 156, 3) := by decide +kernel
theorem dX11_term_0 : decode cX11_term 0 = .ok (.aload_n 0, 1) := by decide +kernel
theorem dX11_term_1 : decode cX11_term 1 = .ok (.iload_n 3, 1) := by decide +kernel
theorem dX11_term_2 : decode cX11_term 2 = .ok (.invokevirtual 156, 3) := by decide +kernel
theorem dX11_shift_0 : decode cX11_shift 0 = .ok (.aload_n 0, 1) := by decide +kernel
theorem dX11_shift_1 : decode cX11_shift 1 = .ok (.iload_n 1, 1) := by decide +kernel
theorem dX11_shift_2 : decode cX11_shift 2 = .ok (.invokevirtual 156, 3) := by decide +kernel
theorem dX11_harm_0 : decode cX11_harm 0 = .ok (.aload_n 0, 1) := by decide +kernel
theorem dX11_harm_1 : decode cX11_harm 1 = .ok (.iload_n 1, 1) := by decide +kernel
theorem dX11_harm_2 : decode cX11_harm 2 = .ok (.invokevirtual 156, 3) := by decide +kernel
theorem dX11_obey_0 : decode cX11_obey 0 = .ok (.aload_n 0, 1) := by decide +kernel
theorem dX11_obey_1 : decode cX11_obey 1 = .ok (.iload_n 1, 1) := by decide +kernel
theorem tw_553 : (Jvm.Cond.methodLink "MarshBells" (235 : Nat) ({ cls := "MarshBells", name := "isRuleOrNone", desc := "(I)Z" } : Jvm.MethodName)) ∈ lw_tbl := tk_3 (List.mem_of_getElem? (i := 73) rfl)
theorem tw_556 : (Jvm.Cond.code ({ cls := "MarshBells", name := "isRuleOrNone", desc := "(I)Z" } : Jvm.MethodName) prog_1_method_46_code (2 : Nat) (Option.some Jvm.ClassFile.FieldType.boolean)) ∈ lw_tbl := tk_3 (List.mem_of_getElem? (i := 76) rfl)
theorem tw_555 : (Jvm.Cond.instanceMethod ({ cls := "MarshBells", name := "isRuleOrNone", desc := "(I)Z" } : Jvm.MethodName)) ∈ lw_tbl := tk_3 (List.mem_of_getElem? (i := 75) rfl)
theorem se_X11_isRuleOrNone : Cond.selects RX11 yX11_isRuleOrNone yX11_isRuleOrNone ∈ lw_tbl := List.mem_append_left _ (List.mem_of_getElem? (i := 1) rfl)
theorem li_X11_235 : kLV RX11 235 RX11 yX11_isRuleOrNone cX11_isRuleOrNone 2 (some .boolean) 1 := ⟨tw_553, tw_555, se_X11_isRuleOrNone, tw_556, tw_1, by decide +kernel⟩
theorem dX11_obey_2 : decode cX11_obey 2 = .ok (.invokevirtual 235, 3) := by decide +kernel
theorem dX11_obey_5 : decode cX11_obey 5 = .ok (.ifCond .ne 15, 3) := by decide +kernel
theorem dX11_obey_8 : decode cX11_obey 8 = .ok (.aload_n 0, 1) := by decide +kernel
theorem dX11_obey_9 : decode cX11_obey 9 = .ok (.getfield 13, 3) := by decide +kernel
theorem dX11_obey_12 : decode cX11_obey 12 = .ok (.iconst 1, 1) := by decide +kernel
theorem dX11_obey_13 : decode cX11_obey 13 = .ok (.dup2, 1) := by decide +kernel
theorem dX11_obey_14 : decode cX11_obey 14 = .ok (.iaload, 1) := by decide +kernel
theorem dX11_obey_15 : decode cX11_obey 15 = .ok (.iconst 1, 1) := by decide +kernel
theorem dX11_obey_16 : decode cX11_obey 16 = .ok (.iadd, 1) := by decide +kernel
theorem dX11_obey_17 : decode cX11_obey 17 = .ok (.iastore, 1) := by decide +kernel
theorem dX11_obey_18 : decode cX11_obey 18 = .ok (.iconst 0, 1) := by decide +kernel
theorem dX11_obey_19 : decode cX11_obey 19 = .ok (.ireturn, 1) := by decide +kernel
theorem dX11_obey_20 : decode cX11_obey 20 = .ok (.aload_n 0, 1) := by decide +kernel
theorem dX11_obey_21 : decode cX11_obey 21 = .ok (.getfield 41, 3) := by decide +kernel
theorem dX11_obey_24 : decode cX11_obey 24 = .ok (.iconst 4, 1) := by decide +kernel
theorem dX11_obey_25 : decode cX11_obey 25 = .ok (.iconst 0, 1) := by decide +kernel
theorem dX11_obey_26 : decode cX11_obey 26 = .ok (.aload_n 0, 1) := by decide +kernel
theorem dX11_obey_27 : decode cX11_obey 27 = .ok (.getfield 41, 3) := by decide +kernel
theorem dX11_obey_30 : decode cX11_obey 30 = .ok (.getfield 137, 3) := by decide +kernel
theorem tw_557 : (Jvm.Cond.methodLinkNest "MarshBells" (229 : Nat) ({ cls := "MarshBells$Held", name := "keepAct", desc := "(III)V" } : Jvm.MethodName) "MarshBells") ∈ lw_tbl := tk_3 (List.mem_of_getElem? (i := 77) rfl)
theorem tw_560 : (Jvm.Cond.code ({ cls := "MarshBells$Held", name := "keepAct", desc := "(III)V" } : Jvm.MethodName) prog_5_method_7_code (4 : Nat) (Option.none : Option Jvm.ClassFile.FieldType)) ∈ lw_tbl := tk_3 (List.mem_of_getElem? (i := 80) rfl)
theorem tw_559 : (Jvm.Cond.instanceMethod ({ cls := "MarshBells$Held", name := "keepAct", desc := "(III)V" } : Jvm.MethodName)) ∈ lw_tbl := tk_3 (List.mem_of_getElem? (i := 79) rfl)
theorem se_X3_keepAct : Cond.selects RX3 yX3_keepAct yX3_keepAct ∈ lw_tbl := List.mem_append_left _ (List.mem_of_getElem? (i := 2) rfl)
theorem li_X11_229 : kLN RX11 229 RX3 yX3_keepAct "MarshBells" cX3_keepAct 4 none 3 := ⟨tw_557, tw_559, se_X3_keepAct, tw_560, tw_6, by decide +kernel⟩
theorem dX11_obey_33 : decode cX11_obey 33 = .ok (.invokevirtual 229, 3) := by decide +kernel
theorem dX11_obey_36 : decode cX11_obey 36 = .ok (.aload_n 0, 1) := by decide +kernel
theorem dX11_obey_37 : decode cX11_obey 37 = .ok (.getfield 41, 3) := by decide +kernel
theorem dX11_obey_40 : decode cX11_obey 40 = .ok (.iload_n 1, 1) := by decide +kernel
theorem dX11_obey_41 : decode cX11_obey 41 = .ok (.putfield 137, 3) := by decide +kernel
theorem dX11_obey_44 : decode cX11_obey 44 = .ok (.iconst 1, 1) := by decide +kernel
theorem dX11_obey_45 : decode cX11_obey 45 = .ok (.ireturn, 1) := by decide +kernel
theorem dX11_undo_0 : decode cX11_undo 0 = .ok (.aload_n 0, 1) := by decide +kernel
theorem dX11_undo_1 : decode cX11_undo 1 = .ok (.getfield 41, 3) := by decide +kernel
theorem tw_572 : (Jvm.Cond.methodLinkNest "MarshBells" (239 : Nat) ({ cls := "MarshBells$Held", name := "takeBackAct", desc := "()I" } : Jvm.MethodName) "MarshBells") ∈ lw_tbl := tk_3 (List.mem_of_getElem? (i := 92) rfl)
theorem tw_575 : (Jvm.Cond.code ({ cls := "MarshBells$Held", name := "takeBackAct", desc := "()I" } : Jvm.MethodName) prog_5_method_9_code (1 : Nat) (Option.some Jvm.ClassFile.FieldType.int)) ∈ lw_tbl := tk_3 (List.mem_of_getElem? (i := 95) rfl)
theorem tw_574 : (Jvm.Cond.instanceMethod ({ cls := "MarshBells$Held", name := "takeBackAct", desc := "()I" } : Jvm.MethodName)) ∈ lw_tbl := tk_3 (List.mem_of_getElem? (i := 94) rfl)
theorem se_X3_takeBackAct : Cond.selects RX3 yX3_takeBackAct yX3_takeBackAct ∈ lw_tbl := List.mem_append_left _ (List.mem_of_getElem? (i := 4) rfl)
theorem li_X11_239 : kLN RX11 239 RX3 yX3_takeBackAct "MarshBells" cX3_takeBackAct 1 (some .int) 0 := ⟨tw_572, tw_574, se_X3_takeBackAct, tw_575, tw_6, by decide +kernel⟩
theorem dX11_undo_4 : decode cX11_undo 4 = .ok (.invokevirtual 239, 3) := by decide +kernel
theorem dX11_undo_7 : decode cX11_undo 7 = .ok (.ireturn, 1) := by decide +kernel
theorem dX11_swap_0 : decode cX11_swap 0 = .ok (.iload_n 1, 1) := by decide +kernel
theorem dX11_swap_1 : decode cX11_swap 1 = .ok (.iconst 2, 1) := by decide +kernel
theorem dX11_swap_2 : decode cX11_swap 2 = .ok (.invokestatic 121, 3) := by decide +kernel
theorem dX11_swap_5 : decode cX11_swap 5 = .ok (.aload_n 0, 1) := by decide +kernel
theorem dX11_swap_6 : decode cX11_swap 6 = .ok (.getfield 62, 3) := by decide +kernel
theorem dX11_swap_9 : decode cX11_swap 9 = .ok (.iload_n 1, 1) := by decide +kernel
theorem tw_1221 : (Jvm.Cond.methodLinkNest "MarshBells" (295 : Nat) ({ cls := "MarshBells$Trials", name := "swapped", desc := "(I)I" } : Jvm.MethodName) "MarshBells") ∈ lw_tbl := tk_6 (List.mem_of_getElem? (i := 21) rfl)
theorem tw_1224 : (Jvm.Cond.code ({ cls := "MarshBells$Trials", name := "swapped", desc := "(I)I" } : Jvm.MethodName) prog_12_method_10_code (5 : Nat) (Option.some Jvm.ClassFile.FieldType.int)) ∈ lw_tbl := tk_6 (List.mem_of_getElem? (i := 24) rfl)
theorem tw_1223 : (Jvm.Cond.instanceMethod ({ cls := "MarshBells$Trials", name := "swapped", desc := "(I)I" } : Jvm.MethodName)) ∈ lw_tbl := tk_6 (List.mem_of_getElem? (i := 23) rfl)
theorem se_X10_swapped : Cond.selects RX10 yX10_swapped yX10_swapped ∈ lw_tbl := List.mem_append_left _ (List.mem_of_getElem? (i := 86) rfl)
theorem li_X11_295 : kLN RX11 295 RX10 yX10_swapped "MarshBells" cX10_swapped 5 (some .int) 1 := ⟨tw_1221, tw_1223, se_X10_swapped, tw_1224, tw_8, by decide +kernel⟩
theorem dX11_swap_10 : decode cX11_swap 10 = .ok (.invokevirtual 295, 3) := by decide +kernel
theorem dX11_swap_13 : decode cX11_swap 13 = .ok (.ireturn, 1) := by decide +kernel
theorem dX11_last_0 : decode cX11_last 0 = .ok (.aload_n 0, 1) := by decide +kernel
theorem dX11_last_1 : decode cX11_last 1 = .ok (.getfield 62, 3) := by decide +kernel
theorem tw_588 : (Jvm.Cond.methodLinkNest "MarshBells" (301 : Nat) ({ cls := "MarshBells$Trials", name := "withoutOne", desc := "()I" } : Jvm.MethodName) "MarshBells") ∈ lw_tbl := tk_3 (List.mem_of_getElem? (i := 108) rfl)
theorem tw_591 : (Jvm.Cond.code ({ cls := "MarshBells$Trials", name := "withoutOne", desc := "()I" } : Jvm.MethodName) prog_12_method_12_code (2 : Nat) (Option.some Jvm.ClassFile.FieldType.int)) ∈ lw_tbl := tk_3 (List.mem_of_getElem? (i := 111) rfl)
theorem tw_590 : (Jvm.Cond.instanceMethod ({ cls := "MarshBells$Trials", name := "withoutOne", desc := "()I" } : Jvm.MethodName)) ∈ lw_tbl := tk_3 (List.mem_of_getElem? (i := 110) rfl)
theorem se_X10_withoutOne : Cond.selects RX10 yX10_withoutOne yX10_withoutOne ∈ lw_tbl := List.mem_append_left _ (List.mem_of_getElem? (i := 7) rfl)
theorem li_X11_301 : kLN RX11 301 RX10 yX10_withoutOne "MarshBells" cX10_withoutOne 2 (some .int) 0 := ⟨tw_588, tw_590, se_X10_withoutOne, tw_591, tw_8, by decide +kernel⟩
theorem dX11_last_4 : decode cX11_last 4 = .ok (.invokevirtual 301, 3) := by decide +kernel
theorem dX11_last_7 : decode cX11_last 7 = .ok (.ireturn, 1) := by decide +kernel
theorem dX11_pair_0 : decode cX11_pair 0 = .ok (.iload_n 1, 1) := by decide +kernel
theorem dX11_pair_1 : decode cX11_pair 1 = .ok (.iconst 2, 1) := by decide +kernel
theorem dX11_pair_2 : decode cX11_pair 2 = .ok (.invokestatic 121, 3) := by decide +kernel
theorem dX11_pair_5 : decode cX11_pair 5 = .ok (.aload_n 0, 1) := by decide +kernel
theorem dX11_pair_6 : decode cX11_pair 6 = .ok (.getfield 62, 3) := by decide +kernel
theorem dX11_pair_9 : decode cX11_pair 9 = .ok (.iload_n 1, 1) := by decide +kernel
theorem tw_1398 : (Jvm.Cond.methodLinkNest "MarshBells" (362 : Nat) ({ cls := "MarshBells$Trials", name := "withoutTwo", desc := "(I)I" } : Jvm.MethodName) "MarshBells") ∈ lw_tbl := tk_6 (List.mem_of_getElem? (i := 198) rfl)
theorem tw_1401 : (Jvm.Cond.code ({ cls := "MarshBells$Trials", name := "withoutTwo", desc := "(I)I" } : Jvm.MethodName) prog_12_method_13_code (4 : Nat) (Option.some Jvm.ClassFile.FieldType.int)) ∈ lw_tbl := tk_6 (List.mem_of_getElem? (i := 201) rfl)
theorem tw_1400 : (Jvm.Cond.instanceMethod ({ cls := "MarshBells$Trials", name := "withoutTwo", desc := "(I)I" } : Jvm.MethodName)) ∈ lw_tbl := tk_6 (List.mem_of_getElem? (i := 200) rfl)
theorem se_X10_withoutTwo : Cond.selects RX10 yX10_withoutTwo yX10_withoutTwo ∈ lw_tbl := List.mem_append_left _ (List.mem_of_getElem? (i := 105) rfl)
theorem li_X11_362 : kLN RX11 362 RX10 yX10_withoutTwo "MarshBells" cX10_withoutTwo 4 (some .int) 1 := ⟨tw_1398, tw_1400, se_X10_withoutTwo, tw_1401, tw_8, by decide +kernel⟩
theorem dX11_pair_10 : decode cX11_pair 10 = .ok (.invokevirtual 362, 3) := by decide +kernel
theorem dX11_pair_13 : decode cX11_pair 13 = .ok (.ireturn, 1) := by decide +kernel
theorem dX11_pause_0 : decode cX11_pause 0 = .ok (.iload_n 2, 1) := by decide +kernel
theorem dX11_pause_1 : decode cX11_pause 1 = .ok (.iconst 2, 1) := by decide +kernel
theorem dX11_pause_2 : decode cX11_pause 2 = .ok (.invokestatic 121, 3) := by decide +kernel
theorem dX11_pause_5 : decode cX11_pause 5 = .ok (.iload_n 1, 1) := by decide +kernel
theorem dX11_pause_6 : decode cX11_pause 6 = .ok (.iconst 1, 1) := by decide +kernel
theorem dX11_pause_7 : decode cX11_pause 7 = .ok (.bipush 30, 2) := by decide +kernel
theorem tw_1080 : (Jvm.Cond.methodLink "MarshBells" (243 : Nat) ({ cls := "MarshBells", name := "needWithin", desc := "(III)V" } : Jvm.MethodName)) ∈ lw_tbl := tk_5 (List.mem_of_getElem? (i := 120) rfl)
theorem tw_1082 : (Jvm.Cond.code ({ cls := "MarshBells", name := "needWithin", desc := "(III)V" } : Jvm.MethodName) prog_1_method_45_code (3 : Nat) (Option.none : Option Jvm.ClassFile.FieldType)) ∈ lw_tbl := tk_5 (List.mem_of_getElem? (i := 122) rfl)
theorem tw_1081 : (Jvm.Cond.static ({ cls := "MarshBells", name := "needWithin", desc := "(III)V" } : Jvm.MethodName)) ∈ lw_tbl := tk_5 (List.mem_of_getElem? (i := 121) rfl)
theorem li_X11_243 : kLS RX11 243 yX11_needWithin cX11_needWithin 3 none 3 := ⟨tw_1080, tw_1081, tw_1082, tw_1, by decide +kernel⟩
theorem dX11_pause_9 : decode cX11_pause 9 = .ok (.invokestatic 243, 3) := by decide +kernel
theorem dX11_pause_12 : decode cX11_pause 12 = .ok (.aload_n 0, 1) := by decide +kernel
theorem dX11_pause_13 : decode cX11_pause 13 = .ok (.getfield 62, 3) := by decide +kernel
theorem dX11_pause_16 : decode cX11_pause 16 = .ok (.iload_n 1, 1) := by decide +kernel
theorem dX11_pause_17 : decode cX11_pause 17 = .ok (.iload_n 2, 1) := by decide +kernel
theorem tw_1409 : (Jvm.Cond.methodLinkNest "MarshBells" (365 : Nat) ({ cls := "MarshBells$Trials", name := "leastByPause", desc := "(II)I" } : Jvm.MethodName) "MarshBells") ∈ lw_tbl := tk_6 (List.mem_of_getElem? (i := 209) rfl)
theorem tw_1412 : (Jvm.Cond.code ({ cls := "MarshBells$Trials", name := "leastByPause", desc := "(II)I" } : Jvm.MethodName) prog_12_method_23_code (5 : Nat) (Option.some Jvm.ClassFile.FieldType.int)) ∈ lw_tbl := tk_6 (List.mem_of_getElem? (i := 212) rfl)
theorem tw_1411 : (Jvm.Cond.instanceMethod ({ cls := "MarshBells$Trials", name := "leastByPause", desc := "(II)I" } : Jvm.MethodName)) ∈ lw_tbl := tk_6 (List.mem_of_getElem? (i := 211) rfl)
theorem se_X10_leastByPause : Cond.selects RX10 yX10_leastByPause yX10_leastByPause ∈ lw_tbl := List.mem_append_left _ (List.mem_of_getElem? (i := 106) rfl)
theorem li_X11_365 : kLN RX11 365 RX10 yX10_leastByPause "MarshBells" cX10_leastByPause 5 (some .int) 2 := ⟨tw_1409, tw_1411, se_X10_leastByPause, tw_1412, tw_8, by decide +kernel⟩
theorem dX11_pause_18 : decode cX11_pause 18 = .ok (.invokevirtual 365, 3) := by decide +kernel
theorem dX11_pause_21 : decode cX11_pause 21 = .ok (.ireturn, 1) := by decide +kernel
theorem dX11_compare_0 : decode cX11_compare 0 = .ok (.aload_n 0, 1) := by decide +kernel
theorem dX11_compare_1 : decode cX11_compare 1 = .ok (.iload_n 1, 1) := by decide +kernel
theorem dX11_compare_2 : decode cX11_compare 2 = .ok (.invokevirtual 235, 3) := by decide +kernel
theorem dX11_compare_5 : decode cX11_compare 5 = .ok (.ifCond .ne 11, 3) := by decide +kernel
theorem dX11_compare_8 : decode cX11_compare 8 = .ok (.new 219, 3) := by decide +kernel
theorem dX11_compare_11 : decode cX11_compare 11 = .ok (.dup, 1) := by decide +kernel
theorem dX11_compare_12 : decode cX11_compare 12 = .ok (.invokespecial 221, 3) := by decide +kernel
theorem dX11_compare_15 : decode cX11_compare 15 = .ok (.athrow, 1) := by decide +kernel
theorem dX11_compare_16 : decode cX11_compare 16 = .ok (.aload_n 0, 1) := by decide +kernel
theorem dX11_compare_17 : decode cX11_compare 17 = .ok (.getfield 62, 3) := by decide +kernel
theorem dX11_compare_20 : decode cX11_compare 20 = .ok (.iload_n 1, 1) := by decide +kernel
theorem tw_1257 : (Jvm.Cond.methodLinkNest "MarshBells" (304 : Nat) ({ cls := "MarshBells$Trials", name := "lostByRule", desc := "(I)I" } : Jvm.MethodName) "MarshBells") ∈ lw_tbl := tk_6 (List.mem_of_getElem? (i := 57) rfl)
theorem li_X11_304 : kLN RX11 304 RX10 yX10_lostByRule "MarshBells" cX10_lostByRule 4 (some .int) 1 := ⟨tw_1257, tw_678, se_X10_lostByRule, tw_679, tw_8, by decide +kernel⟩
theorem dX11_compare_21 : decode cX11_compare 21 = .ok (.invokevirtual 304, 3) := by decide +kernel
theorem dX11_compare_24 : decode cX11_compare 24 = .ok (.ireturn, 1) := by decide +kernel
theorem dX11_best_0 : decode cX11_best 0 = .ok (.aload_n 0, 1) := by decide +kernel
theorem dX11_best_1 : decode cX11_best 1 = .ok (.getfield 62, 3) := by decide +kernel
theorem tw_672 : (Jvm.Cond.methodLinkNest "MarshBells" (307 : Nat) ({ cls := "MarshBells$Trials", name := "bestRule", desc := "()I" } : Jvm.MethodName) "MarshBells") ∈ lw_tbl := tk_3 (List.mem_of_getElem? (i := 192) rfl)
theorem tw_675 : (Jvm.Cond.code ({ cls := "MarshBells$Trials", name := "bestRule", desc := "()I" } : Jvm.MethodName) prog_12_method_16_code (2 : Nat) (Option.some Jvm.ClassFile.FieldType.int)) ∈ lw_tbl := tk_3 (List.mem_of_getElem? (i := 195) rfl)
theorem tw_674 : (Jvm.Cond.instanceMethod ({ cls := "MarshBells$Trials", name := "bestRule", desc := "()I" } : Jvm.MethodName)) ∈ lw_tbl := tk_3 (List.mem_of_getElem? (i := 194) rfl)
theorem se_X10_bestRule : Cond.selects RX10 yX10_bestRule yX10_bestRule ∈ lw_tbl := List.mem_append_left _ (List.mem_of_getElem? (i := 24) rfl)
theorem li_X11_307 : kLN RX11 307 RX10 yX10_bestRule "MarshBells" cX10_bestRule 2 (some .int) 0 := ⟨tw_672, tw_674, se_X10_bestRule, tw_675, tw_8, by decide +kernel⟩
theorem dX11_best_4 : decode cX11_best 4 = .ok (.invokevirtual 307, 3) := by decide +kernel
theorem dX11_best_7 : decode cX11_best 7 = .ok (.ireturn, 1) := by decide +kernel
theorem dX11_bell_0 : decode cX11_bell 0 = .ok (.iload_n 1, 1) := by decide +kernel
theorem dX11_bell_1 : decode cX11_bell 1 = .ok (.iconst 0, 1) := by decide +kernel
theorem dX11_bell_2 : decode cX11_bell 2 = .ok (.bipush 60, 2) := by decide +kernel
theorem dX11_bell_4 : decode cX11_bell 4 = .ok (.invokestatic 243, 3) := by decide +kernel
theorem dX11_bell_7 : decode cX11_bell 7 = .ok (.aload_n 0, 1) := by decide +kernel
theorem dX11_bell_8 : decode cX11_bell 8 = .ok (.getfield 62, 3) := by decide +kernel
theorem dX11_bell_11 : decode cX11_bell 11 = .ok (.iload_n 1, 1) := by decide +kernel
theorem tw_1265 : (Jvm.Cond.methodLinkNest "MarshBells" (310 : Nat) ({ cls := "MarshBells$Trials", name := "worthOfBell", desc := "(I)I" } : Jvm.MethodName) "MarshBells") ∈ lw_tbl := tk_6 (List.mem_of_getElem? (i := 65) rfl)
theorem tw_1268 : (Jvm.Cond.code ({ cls := "MarshBells$Trials", name := "worthOfBell", desc := "(I)I" } : Jvm.MethodName) prog_12_method_17_code (4 : Nat) (Option.some Jvm.ClassFile.FieldType.int)) ∈ lw_tbl := tk_6 (List.mem_of_getElem? (i := 68) rfl)
theorem tw_1267 : (Jvm.Cond.instanceMethod ({ cls := "MarshBells$Trials", name := "worthOfBell", desc := "(I)I" } : Jvm.MethodName)) ∈ lw_tbl := tk_6 (List.mem_of_getElem? (i := 67) rfl)
theorem se_X10_worthOfBell : Cond.selects RX10 yX10_worthOfBell yX10_worthOfBell ∈ lw_tbl := List.mem_append_left _ (List.mem_of_getElem? (i := 89) rfl)
theorem li_X11_310 : kLN RX11 310 RX10 yX10_worthOfBell "MarshBells" cX10_worthOfBell 4 (some .int) 1 := ⟨tw_1265, tw_1267, se_X10_worthOfBell, tw_1268, tw_8, by decide +kernel⟩
theorem dX11_bell_12 : decode cX11_bell 12 = .ok (.invokevirtual 310, 3) := by decide +kernel
theorem dX11_bell_15 : decode cX11_bell 15 = .ok (.ireturn, 1) := by decide +kernel
theorem dX11_forget_0 : decode cX11_forget 0 = .ok (.aload_n 0, 1) := by decide +kernel
theorem dX11_forget_1 : decode cX11_forget 1 = .ok (.getfield 41, 3) := by decide +kernel
theorem dX11_forget_4 : decode cX11_forget 4 = .ok (.iconst 0, 1) := by decide +kernel
theorem dX11_forget_5 : decode cX11_forget 5 = .ok (.putfield 149, 3) := by decide +kernel
theorem dX11_forget_8 : decode cX11_forget 8 = .ok (.return_, 1) := by decide +kernel
theorem dX11_fits_0 : decode cX11_fits 0 = .ok (.iload_n 1, 1) := by decide +kernel
theorem dX11_fits_1 : decode cX11_fits 1 = .ok (.iconst 3, 1) := by decide +kernel
theorem dX11_fits_2 : decode cX11_fits 2 = .ok (.invokestatic 121, 3) := by decide +kernel
theorem dX11_fits_5 : decode cX11_fits 5 = .ok (.aload_n 0, 1) := by decide +kernel
theorem dX11_fits_6 : decode cX11_fits 6 = .ok (.getfield 62, 3) := by decide +kernel
theorem tw_1288 : (Jvm.Cond.methodLinkNest "MarshBells" (316 : Nat) ({ cls := "MarshBells$Trials", name := "findBeginners", desc := "()V" } : Jvm.MethodName) "MarshBells") ∈ lw_tbl := tk_6 (List.mem_of_getElem? (i := 88) rfl)
theorem tw_1291 : (Jvm.Cond.code ({ cls := "MarshBells$Trials", name := "findBeginners", desc := "()V" } : Jvm.MethodName) prog_12_method_18_code (4 : Nat) (Option.none : Option Jvm.ClassFile.FieldType)) ∈ lw_tbl := tk_6 (List.mem_of_getElem? (i := 91) rfl)
theorem tw_1290 : (Jvm.Cond.instanceMethod ({ cls := "MarshBells$Trials", name := "findBeginners", desc := "()V" } : Jvm.MethodName)) ∈ lw_tbl := tk_6 (List.mem_of_getElem? (i := 90) rfl)
theorem se_X10_findBeginners : Cond.selects RX10 yX10_findBeginners yX10_findBeginners ∈ lw_tbl := List.mem_append_left _ (List.mem_of_getElem? (i := 91) rfl)
theorem li_X11_316 : kLN RX11 316 RX10 yX10_findBeginners "MarshBells" cX10_findBeginners 4 none 0 := ⟨tw_1288, tw_1290, se_X10_findBeginners, tw_1291, tw_8, by decide +kernel⟩
theorem dX11_fits_9 : decode cX11_fits 9 = .ok (.invokevirtual 316, 3) := by decide +kernel
theorem dX11_fits_12 : decode cX11_fits 12 = .ok (.iload_n 1, 1) := by decide +kernel
theorem k_rng3 {x : Int32} (h0 : ¬ x < 0) (h1 : x < 3) : x = 0 ∨ x = 1 ∨ x = 2 := by
  rcases pk_ix x (n := 3) (by decide) with h | h | ⟨j, hj, rfl⟩
  · exact absurd h h0
  · exact absurd h (by have h9 := h1; rw [Int32.lt_iff_toInt_lt] at h9; rw [Int32.le_iff_toInt_le]; exact Int.not_le.mpr h9)
  · exact match j, hj with | 0, _ => Or.inl rfl | 1, _ => Or.inr (Or.inl rfl) | 2, _ => Or.inr (Or.inr (rfl)) | j + 3, hj => absurd hj (by omega)
theorem dX11_fits_13 : decode cX11_fits 13 = .ok (.lookupswitch 43 #[(0, 27), (1, 35)], 27) := by decide +kernel
theorem dX11_fits_40 : decode cX11_fits 40 = .ok (.aload_n 0, 1) := by decide +kernel
theorem dX11_fits_41 : decode cX11_fits 41 = .ok (.getfield 62, 3) := by decide +kernel
theorem tw_374 : (Jvm.Cond.fieldLinkNest "MarshBells" (319 : Nat) "MarshBells$Trials" "fitting" "I" "MarshBells") ∈ lw_tbl := tk_2 (List.mem_of_getElem? (i := 134) rfl)
theorem fl_X11_319 : kFN RX11 319 10 7 4 := ⟨RX10, TX10, rfl, by decide, inWX10, tw_374⟩
theorem dX11_fits_44 : decode cX11_fits 44 = .ok (.getfield 319, 3) := by decide +kernel
theorem dX11_fits_47 : decode cX11_fits 47 = .ok (.ireturn, 1) := by decide +kernel
theorem dX11_fits_48 : decode cX11_fits 48 = .ok (.aload_n 0, 1) := by decide +kernel
theorem dX11_fits_49 : decode cX11_fits 49 = .ok (.getfield 62, 3) := by decide +kernel
theorem tw_376 : (Jvm.Cond.fieldLinkNest "MarshBells" (322 : Nat) "MarshBells$Trials" "firstFitting" "I" "MarshBells") ∈ lw_tbl := tk_2 (List.mem_of_getElem? (i := 136) rfl)
theorem fl_X11_322 : kFN RX11 322 10 7 5 := ⟨RX10, TX10, rfl, by decide, inWX10, tw_376⟩
theorem dX11_fits_52 : decode cX11_fits 52 = .ok (.getfield 322, 3) := by decide +kernel
theorem dX11_fits_55 : decode cX11_fits 55 = .ok (.ireturn, 1) := by decide +kernel
theorem dX11_fits_56 : decode cX11_fits 56 = .ok (.aload_n 0, 1) := by decide +kernel
theorem dX11_fits_57 : decode cX11_fits 57 = .ok (.getfield 62, 3) := by decide +kernel
theorem tw_378 : (Jvm.Cond.fieldLinkNest "MarshBells" (325 : Nat) "MarshBells$Trials" "surely" "I" "MarshBells") ∈ lw_tbl := tk_2 (List.mem_of_getElem? (i := 138) rfl)
theorem fl_X11_325 : kFN RX11 325 10 7 6 := ⟨RX10, TX10, rfl, by decide, inWX10, tw_378⟩
theorem dX11_fits_60 : decode cX11_fits 60 = .ok (.getfield 325, 3) := by decide +kernel
theorem dX11_fits_63 : decode cX11_fits 63 = .ok (.ireturn, 1) := by decide +kernel
theorem dX11_streams_0 : decode cX11_streams 0 = .ok (.aload_n 0, 1) := by decide +kernel
theorem dX11_streams_1 : decode cX11_streams 1 = .ok (.getfield 83, 3) := by decide +kernel
theorem tw_688 : (Jvm.Cond.methodLinkNest "MarshBells" (328 : Nat) ({ cls := "MarshBells$Stair", name := "gather", desc := "()V" } : Jvm.MethodName) "MarshBells") ∈ lw_tbl := tk_3 (List.mem_of_getElem? (i := 208) rfl)
theorem tw_691 : (Jvm.Cond.code ({ cls := "MarshBells$Stair", name := "gather", desc := "()V" } : Jvm.MethodName) prog_11_method_2_code (5 : Nat) (Option.none : Option Jvm.ClassFile.FieldType)) ∈ lw_tbl := tk_3 (List.mem_of_getElem? (i := 211) rfl)
theorem tw_690 : (Jvm.Cond.instanceMethod ({ cls := "MarshBells$Stair", name := "gather", desc := "()V" } : Jvm.MethodName)) ∈ lw_tbl := tk_3 (List.mem_of_getElem? (i := 210) rfl)
theorem se_X9_gather : Cond.selects RX9 yX9_gather yX9_gather ∈ lw_tbl := List.mem_append_left _ (List.mem_of_getElem? (i := 26) rfl)
theorem li_X11_328 : kLN RX11 328 RX9 yX9_gather "MarshBells" cX9_gather 5 none 0 := ⟨tw_688, tw_690, se_X9_gather, tw_691, tw_12, by decide +kernel⟩
theorem dX11_streams_4 : decode cX11_streams 4 = .ok (.invokevirtual 328, 3) := by decide +kernel
theorem dX11_streams_7 : decode cX11_streams 7 = .ok (.aload_n 0, 1) := by decide +kernel
theorem dX11_streams_8 : decode cX11_streams 8 = .ok (.getfield 83, 3) := by decide +kernel
theorem tw_702 : (Jvm.Cond.methodLinkNest "MarshBells" (331 : Nat) ({ cls := "MarshBells$Stair", name := "crossings", desc := "()I" } : Jvm.MethodName) "MarshBells") ∈ lw_tbl := tk_3 (List.mem_of_getElem? (i := 222) rfl)
theorem tw_705 : (Jvm.Cond.code ({ cls := "MarshBells$Stair", name := "crossings", desc := "()I" } : Jvm.MethodName) prog_11_method_4_code (5 : Nat) (Option.some Jvm.ClassFile.FieldType.int)) ∈ lw_tbl := tk_3 (List.mem_of_getElem? (i := 225) rfl)
theorem tw_704 : (Jvm.Cond.instanceMethod ({ cls := "MarshBells$Stair", name := "crossings", desc := "()I" } : Jvm.MethodName)) ∈ lw_tbl := tk_3 (List.mem_of_getElem? (i := 224) rfl)
theorem se_X9_crossings : Cond.selects RX9 yX9_crossings yX9_crossings ∈ lw_tbl := List.mem_append_left _ (List.mem_of_getElem? (i := 29) rfl)
theorem li_X11_331 : kLN RX11 331 RX9 yX9_crossings "MarshBells" cX9_crossings 5 (some .int) 0 := ⟨tw_702, tw_704, se_X9_crossings, tw_705, tw_12, by decide +kernel⟩
theorem dX11_streams_11 : decode cX11_streams 11 = .ok (.invokevirtual 331, 3) := by decide +kernel
theorem dX11_streams_14 : decode cX11_streams 14 = .ok (.ireturn, 1) := by decide +kernel
theorem dX11_on_0 : decode cX11_on 0 = .ok (.iload_n 2, 1) := by decide +kernel
theorem dX11_on_1 : decode cX11_on 1 = .ok (.iconst 2, 1) := by decide +kernel
theorem dX11_on_2 : decode cX11_on 2 = .ok (.invokestatic 121, 3) := by decide +kernel
theorem dX11_on_5 : decode cX11_on 5 = .ok (.iload_n 1, 1) := by decide +kernel
theorem dX11_on_6 : decode cX11_on 6 = .ok (.iconst 0, 1) := by decide +kernel
theorem dX11_on_7 : decode cX11_on 7 = .ok (.sipush 4000, 3) := by decide +kernel
theorem dX11_on_10 : decode cX11_on 10 = .ok (.invokestatic 243, 3) := by decide +kernel
theorem dX11_on_13 : decode cX11_on 13 = .ok (.aload_n 0, 1) := by decide +kernel
theorem dX11_on_14 : decode cX11_on 14 = .ok (.getfield 83, 3) := by decide +kernel
theorem dX11_on_17 : decode cX11_on 17 = .ok (.invokevirtual 328, 3) := by decide +kernel
theorem dX11_on_20 : decode cX11_on 20 = .ok (.iload_n 2, 1) := by decide +kernel
theorem dX11_on_21 : decode cX11_on 21 = .ok (.ifCond .ne 14, 3) := by decide +kernel
theorem dX11_on_35 : decode cX11_on 35 = .ok (.aload_n 0, 1) := by decide +kernel
theorem dX11_on_36 : decode cX11_on 36 = .ok (.getfield 83, 3) := by decide +kernel
theorem dX11_on_39 : decode cX11_on 39 = .ok (.iload_n 1, 1) := by decide +kernel
theorem tw_1334 : (Jvm.Cond.methodLinkNest "MarshBells" (341 : Nat) ({ cls := "MarshBells$Stair", name := "peopleIn", desc := "(I)I" } : Jvm.MethodName) "MarshBells") ∈ lw_tbl := tk_6 (List.mem_of_getElem? (i := 134) rfl)
theorem tw_1337 : (Jvm.Cond.code ({ cls := "MarshBells$Stair", name := "peopleIn", desc := "(I)I" } : Jvm.MethodName) prog_11_method_5_code (4 : Nat) (Option.some Jvm.ClassFile.FieldType.int)) ∈ lw_tbl := tk_6 (List.mem_of_getElem? (i := 137) rfl)
theorem tw_1336 : (Jvm.Cond.instanceMethod ({ cls := "MarshBells$Stair", name := "peopleIn", desc := "(I)I" } : Jvm.MethodName)) ∈ lw_tbl := tk_6 (List.mem_of_getElem? (i := 136) rfl)
theorem se_X9_peopleIn : Cond.selects RX9 yX9_peopleIn yX9_peopleIn ∈ lw_tbl := List.mem_append_left _ (List.mem_of_getElem? (i := 98) rfl)
theorem li_X11_341 : kLN RX11 341 RX9 yX9_peopleIn "MarshBells" cX9_peopleIn 4 (some .int) 1 := ⟨tw_1334, tw_1336, se_X9_peopleIn, tw_1337, tw_12, by decide +kernel⟩
theorem dX11_on_40 : decode cX11_on 40 = .ok (.invokevirtual 341, 3) := by decide +kernel
theorem dX11_on_43 : decode cX11_on 43 = .ok (.ireturn, 1) := by decide +kernel
theorem dX11_on_24 : decode cX11_on 24 = .ok (.aload_n 0, 1) := by decide +kernel
theorem dX11_on_25 : decode cX11_on 25 = .ok (.getfield 53, 3) := by decide +kernel
theorem dX11_on_28 : decode cX11_on 28 = .ok (.iload_n 1, 1) := by decide +kernel
theorem tw_1330 : (Jvm.Cond.methodLinkNest "MarshBells" (338 : Nat) ({ cls := "MarshBells$Day", name := "onBits", desc := "(I)I" } : Jvm.MethodName) "MarshBells") ∈ lw_tbl := tk_6 (List.mem_of_getElem? (i := 130) rfl)
theorem tw_1333 : (Jvm.Cond.code ({ cls := "MarshBells$Day", name := "onBits", desc := "(I)I" } : Jvm.MethodName) prog_3_method_16_code (4 : Nat) (Option.some Jvm.ClassFile.FieldType.int)) ∈ lw_tbl := tk_6 (List.mem_of_getElem? (i := 133) rfl)
theorem tw_1332 : (Jvm.Cond.instanceMethod ({ cls := "MarshBells$Day", name := "onBits", desc := "(I)I" } : Jvm.MethodName)) ∈ lw_tbl := tk_6 (List.mem_of_getElem? (i := 132) rfl)
theorem se_X1_onBits : Cond.selects RX1 yX1_onBits yX1_onBits ∈ lw_tbl := List.mem_append_left _ (List.mem_of_getElem? (i := 97) rfl)
theorem li_X11_338 : kLN RX11 338 RX1 yX1_onBits "MarshBells" cX1_onBits 4 (some .int) 1 := ⟨tw_1330, tw_1332, se_X1_onBits, tw_1333, tw_7, by decide +kernel⟩
theorem dX11_on_29 : decode cX11_on 29 = .ok (.invokevirtual 338, 3) := by decide +kernel
theorem dX11_on_32 : decode cX11_on 32 = .ok (.goto 11, 3) := by decide +kernel
theorem dX11_busiest_0 : decode cX11_busiest 0 = .ok (.iload_n 1, 1) := by decide +kernel
theorem dX11_busiest_1 : decode cX11_busiest 1 = .ok (.iconst 2, 1) := by decide +kernel
theorem dX11_busiest_2 : decode cX11_busiest 2 = .ok (.invokestatic 121, 3) := by decide +kernel
theorem dX11_busiest_5 : decode cX11_busiest 5 = .ok (.aload_n 0, 1) := by decide +kernel
theorem dX11_busiest_6 : decode cX11_busiest 6 = .ok (.getfield 83, 3) := by decide +kernel
theorem dX11_busiest_9 : decode cX11_busiest 9 = .ok (.invokevirtual 328, 3) := by decide +kernel
theorem dX11_busiest_12 : decode cX11_busiest 12 = .ok (.aload_n 0, 1) := by decide +kernel
theorem dX11_busiest_13 : decode cX11_busiest 13 = .ok (.getfield 83, 3) := by decide +kernel
theorem tw_1364 : (Jvm.Cond.methodLinkNest "MarshBells" (350 : Nat) ({ cls := "MarshBells$Stair", name := "busiestMinute", desc := "()I" } : Jvm.MethodName) "MarshBells") ∈ lw_tbl := tk_6 (List.mem_of_getElem? (i := 164) rfl)
theorem tw_1367 : (Jvm.Cond.code ({ cls := "MarshBells$Stair", name := "busiestMinute", desc := "()I" } : Jvm.MethodName) prog_11_method_6_code (5 : Nat) (Option.some Jvm.ClassFile.FieldType.int)) ∈ lw_tbl := tk_6 (List.mem_of_getElem? (i := 167) rfl)
theorem tw_1366 : (Jvm.Cond.instanceMethod ({ cls := "MarshBells$Stair", name := "busiestMinute", desc := "()I" } : Jvm.MethodName)) ∈ lw_tbl := tk_6 (List.mem_of_getElem? (i := 166) rfl)
theorem se_X9_busiestMinute : Cond.selects RX9 yX9_busiestMinute yX9_busiestMinute ∈ lw_tbl := List.mem_append_left _ (List.mem_of_getElem? (i := 102) rfl)
theorem li_X11_350 : kLN RX11 350 RX9 yX9_busiestMinute "MarshBells" cX9_busiestMinute 5 (some .int) 0 := ⟨tw_1364, tw_1366, se_X9_busiestMinute, tw_1367, tw_12, by decide +kernel⟩
theorem dX11_busiest_16 : decode cX11_busiest 16 = .ok (.invokevirtual 350, 3) := by decide +kernel
theorem dX11_busiest_19 : decode cX11_busiest 19 = .ok (.istore_n 2, 1) := by decide +kernel
theorem dX11_busiest_20 : decode cX11_busiest 20 = .ok (.iload_n 1, 1) := by decide +kernel
theorem dX11_busiest_21 : decode cX11_busiest 21 = .ok (.iconst 1, 1) := by decide +kernel
theorem dX11_busiest_22 : decode cX11_busiest 22 = .ok (.if_icmp .ne 5, 3) := by decide +kernel
theorem dX11_busiest_27 : decode cX11_busiest 27 = .ok (.iload_n 2, 1) := by decide +kernel
theorem dX11_busiest_28 : decode cX11_busiest 28 = .ok (.iconst (-1), 1) := by decide +kernel
theorem dX11_busiest_29 : decode cX11_busiest 29 = .ok (.if_icmp .ne 7, 3) := by decide +kernel
theorem dX11_busiest_32 : decode cX11_busiest 32 = .ok (.iconst 0, 1) := by decide +kernel
theorem dX11_busiest_33 : decode cX11_busiest 33 = .ok (.goto 11, 3) := by decide +kernel
theorem dX11_busiest_44 : decode cX11_busiest 44 = .ok (.ireturn, 1) := by decide +kernel
theorem dX11_busiest_25 : decode cX11_busiest 25 = .ok (.iload_n 2, 1) := by decide +kernel
theorem dX11_busiest_26 : decode cX11_busiest 26 = .ok (.ireturn, 1) := by decide +kernel
theorem dX11_clash_0 : decode cX11_clash 0 = .ok (.iload_n 1, 1) := by decide +kernel
theorem dX11_clash_1 : decode cX11_clash 1 = .ok (.iconst 2, 1) := by decide +kernel
theorem dX11_clash_2 : decode cX11_clash 2 = .ok (.invokestatic 121, 3) := by decide +kernel
theorem dX11_clash_5 : decode cX11_clash 5 = .ok (.aload_n 0, 1) := by decide +kernel
theorem dX11_clash_6 : decode cX11_clash 6 = .ok (.getfield 53, 3) := by decide +kernel
theorem dX11_clash_9 : decode cX11_clash 9 = .ok (.iconst 0, 1) := by decide +kernel
theorem dX11_clash_10 : decode cX11_clash 10 = .ok (.invokevirtual 201, 3) := by decide +kernel
theorem dX11_clash_13 : decode cX11_clash 13 = .ok (.iload_n 1, 1) := by decide +kernel
theorem dX11_clash_14 : decode cX11_clash 14 = .ok (.ifCond .ne 13, 3) := by decide +kernel
theorem dX11_clash_27 : decode cX11_clash 27 = .ok (.aload_n 0, 1) := by decide +kernel
theorem dX11_clash_28 : decode cX11_clash 28 = .ok (.getfield 53, 3) := by decide +kernel
theorem tw_1353 : (Jvm.Cond.methodLinkNest "MarshBells" (347 : Nat) ({ cls := "MarshBells$Day", name := "firstClash", desc := "()I" } : Jvm.MethodName) "MarshBells") ∈ lw_tbl := tk_6 (List.mem_of_getElem? (i := 153) rfl)
theorem tw_1356 : (Jvm.Cond.code ({ cls := "MarshBells$Day", name := "firstClash", desc := "()I" } : Jvm.MethodName) prog_3_method_19_code (5 : Nat) (Option.some Jvm.ClassFile.FieldType.int)) ∈ lw_tbl := tk_6 (List.mem_of_getElem? (i := 156) rfl)
theorem tw_1355 : (Jvm.Cond.instanceMethod ({ cls := "MarshBells$Day", name := "firstClash", desc := "()I" } : Jvm.MethodName)) ∈ lw_tbl := tk_6 (List.mem_of_getElem? (i := 155) rfl)
theorem se_X1_firstClash : Cond.selects RX1 yX1_firstClash yX1_firstClash ∈ lw_tbl := List.mem_append_left _ (List.mem_of_getElem? (i := 101) rfl)
theorem li_X11_347 : kLN RX11 347 RX1 yX1_firstClash "MarshBells" cX1_firstClash 5 (some .int) 0 := ⟨tw_1353, tw_1355, se_X1_firstClash, tw_1356, tw_7, by decide +kernel⟩
theorem dX11_clash_31 : decode cX11_clash 31 = .ok (.invokevirtual 347, 3) := by decide +kernel
theorem dX11_clash_34 : decode cX11_clash 34 = .ok (.ireturn, 1) := by decide +kernel
theorem dX11_clash_17 : decode cX11_clash 17 = .ok (.aload_n 0, 1) := by decide +kernel
theorem dX11_clash_18 : decode cX11_clash 18 = .ok (.getfield 53, 3) := by decide +kernel
theorem tw_1345 : (Jvm.Cond.methodLinkNest "MarshBells" (344 : Nat) ({ cls := "MarshBells$Day", name := "clashes", desc := "()I" } : Jvm.MethodName) "MarshBells") ∈ lw_tbl := tk_6 (List.mem_of_getElem? (i := 145) rfl)
theorem tw_1348 : (Jvm.Cond.code ({ cls := "MarshBells$Day", name := "clashes", desc := "()I" } : Jvm.MethodName) prog_3_method_18_code (4 : Nat) (Option.some Jvm.ClassFile.FieldType.int)) ∈ lw_tbl := tk_6 (List.mem_of_getElem? (i := 148) rfl)
theorem tw_1347 : (Jvm.Cond.instanceMethod ({ cls := "MarshBells$Day", name := "clashes", desc := "()I" } : Jvm.MethodName)) ∈ lw_tbl := tk_6 (List.mem_of_getElem? (i := 147) rfl)
theorem se_X1_clashes : Cond.selects RX1 yX1_clashes yX1_clashes ∈ lw_tbl := List.mem_append_left _ (List.mem_of_getElem? (i := 99) rfl)
theorem li_X11_344 : kLN RX11 344 RX1 yX1_clashes "MarshBells" cX1_clashes 4 (some .int) 0 := ⟨tw_1345, tw_1347, se_X1_clashes, tw_1348, tw_7, by decide +kernel⟩
theorem dX11_clash_21 : decode cX11_clash 21 = .ok (.invokevirtual 344, 3) := by decide +kernel
theorem dX11_clash_24 : decode cX11_clash 24 = .ok (.goto 10, 3) := by decide +kernel
theorem dX11_idle_0 : decode cX11_idle 0 = .ok (.aload_n 0, 1) := by decide +kernel
theorem dX11_idle_1 : decode cX11_idle 1 = .ok (.getfield 53, 3) := by decide +kernel
theorem dX11_idle_4 : decode cX11_idle 4 = .ok (.iconst 0, 1) := by decide +kernel
theorem dX11_idle_5 : decode cX11_idle 5 = .ok (.invokevirtual 201, 3) := by decide +kernel
theorem dX11_idle_8 : decode cX11_idle 8 = .ok (.aload_n 0, 1) := by decide +kernel
theorem dX11_idle_9 : decode cX11_idle 9 = .ok (.getfield 53, 3) := by decide +kernel
theorem tw_713 : (Jvm.Cond.methodLinkNest "MarshBells" (353 : Nat) ({ cls := "MarshBells$Day", name := "idleMinutes", desc := "()I" } : Jvm.MethodName) "MarshBells") ∈ lw_tbl := tk_3 (List.mem_of_getElem? (i := 233) rfl)
theorem tw_716 : (Jvm.Cond.code ({ cls := "MarshBells$Day", name := "idleMinutes", desc := "()I" } : Jvm.MethodName) prog_3_method_20_code (7 : Nat) (Option.some Jvm.ClassFile.FieldType.int)) ∈ lw_tbl := tk_3 (List.mem_of_getElem? (i := 236) rfl)
theorem tw_715 : (Jvm.Cond.instanceMethod ({ cls := "MarshBells$Day", name := "idleMinutes", desc := "()I" } : Jvm.MethodName)) ∈ lw_tbl := tk_3 (List.mem_of_getElem? (i := 235) rfl)
theorem se_X1_idleMinutes : Cond.selects RX1 yX1_idleMinutes yX1_idleMinutes ∈ lw_tbl := List.mem_append_left _ (List.mem_of_getElem? (i := 30) rfl)
theorem li_X11_353 : kLN RX11 353 RX1 yX1_idleMinutes "MarshBells" cX1_idleMinutes 7 (some .int) 0 := ⟨tw_713, tw_715, se_X1_idleMinutes, tw_716, tw_7, by decide +kernel⟩
theorem dX11_idle_12 : decode cX11_idle 12 = .ok (.invokevirtual 353, 3) := by decide +kernel
theorem dX11_idle_15 : decode cX11_idle 15 = .ok (.ireturn, 1) := by decide +kernel
theorem dX11_image_0 : decode cX11_image 0 = .ok (.aload_n 0, 1) := by decide +kernel
theorem dX11_image_1 : decode cX11_image 1 = .ok (.getfield 45, 3) := by decide +kernel
theorem dX11_image_4 : decode cX11_image 4 = .ok (.aload_n 0, 1) := by decide +kernel
theorem dX11_image_5 : decode cX11_image 5 = .ok (.getfield 41, 3) := by decide +kernel
theorem tw_721 : (Jvm.Cond.methodLinkNest "MarshBells" (368 : Nat) ({ cls := "MarshBells$Held", name := "copy", desc := "(LMarshBells$Held;)V" } : Jvm.MethodName) "MarshBells") ∈ lw_tbl := tk_4 (List.mem_of_getElem? (i := 1) rfl)
theorem tw_724 : (Jvm.Cond.code ({ cls := "MarshBells$Held", name := "copy", desc := "(LMarshBells$Held;)V" } : Jvm.MethodName) prog_5_method_3_code (2 : Nat) (Option.none : Option Jvm.ClassFile.FieldType)) ∈ lw_tbl := tk_4 (List.mem_of_getElem? (i := 4) rfl)
theorem tw_723 : (Jvm.Cond.instanceMethod ({ cls := "MarshBells$Held", name := "copy", desc := "(LMarshBells$Held;)V" } : Jvm.MethodName)) ∈ lw_tbl := tk_4 (List.mem_of_getElem? (i := 3) rfl)
theorem se_X3_copy : Cond.selects RX3 yX3_copy yX3_copy ∈ lw_tbl := List.mem_append_left _ (List.mem_of_getElem? (i := 31) rfl)
theorem li_X11_368 : kLN RX11 368 RX3 yX3_copy "MarshBells" cX3_copy 2 none 1 := ⟨tw_721, tw_723, se_X3_copy, tw_724, tw_6, by decide +kernel⟩
theorem dX11_image_8 : decode cX11_image 8 = .ok (.invokevirtual 368, 3) := by decide +kernel
theorem dX11_image_11 : decode cX11_image 11 = .ok (.aload_n 0, 1) := by decide +kernel
theorem dX11_image_12 : decode cX11_image 12 = .ok (.iconst 1, 1) := by decide +kernel
theorem dX11_image_13 : decode cX11_image 13 = .ok (.putfield 94, 3) := by decide +kernel
theorem dX11_image_16 : decode cX11_image 16 = .ok (.return_, 1) := by decide +kernel
theorem dX11_restore_0 : decode cX11_restore 0 = .ok (.aload_n 0, 1) := by decide +kernel
theorem dX11_restore_1 : decode cX11_restore 1 = .ok (.getfield 94, 3) := by decide +kernel
theorem dX11_restore_4 : decode cX11_restore 4 = .ok (.ifCond .ne 5, 3) := by decide +kernel
theorem dX11_restore_7 : decode cX11_restore 7 = .ok (.iconst 0, 1) := by decide +kernel
theorem dX11_restore_8 : decode cX11_restore 8 = .ok (.ireturn, 1) := by decide +kernel
set_option maxHeartbeats 4000000 in
set_option maxRecDepth 100000 in
theorem c_X11_put_0 (l : Launch) (G : kG) (sz : Nat) (h0 : Nat) (n0 : Int32) (Fh0 : Nat → Value) (atp : Nat) (f0 : Nat → Int32) (e_h0_0 : Fh0 0 = .ref atp) (e_h0_13 : Fh0 13 = .int 0) : kM l yX11_put cX11_put 3 none { frames := 6, cells := 0, slots := 0, locals := 110 } G [.ref h0, .int n0] [(h0, .inr (11, ofL 17 Fh0)), (atp, .inl (G.2.1, 700, .inl f0))] sz (kQv G (S := Unit) (fun (_ : Unit) => True) (fun _ => [(h0, .inr (11, ofL 17 (updV (updV (updV (updV Fh0 13 (.int 1)) 13 (.int 2)) 13 (.int 3)) 13 (.int 4)))), (atp, .inl (G.2.1, 700, .inl (upd (upd (upd (upd f0 0 (((n0.toUInt32 >>> ((24 : Int32).toUInt32 &&& Int32.toUInt32 31)).toInt32) &&& 255)) 1 (((n0.toUInt32 >>> ((16 : Int32).toUInt32 &&& Int32.toUInt32 31)).toInt32) &&& 255)) 2 (((n0.toUInt32 >>> ((8 : Int32).toUInt32 &&& Int32.toUInt32 31)).toInt32) &&& 255)) 3 (((n0.toUInt32 >>> ((0 : Int32).toUInt32 &&& Int32.toUInt32 31)).toInt32) &&& 255))))])) := by
  refine kM.of (by decide) (Nat.le_of_ble_eq_true rfl) ?_
  intro p e s m below meth c A ls H C hr hlk hnm hP hD hS hl
  have C : kC G p s m c cX11_put 3 RX11 A := C
  have hx := C.1
  have hb := C.2.1
  have hl : lv_has ls 3 [(0, .ref h0), (1, .int n0)] := hl
  refine lv_bipush (v := 24) hx hb dX11_put_0 (by decide) ?_
  refine lv_istore_n (lv' := [(2, .int 24), (0, .ref h0), (1, .int n0)]) hx hb dX11_put_2 rfl hl (by decide) rfl (fun ls hl => ?_)
  refine lv_iload_n hx hb dX11_put_3 rfl (lv_at hl 0 rfl) ?_
  refine lv_if_lt (x := 24) (tgt := 51) hx hb dX11_put_4 (by decide) (fun c_1 => ?_) (fun c_1 => ?_)
  · exact absurd c_1 (by decide)
  refine lv_aload_n hx hb dX11_put_7 rfl (lv_at hl 1 rfl) ?_
  refine k_get (v := .int 0) fl_X11_87 C hP 0 rfl e_h0_13 dX11_put_8 ?_
  refine lv_aload_n hx hb dX11_put_11 rfl (lv_at hl 1 rfl) ?_
  refine k_get (v := .ref atp) fl_X11_9 C hP 0 rfl e_h0_0 dX11_put_12 ?_
  refine k_alen (v := 700) C hP 1 rfl rfl dX11_put_15 ?_
  refine lv_icmp_ge (x := 0) (y := 700) (tgt := 45) hx hb dX11_put_16 (by decide) (fun c_2 => ?_) (fun c_2 => ?_)
  · exact absurd c_2 (by decide)
  refine lv_aload_n hx hb dX11_put_19 rfl (lv_at hl 1 rfl) ?_
  refine k_get (v := .ref atp) fl_X11_9 C hP 0 rfl e_h0_0 dX11_put_20 ?_
  refine lv_aload_n hx hb dX11_put_23 rfl (lv_at hl 1 rfl) ?_
  refine k_get (v := .int 0) fl_X11_87 C hP 0 rfl e_h0_13 dX11_put_24 ?_
  refine lv_iload_n hx hb dX11_put_27 rfl (lv_at hl 2 rfl) ?_
  refine lv_iload_n hx hb dX11_put_28 rfl (lv_at hl 0 rfl) ?_
  refine lv_iushr hx hb dX11_put_29 rfl ?_
  refine lv_sipush (v := 255) hx hb dX11_put_30 (by decide) ?_
  refine lv_iand hx hb dX11_put_33 ?_
  refine k_iast C hP hD hS 1 rfl (k_in (by decide)) dX11_put_34 (fun H locs hP hD hS => ?_)
  have hP : va_P G.1 vwCl [(h0, .inr (11, ofL 17 Fh0)), (atp, .inl (G.2.1, 700, .inl (upd f0 0 (((n0.toUInt32 >>> ((24 : Int32).toUInt32 &&& Int32.toUInt32 31)).toInt32) &&& 255))))] H := hP
  have hD : va_D A [(h0, .inr (11, ofL 17 Fh0)), (atp, .inl (G.2.1, 700, .inl (upd f0 0 (((n0.toUInt32 >>> ((24 : Int32).toUInt32 &&& Int32.toUInt32 31)).toInt32) &&& 255))))] := hD
  refine lv_aload_n hx hb dX11_put_35 rfl (lv_at hl 1 rfl) ?_
  refine lv_dup hx hb dX11_put_36 rfl ?_
  refine k_get (v := .int 0) fl_X11_87 C hP 0 rfl e_h0_13 dX11_put_37 ?_
  refine lv_iconst (v := 1) hx hb dX11_put_40 (by decide) ?_
  refine lv_iadd hx hb dX11_put_41 ?_
  refine k_eqi (y := 1) (by decide) ?_
  refine k_put fl_X11_87 ft_X11_13 C hP hD hS 0 rfl rfl rfl dX11_put_42 (fun H locs hP hD hS => ?_)
  have hP : va_P G.1 vwCl [(h0, .inr (11, ofL 17 (updV Fh0 13 (.int 1)))), (atp, .inl (G.2.1, 700, .inl (upd f0 0 (((n0.toUInt32 >>> ((24 : Int32).toUInt32 &&& Int32.toUInt32 31)).toInt32) &&& 255))))] H := hP
  have hD : va_D A [(h0, .inr (11, ofL 17 (updV Fh0 13 (.int 1)))), (atp, .inl (G.2.1, 700, .inl (upd f0 0 (((n0.toUInt32 >>> ((24 : Int32).toUInt32 &&& Int32.toUInt32 31)).toInt32) &&& 255))))] := hD
  refine lv_iinc (v := 16) (lv' := [(2, .int 16), (0, .ref h0), (1, .int n0)]) hx hb dX11_put_45 hl (k := 0) rfl (by decide) (by decide) rfl (fun ls hl => ?_)
  refine lv_goto (tgt := 3) hx hb dX11_put_48 (by decide) ?_
  refine lv_iload_n hx hb dX11_put_3 rfl (lv_at hl 0 rfl) ?_
  refine lv_if_lt (x := 16) (tgt := 51) hx hb dX11_put_4 (by decide) (fun c_3 => ?_) (fun c_3 => ?_)
  · exact absurd c_3 (by decide)
  refine lv_aload_n hx hb dX11_put_7 rfl (lv_at hl 1 rfl) ?_
  refine k_get (v := .int 1) fl_X11_87 C hP 0 rfl rfl dX11_put_8 ?_
  refine lv_aload_n hx hb dX11_put_11 rfl (lv_at hl 1 rfl) ?_
  refine k_get (v := .ref atp) fl_X11_9 C hP 0 rfl e_h0_0 dX11_put_12 ?_
  refine k_alen (v := 700) C hP 1 rfl rfl dX11_put_15 ?_
  refine lv_icmp_ge (x := 1) (y := 700) (tgt := 45) hx hb dX11_put_16 (by decide) (fun c_4 => ?_) (fun c_4 => ?_)
  · exact absurd c_4 (by decide)
  refine lv_aload_n hx hb dX11_put_19 rfl (lv_at hl 1 rfl) ?_
  refine k_get (v := .ref atp) fl_X11_9 C hP 0 rfl e_h0_0 dX11_put_20 ?_
  refine lv_aload_n hx hb dX11_put_23 rfl (lv_at hl 1 rfl) ?_
  refine k_get (v := .int 1) fl_X11_87 C hP 0 rfl rfl dX11_put_24 ?_
  refine lv_iload_n hx hb dX11_put_27 rfl (lv_at hl 2 rfl) ?_
  refine lv_iload_n hx hb dX11_put_28 rfl (lv_at hl 0 rfl) ?_
  refine lv_iushr hx hb dX11_put_29 rfl ?_
  refine lv_sipush (v := 255) hx hb dX11_put_30 (by decide) ?_
  refine lv_iand hx hb dX11_put_33 ?_
  refine k_iast C hP hD hS 1 rfl (k_in (by decide)) dX11_put_34 (fun H locs hP hD hS => ?_)
  have hP : va_P G.1 vwCl [(h0, .inr (11, ofL 17 (updV Fh0 13 (.int 1)))), (atp, .inl (G.2.1, 700, .inl (upd (upd f0 0 (((n0.toUInt32 >>> ((24 : Int32).toUInt32 &&& Int32.toUInt32 31)).toInt32) &&& 255)) 1 (((n0.toUInt32 >>> ((16 : Int32).toUInt32 &&& Int32.toUInt32 31)).toInt32) &&& 255))))] H := hP
  have hD : va_D A [(h0, .inr (11, ofL 17 (updV Fh0 13 (.int 1)))), (atp, .inl (G.2.1, 700, .inl (upd (upd f0 0 (((n0.toUInt32 >>> ((24 : Int32).toUInt32 &&& Int32.toUInt32 31)).toInt32) &&& 255)) 1 (((n0.toUInt32 >>> ((16 : Int32).toUInt32 &&& Int32.toUInt32 31)).toInt32) &&& 255))))] := hD
  refine lv_aload_n hx hb dX11_put_35 rfl (lv_at hl 1 rfl) ?_
  refine lv_dup hx hb dX11_put_36 rfl ?_
  refine k_get (v := .int 1) fl_X11_87 C hP 0 rfl rfl dX11_put_37 ?_
  refine lv_iconst (v := 1) hx hb dX11_put_40 (by decide) ?_
  refine lv_iadd hx hb dX11_put_41 ?_
  refine k_eqi (y := 2) (by decide) ?_
  refine k_put fl_X11_87 ft_X11_13 C hP hD hS 0 rfl rfl rfl dX11_put_42 (fun H locs hP hD hS => ?_)
  have hP : va_P G.1 vwCl [(h0, .inr (11, ofL 17 (updV (updV Fh0 13 (.int 1)) 13 (.int 2)))), (atp, .inl (G.2.1, 700, .inl (upd (upd f0 0 (((n0.toUInt32 >>> ((24 : Int32).toUInt32 &&& Int32.toUInt32 31)).toInt32) &&& 255)) 1 (((n0.toUInt32 >>> ((16 : Int32).toUInt32 &&& Int32.toUInt32 31)).toInt32) &&& 255))))] H := hP
  have hD : va_D A [(h0, .inr (11, ofL 17 (updV (updV Fh0 13 (.int 1)) 13 (.int 2)))), (atp, .inl (G.2.1, 700, .inl (upd (upd f0 0 (((n0.toUInt32 >>> ((24 : Int32).toUInt32 &&& Int32.toUInt32 31)).toInt32) &&& 255)) 1 (((n0.toUInt32 >>> ((16 : Int32).toUInt32 &&& Int32.toUInt32 31)).toInt32) &&& 255))))] := hD
  refine lv_iinc (v := 8) (lv' := [(2, .int 8), (0, .ref h0), (1, .int n0)]) hx hb dX11_put_45 hl (k := 0) rfl (by decide) (by decide) rfl (fun ls hl => ?_)
  refine lv_goto (tgt := 3) hx hb dX11_put_48 (by decide) ?_
  refine lv_iload_n hx hb dX11_put_3 rfl (lv_at hl 0 rfl) ?_
  refine lv_if_lt (x := 8) (tgt := 51) hx hb dX11_put_4 (by decide) (fun c_5 => ?_) (fun c_5 => ?_)
  · exact absurd c_5 (by decide)
  refine lv_aload_n hx hb dX11_put_7 rfl (lv_at hl 1 rfl) ?_
  refine k_get (v := .int 2) fl_X11_87 C hP 0 rfl rfl dX11_put_8 ?_
  refine lv_aload_n hx hb dX11_put_11 rfl (lv_at hl 1 rfl) ?_
  refine k_get (v := .ref atp) fl_X11_9 C hP 0 rfl e_h0_0 dX11_put_12 ?_
  refine k_alen (v := 700) C hP 1 rfl rfl dX11_put_15 ?_
  refine lv_icmp_ge (x := 2) (y := 700) (tgt := 45) hx hb dX11_put_16 (by decide) (fun c_6 => ?_) (fun c_6 => ?_)
  · exact absurd c_6 (by decide)
  refine lv_aload_n hx hb dX11_put_19 rfl (lv_at hl 1 rfl) ?_
  refine k_get (v := .ref atp) fl_X11_9 C hP 0 rfl e_h0_0 dX11_put_20 ?_
  refine lv_aload_n hx hb dX11_put_23 rfl (lv_at hl 1 rfl) ?_
  refine k_get (v := .int 2) fl_X11_87 C hP 0 rfl rfl dX11_put_24 ?_
  refine lv_iload_n hx hb dX11_put_27 rfl (lv_at hl 2 rfl) ?_
  refine lv_iload_n hx hb dX11_put_28 rfl (lv_at hl 0 rfl) ?_
  refine lv_iushr hx hb dX11_put_29 rfl ?_
  refine lv_sipush (v := 255) hx hb dX11_put_30 (by decide) ?_
  refine lv_iand hx hb dX11_put_33 ?_
  refine k_iast C hP hD hS 1 rfl (k_in (by decide)) dX11_put_34 (fun H locs hP hD hS => ?_)
  have hP : va_P G.1 vwCl [(h0, .inr (11, ofL 17 (updV (updV Fh0 13 (.int 1)) 13 (.int 2)))), (atp, .inl (G.2.1, 700, .inl (upd (upd (upd f0 0 (((n0.toUInt32 >>> ((24 : Int32).toUInt32 &&& Int32.toUInt32 31)).toInt32) &&& 255)) 1 (((n0.toUInt32 >>> ((16 : Int32).toUInt32 &&& Int32.toUInt32 31)).toInt32) &&& 255)) 2 (((n0.toUInt32 >>> ((8 : Int32).toUInt32 &&& Int32.toUInt32 31)).toInt32) &&& 255))))] H := hP
  have hD : va_D A [(h0, .inr (11, ofL 17 (updV (updV Fh0 13 (.int 1)) 13 (.int 2)))), (atp, .inl (G.2.1, 700, .inl (upd (upd (upd f0 0 (((n0.toUInt32 >>> ((24 : Int32).toUInt32 &&& Int32.toUInt32 31)).toInt32) &&& 255)) 1 (((n0.toUInt32 >>> ((16 : Int32).toUInt32 &&& Int32.toUInt32 31)).toInt32) &&& 255)) 2 (((n0.toUInt32 >>> ((8 : Int32).toUInt32 &&& Int32.toUInt32 31)).toInt32) &&& 255))))] := hD
  refine lv_aload_n hx hb dX11_put_35 rfl (lv_at hl 1 rfl) ?_
  refine lv_dup hx hb dX11_put_36 rfl ?_
  refine k_get (v := .int 2) fl_X11_87 C hP 0 rfl rfl dX11_put_37 ?_
  refine lv_iconst (v := 1) hx hb dX11_put_40 (by decide) ?_
  refine lv_iadd hx hb dX11_put_41 ?_
  refine k_eqi (y := 3) (by decide) ?_
  refine k_put fl_X11_87 ft_X11_13 C hP hD hS 0 rfl rfl rfl dX11_put_42 (fun H locs hP hD hS => ?_)
  have hP : va_P G.1 vwCl [(h0, .inr (11, ofL 17 (updV (updV (updV Fh0 13 (.int 1)) 13 (.int 2)) 13 (.int 3)))), (atp, .inl (G.2.1, 700, .inl (upd (upd (upd f0 0 (((n0.toUInt32 >>> ((24 : Int32).toUInt32 &&& Int32.toUInt32 31)).toInt32) &&& 255)) 1 (((n0.toUInt32 >>> ((16 : Int32).toUInt32 &&& Int32.toUInt32 31)).toInt32) &&& 255)) 2 (((n0.toUInt32 >>> ((8 : Int32).toUInt32 &&& Int32.toUInt32 31)).toInt32) &&& 255))))] H := hP
  have hD : va_D A [(h0, .inr (11, ofL 17 (updV (updV (updV Fh0 13 (.int 1)) 13 (.int 2)) 13 (.int 3)))), (atp, .inl (G.2.1, 700, .inl (upd (upd (upd f0 0 (((n0.toUInt32 >>> ((24 : Int32).toUInt32 &&& Int32.toUInt32 31)).toInt32) &&& 255)) 1 (((n0.toUInt32 >>> ((16 : Int32).toUInt32 &&& Int32.toUInt32 31)).toInt32) &&& 255)) 2 (((n0.toUInt32 >>> ((8 : Int32).toUInt32 &&& Int32.toUInt32 31)).toInt32) &&& 255))))] := hD
  refine lv_iinc (v := 0) (lv' := [(2, .int 0), (0, .ref h0), (1, .int n0)]) hx hb dX11_put_45 hl (k := 0) rfl (by decide) (by decide) rfl (fun ls hl => ?_)
  refine lv_goto (tgt := 3) hx hb dX11_put_48 (by decide) ?_
  refine lv_iload_n hx hb dX11_put_3 rfl (lv_at hl 0 rfl) ?_
  refine lv_if_lt (x := 0) (tgt := 51) hx hb dX11_put_4 (by decide) (fun c_7 => ?_) (fun c_7 => ?_)
  · exact absurd c_7 (by decide)
  refine lv_aload_n hx hb dX11_put_7 rfl (lv_at hl 1 rfl) ?_
  refine k_get (v := .int 3) fl_X11_87 C hP 0 rfl rfl dX11_put_8 ?_
  refine lv_aload_n hx hb dX11_put_11 rfl (lv_at hl 1 rfl) ?_
  refine k_get (v := .ref atp) fl_X11_9 C hP 0 rfl e_h0_0 dX11_put_12 ?_
  refine k_alen (v := 700) C hP 1 rfl rfl dX11_put_15 ?_
  refine lv_icmp_ge (x := 3) (y := 700) (tgt := 45) hx hb dX11_put_16 (by decide) (fun c_8 => ?_) (fun c_8 => ?_)
  · exact absurd c_8 (by decide)
  refine lv_aload_n hx hb dX11_put_19 rfl (lv_at hl 1 rfl) ?_
  refine k_get (v := .ref atp) fl_X11_9 C hP 0 rfl e_h0_0 dX11_put_20 ?_
  refine lv_aload_n hx hb dX11_put_23 rfl (lv_at hl 1 rfl) ?_
  refine k_get (v := .int 3) fl_X11_87 C hP 0 rfl rfl dX11_put_24 ?_
  refine lv_iload_n hx hb dX11_put_27 rfl (lv_at hl 2 rfl) ?_
  refine lv_iload_n hx hb dX11_put_28 rfl (lv_at hl 0 rfl) ?_
  refine lv_iushr hx hb dX11_put_29 rfl ?_
  refine lv_sipush (v := 255) hx hb dX11_put_30 (by decide) ?_
  refine lv_iand hx hb dX11_put_33 ?_
  refine k_iast C hP hD hS 1 rfl (k_in (by decide)) dX11_put_34 (fun H locs hP hD hS => ?_)
  have hP : va_P G.1 vwCl [(h0, .inr (11, ofL 17 (updV (updV (updV Fh0 13 (.int 1)) 13 (.int 2)) 13 (.int 3)))), (atp, .inl (G.2.1, 700, .inl (upd (upd (upd (upd f0 0 (((n0.toUInt32 >>> ((24 : Int32).toUInt32 &&& Int32.toUInt32 31)).toInt32) &&& 255)) 1 (((n0.toUInt32 >>> ((16 : Int32).toUInt32 &&& Int32.toUInt32 31)).toInt32) &&& 255)) 2 (((n0.toUInt32 >>> ((8 : Int32).toUInt32 &&& Int32.toUInt32 31)).toInt32) &&& 255)) 3 (((n0.toUInt32 >>> ((0 : Int32).toUInt32 &&& Int32.toUInt32 31)).toInt32) &&& 255))))] H := hP
  have hD : va_D A [(h0, .inr (11, ofL 17 (updV (updV (updV Fh0 13 (.int 1)) 13 (.int 2)) 13 (.int 3)))), (atp, .inl (G.2.1, 700, .inl (upd (upd (upd (upd f0 0 (((n0.toUInt32 >>> ((24 : Int32).toUInt32 &&& Int32.toUInt32 31)).toInt32) &&& 255)) 1 (((n0.toUInt32 >>> ((16 : Int32).toUInt32 &&& Int32.toUInt32 31)).toInt32) &&& 255)) 2 (((n0.toUInt32 >>> ((8 : Int32).toUInt32 &&& Int32.toUInt32 31)).toInt32) &&& 255)) 3 (((n0.toUInt32 >>> ((0 : Int32).toUInt32 &&& Int32.toUInt32 31)).toInt32) &&& 255))))] := hD
  refine lv_aload_n hx hb dX11_put_35 rfl (lv_at hl 1 rfl) ?_
  refine lv_dup hx hb dX11_put_36 rfl ?_
  refine k_get (v := .int 3) fl_X11_87 C hP 0 rfl rfl dX11_put_37 ?_
  refine lv_iconst (v := 1) hx hb dX11_put_40 (by decide) ?_
  refine lv_iadd hx hb dX11_put_41 ?_
  refine k_eqi (y := 4) (by decide) ?_
  refine k_put fl_X11_87 ft_X11_13 C hP hD hS 0 rfl rfl rfl dX11_put_42 (fun H locs hP hD hS => ?_)
  have hP : va_P G.1 vwCl [(h0, .inr (11, ofL 17 (updV (updV (updV (updV Fh0 13 (.int 1)) 13 (.int 2)) 13 (.int 3)) 13 (.int 4)))), (atp, .inl (G.2.1, 700, .inl (upd (upd (upd (upd f0 0 (((n0.toUInt32 >>> ((24 : Int32).toUInt32 &&& Int32.toUInt32 31)).toInt32) &&& 255)) 1 (((n0.toUInt32 >>> ((16 : Int32).toUInt32 &&& Int32.toUInt32 31)).toInt32) &&& 255)) 2 (((n0.toUInt32 >>> ((8 : Int32).toUInt32 &&& Int32.toUInt32 31)).toInt32) &&& 255)) 3 (((n0.toUInt32 >>> ((0 : Int32).toUInt32 &&& Int32.toUInt32 31)).toInt32) &&& 255))))] H := hP
  have hD : va_D A [(h0, .inr (11, ofL 17 (updV (updV (updV (updV Fh0 13 (.int 1)) 13 (.int 2)) 13 (.int 3)) 13 (.int 4)))), (atp, .inl (G.2.1, 700, .inl (upd (upd (upd (upd f0 0 (((n0.toUInt32 >>> ((24 : Int32).toUInt32 &&& Int32.toUInt32 31)).toInt32) &&& 255)) 1 (((n0.toUInt32 >>> ((16 : Int32).toUInt32 &&& Int32.toUInt32 31)).toInt32) &&& 255)) 2 (((n0.toUInt32 >>> ((8 : Int32).toUInt32 &&& Int32.toUInt32 31)).toInt32) &&& 255)) 3 (((n0.toUInt32 >>> ((0 : Int32).toUInt32 &&& Int32.toUInt32 31)).toInt32) &&& 255))))] := hD
  refine lv_iinc (v := -8) (lv' := [(2, .int (-8)), (0, .ref h0), (1, .int n0)]) hx hb dX11_put_45 hl (k := 0) rfl (by decide) (by decide) rfl (fun ls hl => ?_)
  refine lv_goto (tgt := 3) hx hb dX11_put_48 (by decide) ?_
  refine lv_iload_n hx hb dX11_put_3 rfl (lv_at hl 0 rfl) ?_
  refine lv_if_lt (x := -8) (tgt := 51) hx hb dX11_put_4 (by decide) (fun c_9 => ?_) (fun c_9 => ?_)
  rotate_left
  · exact absurd (by decide) c_9
  exact k_vret C hr hlk hP hD hS () (trivial) [0, 1] rfl rfl (Nat.le_of_ble_eq_true rfl) (Nat.le_of_ble_eq_true rfl) dX11_put_51
set_option maxHeartbeats 4000000 in
set_option maxRecDepth 100000 in
theorem c_X11_put_4 (l : Launch) (G : kG) (sz : Nat) (h0 : Nat) (n0 : Int32) (Fh0 : Nat → Value) (atp : Nat) (f0 : Nat → Int32) (e_h0_0 : Fh0 0 = .ref atp) (e_h0_13 : Fh0 13 = .int 4) : kM l yX11_put cX11_put 3 none { frames := 6, cells := 0, slots := 0, locals := 110 } G [.ref h0, .int n0] [(h0, .inr (11, ofL 17 Fh0)), (atp, .inl (G.2.1, 700, .inl f0))] sz (kQv G (S := Unit) (fun (_ : Unit) => True) (fun _ => [(h0, .inr (11, ofL 17 (updV (updV (updV (updV Fh0 13 (.int 5)) 13 (.int 6)) 13 (.int 7)) 13 (.int 8)))), (atp, .inl (G.2.1, 700, .inl (upd (upd (upd (upd f0 4 (((n0.toUInt32 >>> ((24 : Int32).toUInt32 &&& Int32.toUInt32 31)).toInt32) &&& 255)) 5 (((n0.toUInt32 >>> ((16 : Int32).toUInt32 &&& Int32.toUInt32 31)).toInt32) &&& 255)) 6 (((n0.toUInt32 >>> ((8 : Int32).toUInt32 &&& Int32.toUInt32 31)).toInt32) &&& 255)) 7 (((n0.toUInt32 >>> ((0 : Int32).toUInt32 &&& Int32.toUInt32 31)).toInt32) &&& 255))))])) := by
  refine kM.of (by decide) (Nat.le_of_ble_eq_true rfl) ?_
  intro p e s m below meth c A ls H C hr hlk hnm hP hD hS hl
  have C : kC G p s m c cX11_put 3 RX11 A := C
  have hx := C.1
  have hb := C.2.1
  have hl : lv_has ls 3 [(0, .ref h0), (1, .int n0)] := hl
  refine lv_bipush (v := 24) hx hb dX11_put_0 (by decide) ?_
  refine lv_istore_n (lv' := [(2, .int 24), (0, .ref h0), (1, .int n0)]) hx hb dX11_put_2 rfl hl (by decide) rfl (fun ls hl => ?_)
  refine lv_iload_n hx hb dX11_put_3 rfl (lv_at hl 0 rfl) ?_
  refine lv_if_lt (x := 24) (tgt := 51) hx hb dX11_put_4 (by decide) (fun c_1 => ?_) (fun c_1 => ?_)
  · exact absurd c_1 (by decide)
  refine lv_aload_n hx hb dX11_put_7 rfl (lv_at hl 1 rfl) ?_
  refine k_get (v := .int 4) fl_X11_87 C hP 0 rfl e_h0_13 dX11_put_8 ?_
  refine lv_aload_n hx hb dX11_put_11 rfl (lv_at hl 1 rfl) ?_
  refine k_get (v := .ref atp) fl_X11_9 C hP 0 rfl e_h0_0 dX11_put_12 ?_
  refine k_alen (v := 700) C hP 1 rfl rfl dX11_put_15 ?_
  refine lv_icmp_ge (x := 4) (y := 700) (tgt := 45) hx hb dX11_put_16 (by decide) (fun c_2 => ?_) (fun c_2 => ?_)
  · exact absurd c_2 (by decide)
  refine lv_aload_n hx hb dX11_put_19 rfl (lv_at hl 1 rfl) ?_
  refine k_get (v := .ref atp) fl_X11_9 C hP 0 rfl e_h0_0 dX11_put_20 ?_
  refine lv_aload_n hx hb dX11_put_23 rfl (lv_at hl 1 rfl) ?_
  refine k_get (v := .int 4) fl_X11_87 C hP 0 rfl e_h0_13 dX11_put_24 ?_
  refine lv_iload_n hx hb dX11_put_27 rfl (lv_at hl 2 rfl) ?_
  refine lv_iload_n hx hb dX11_put_28 rfl (lv_at hl 0 rfl) ?_
  refine lv_iushr hx hb dX11_put_29 rfl ?_
  refine lv_sipush (v := 255) hx hb dX11_put_30 (by decide) ?_
  refine lv_iand hx hb dX11_put_33 ?_
  refine k_iast C hP hD hS 1 rfl (k_in (by decide)) dX11_put_34 (fun H locs hP hD hS => ?_)
  have hP : va_P G.1 vwCl [(h0, .inr (11, ofL 17 Fh0)), (atp, .inl (G.2.1, 700, .inl (upd f0 4 (((n0.toUInt32 >>> ((24 : Int32).toUInt32 &&& Int32.toUInt32 31)).toInt32) &&& 255))))] H := hP
  have hD : va_D A [(h0, .inr (11, ofL 17 Fh0)), (atp, .inl (G.2.1, 700, .inl (upd f0 4 (((n0.toUInt32 >>> ((24 : Int32).toUInt32 &&& Int32.toUInt32 31)).toInt32) &&& 255))))] := hD
  refine lv_aload_n hx hb dX11_put_35 rfl (lv_at hl 1 rfl) ?_
  refine lv_dup hx hb dX11_put_36 rfl ?_
  refine k_get (v := .int 4) fl_X11_87 C hP 0 rfl e_h0_13 dX11_put_37 ?_
  refine lv_iconst (v := 1) hx hb dX11_put_40 (by decide) ?_
  refine lv_iadd hx hb dX11_put_41 ?_
  refine k_eqi (y := 5) (by decide) ?_
  refine k_put fl_X11_87 ft_X11_13 C hP hD hS 0 rfl rfl rfl dX11_put_42 (fun H locs hP hD hS => ?_)
  have hP : va_P G.1 vwCl [(h0, .inr (11, ofL 17 (updV Fh0 13 (.int 5)))), (atp, .inl (G.2.1, 700, .inl (upd f0 4 (((n0.toUInt32 >>> ((24 : Int32).toUInt32 &&& Int32.toUInt32 31)).toInt32) &&& 255))))] H := hP
  have hD : va_D A [(h0, .inr (11, ofL 17 (updV Fh0 13 (.int 5)))), (atp, .inl (G.2.1, 700, .inl (upd f0 4 (((n0.toUInt32 >>> ((24 : Int32).toUInt32 &&& Int32.toUInt32 31)).toInt32) &&& 255))))] := hD
  refine lv_iinc (v := 16) (lv' := [(2, .int 16), (0, .ref h0), (1, .int n0)]) hx hb dX11_put_45 hl (k := 0) rfl (by decide) (by decide) rfl (fun ls hl => ?_)
  refine lv_goto (tgt := 3) hx hb dX11_put_48 (by decide) ?_
  refine lv_iload_n hx hb dX11_put_3 rfl (lv_at hl 0 rfl) ?_
  refine lv_if_lt (x := 16) (tgt := 51) hx hb dX11_put_4 (by decide) (fun c_3 => ?_) (fun c_3 => ?_)
  · exact absurd c_3 (by decide)
  refine lv_aload_n hx hb dX11_put_7 rfl (lv_at hl 1 rfl) ?_
  refine k_get (v := .int 5) fl_X11_87 C hP 0 rfl rfl dX11_put_8 ?_
  refine lv_aload_n hx hb dX11_put_11 rfl (lv_at hl 1 rfl) ?_
  refine k_get (v := .ref atp) fl_X11_9 C hP 0 rfl e_h0_0 dX11_put_12 ?_
  refine k_alen (v := 700) C hP 1 rfl rfl dX11_put_15 ?_
  refine lv_icmp_ge (x := 5) (y := 700) (tgt := 45) hx hb dX11_put_16 (by decide) (fun c_4 => ?_) (fun c_4 => ?_)
  · exact absurd c_4 (by decide)
  refine lv_aload_n hx hb dX11_put_19 rfl (lv_at hl 1 rfl) ?_
  refine k_get (v := .ref atp) fl_X11_9 C hP 0 rfl e_h0_0 dX11_put_20 ?_
  refine lv_aload_n hx hb dX11_put_23 rfl (lv_at hl 1 rfl) ?_
  refine k_get (v := .int 5) fl_X11_87 C hP 0 rfl rfl dX11_put_24 ?_
  refine lv_iload_n hx hb dX11_put_27 rfl (lv_at hl 2 rfl) ?_
  refine lv_iload_n hx hb dX11_put_28 rfl (lv_at hl 0 rfl) ?_
  refine lv_iushr hx hb dX11_put_29 rfl ?_
  refine lv_sipush (v := 255) hx hb dX11_put_30 (by decide) ?_
  refine lv_iand hx hb dX11_put_33 ?_
  refine k_iast C hP hD hS 1 rfl (k_in (by decide)) dX11_put_34 (fun H locs hP hD hS => ?_)
  have hP : va_P G.1 vwCl [(h0, .inr (11, ofL 17 (updV Fh0 13 (.int 5)))), (atp, .inl (G.2.1, 700, .inl (upd (upd f0 4 (((n0.toUInt32 >>> ((24 : Int32).toUInt32 &&& Int32.toUInt32 31)).toInt32) &&& 255)) 5 (((n0.toUInt32 >>> ((16 : Int32).toUInt32 &&& Int32.toUInt32 31)).toInt32) &&& 255))))] H := hP
  have hD : va_D A [(h0, .inr (11, ofL 17 (updV Fh0 13 (.int 5)))), (atp, .inl (G.2.1, 700, .inl (upd (upd f0 4 (((n0.toUInt32 >>> ((24 : Int32).toUInt32 &&& Int32.toUInt32 31)).toInt32) &&& 255)) 5 (((n0.toUInt32 >>> ((16 : Int32).toUInt32 &&& Int32.toUInt32 31)).toInt32) &&& 255))))] := hD
  refine lv_aload_n hx hb dX11_put_35 rfl (lv_at hl 1 rfl) ?_
  refine lv_dup hx hb dX11_put_36 rfl ?_
  refine k_get (v := .int 5) fl_X11_87 C hP 0 rfl rfl dX11_put_37 ?_
  refine lv_iconst (v := 1) hx hb dX11_put_40 (by decide) ?_
  refine lv_iadd hx hb dX11_put_41 ?_
  refine k_eqi (y := 6) (by decide) ?_
  refine k_put fl_X11_87 ft_X11_13 C hP hD hS 0 rfl rfl rfl dX11_put_42 (fun H locs hP hD hS => ?_)
  have hP : va_P G.1 vwCl [(h0, .inr (11, ofL 17 (updV (updV Fh0 13 (.int 5)) 13 (.int 6)))), (atp, .inl (G.2.1, 700, .inl (upd (upd f0 4 (((n0.toUInt32 >>> ((24 : Int32).toUInt32 &&& Int32.toUInt32 31)).toInt32) &&& 255)) 5 (((n0.toUInt32 >>> ((16 : Int32).toUInt32 &&& Int32.toUInt32 31)).toInt32) &&& 255))))] H := hP
  have hD : va_D A [(h0, .inr (11, ofL 17 (updV (updV Fh0 13 (.int 5)) 13 (.int 6)))), (atp, .inl (G.2.1, 700, .inl (upd (upd f0 4 (((n0.toUInt32 >>> ((24 : Int32).toUInt32 &&& Int32.toUInt32 31)).toInt32) &&& 255)) 5 (((n0.toUInt32 >>> ((16 : Int32).toUInt32 &&& Int32.toUInt32 31)).toInt32) &&& 255))))] := hD
  refine lv_iinc (v := 8) (lv' := [(2, .int 8), (0, .ref h0), (1, .int n0)]) hx hb dX11_put_45 hl (k := 0) rfl (by decide) (by decide) rfl (fun ls hl => ?_)
  refine lv_goto (tgt := 3) hx hb dX11_put_48 (by decide) ?_
  refine lv_iload_n hx hb dX11_put_3 rfl (lv_at hl 0 rfl) ?_
  refine lv_if_lt (x := 8) (tgt := 51) hx hb dX11_put_4 (by decide) (fun c_5 => ?_) (fun c_5 => ?_)
  · exact absurd c_5 (by decide)
  refine lv_aload_n hx hb dX11_put_7 rfl (lv_at hl 1 rfl) ?_
  refine k_get (v := .int 6) fl_X11_87 C hP 0 rfl rfl dX11_put_8 ?_
  refine lv_aload_n hx hb dX11_put_11 rfl (lv_at hl 1 rfl) ?_
  refine k_get (v := .ref atp) fl_X11_9 C hP 0 rfl e_h0_0 dX11_put_12 ?_
  refine k_alen (v := 700) C hP 1 rfl rfl dX11_put_15 ?_
  refine lv_icmp_ge (x := 6) (y := 700) (tgt := 45) hx hb dX11_put_16 (by decide) (fun c_6 => ?_) (fun c_6 => ?_)
  · exact absurd c_6 (by decide)
  refine lv_aload_n hx hb dX11_put_19 rfl (lv_at hl 1 rfl) ?_
  refine k_get (v := .ref atp) fl_X11_9 C hP 0 rfl e_h0_0 dX11_put_20 ?_
  refine lv_aload_n hx hb dX11_put_23 rfl (lv_at hl 1 rfl) ?_
  refine k_get (v := .int 6) fl_X11_87 C hP 0 rfl rfl dX11_put_24 ?_
  refine lv_iload_n hx hb dX11_put_27 rfl (lv_at hl 2 rfl) ?_
  refine lv_iload_n hx hb dX11_put_28 rfl (lv_at hl 0 rfl) ?_
  refine lv_iushr hx hb dX11_put_29 rfl ?_
  refine lv_sipush (v := 255) hx hb dX11_put_30 (by decide) ?_
  refine lv_iand hx hb dX11_put_33 ?_
  refine k_iast C hP hD hS 1 rfl (k_in (by decide)) dX11_put_34 (fun H locs hP hD hS => ?_)
  have hP : va_P G.1 vwCl [(h0, .inr (11, ofL 17 (updV (updV Fh0 13 (.int 5)) 13 (.int 6)))), (atp, .inl (G.2.1, 700, .inl (upd (upd (upd f0 4 (((n0.toUInt32 >>> ((24 : Int32).toUInt32 &&& Int32.toUInt32 31)).toInt32) &&& 255)) 5 (((n0.toUInt32 >>> ((16 : Int32).toUInt32 &&& Int32.toUInt32 31)).toInt32) &&& 255)) 6 (((n0.toUInt32 >>> ((8 : Int32).toUInt32 &&& Int32.toUInt32 31)).toInt32) &&& 255))))] H := hP
  have hD : va_D A [(h0, .inr (11, ofL 17 (updV (updV Fh0 13 (.int 5)) 13 (.int 6)))), (atp, .inl (G.2.1, 700, .inl (upd (upd (upd f0 4 (((n0.toUInt32 >>> ((24 : Int32).toUInt32 &&& Int32.toUInt32 31)).toInt32) &&& 255)) 5 (((n0.toUInt32 >>> ((16 : Int32).toUInt32 &&& Int32.toUInt32 31)).toInt32) &&& 255)) 6 (((n0.toUInt32 >>> ((8 : Int32).toUInt32 &&& Int32.toUInt32 31)).toInt32) &&& 255))))] := hD
  refine lv_aload_n hx hb dX11_put_35 rfl (lv_at hl 1 rfl) ?_
  refine lv_dup hx hb dX11_put_36 rfl ?_
  refine k_get (v := .int 6) fl_X11_87 C hP 0 rfl rfl dX11_put_37 ?_
  refine lv_iconst (v := 1) hx hb dX11_put_40 (by decide) ?_
  refine lv_iadd hx hb dX11_put_41 ?_
  refine k_eqi (y := 7) (by decide) ?_
  refine k_put fl_X11_87 ft_X11_13 C hP hD hS 0 rfl rfl rfl dX11_put_42 (fun H locs hP hD hS => ?_)
  have hP : va_P G.1 vwCl [(h0, .inr (11, ofL 17 (updV (updV (updV Fh0 13 (.int 5)) 13 (.int 6)) 13 (.int 7)))), (atp, .inl (G.2.1, 700, .inl (upd (upd (upd f0 4 (((n0.toUInt32 >>> ((24 : Int32).toUInt32 &&& Int32.toUInt32 31)).toInt32) &&& 255)) 5 (((n0.toUInt32 >>> ((16 : Int32).toUInt32 &&& Int32.toUInt32 31)).toInt32) &&& 255)) 6 (((n0.toUInt32 >>> ((8 : Int32).toUInt32 &&& Int32.toUInt32 31)).toInt32) &&& 255))))] H := hP
  have hD : va_D A [(h0, .inr (11, ofL 17 (updV (updV (updV Fh0 13 (.int 5)) 13 (.int 6)) 13 (.int 7)))), (atp, .inl (G.2.1, 700, .inl (upd (upd (upd f0 4 (((n0.toUInt32 >>> ((24 : Int32).toUInt32 &&& Int32.toUInt32 31)).toInt32) &&& 255)) 5 (((n0.toUInt32 >>> ((16 : Int32).toUInt32 &&& Int32.toUInt32 31)).toInt32) &&& 255)) 6 (((n0.toUInt32 >>> ((8 : Int32).toUInt32 &&& Int32.toUInt32 31)).toInt32) &&& 255))))] := hD
  refine lv_iinc (v := 0) (lv' := [(2, .int 0), (0, .ref h0), (1, .int n0)]) hx hb dX11_put_45 hl (k := 0) rfl (by decide) (by decide) rfl (fun ls hl => ?_)
  refine lv_goto (tgt := 3) hx hb dX11_put_48 (by decide) ?_
  refine lv_iload_n hx hb dX11_put_3 rfl (lv_at hl 0 rfl) ?_
  refine lv_if_lt (x := 0) (tgt := 51) hx hb dX11_put_4 (by decide) (fun c_7 => ?_) (fun c_7 => ?_)
  · exact absurd c_7 (by decide)
  refine lv_aload_n hx hb dX11_put_7 rfl (lv_at hl 1 rfl) ?_
  refine k_get (v := .int 7) fl_X11_87 C hP 0 rfl rfl dX11_put_8 ?_
  refine lv_aload_n hx hb dX11_put_11 rfl (lv_at hl 1 rfl) ?_
  refine k_get (v := .ref atp) fl_X11_9 C hP 0 rfl e_h0_0 dX11_put_12 ?_
  refine k_alen (v := 700) C hP 1 rfl rfl dX11_put_15 ?_
  refine lv_icmp_ge (x := 7) (y := 700) (tgt := 45) hx hb dX11_put_16 (by decide) (fun c_8 => ?_) (fun c_8 => ?_)
  · exact absurd c_8 (by decide)
  refine lv_aload_n hx hb dX11_put_19 rfl (lv_at hl 1 rfl) ?_
  refine k_get (v := .ref atp) fl_X11_9 C hP 0 rfl e_h0_0 dX11_put_20 ?_
  refine lv_aload_n hx hb dX11_put_23 rfl (lv_at hl 1 rfl) ?_
  refine k_get (v := .int 7) fl_X11_87 C hP 0 rfl rfl dX11_put_24 ?_
  refine lv_iload_n hx hb dX11_put_27 rfl (lv_at hl 2 rfl) ?_
  refine lv_iload_n hx hb dX11_put_28 rfl (lv_at hl 0 rfl) ?_
  refine lv_iushr hx hb dX11_put_29 rfl ?_
  refine lv_sipush (v := 255) hx hb dX11_put_30 (by decide) ?_
  refine lv_iand hx hb dX11_put_33 ?_
  refine k_iast C hP hD hS 1 rfl (k_in (by decide)) dX11_put_34 (fun H locs hP hD hS => ?_)
  have hP : va_P G.1 vwCl [(h0, .inr (11, ofL 17 (updV (updV (updV Fh0 13 (.int 5)) 13 (.int 6)) 13 (.int 7)))), (atp, .inl (G.2.1, 700, .inl (upd (upd (upd (upd f0 4 (((n0.toUInt32 >>> ((24 : Int32).toUInt32 &&& Int32.toUInt32 31)).toInt32) &&& 255)) 5 (((n0.toUInt32 >>> ((16 : Int32).toUInt32 &&& Int32.toUInt32 31)).toInt32) &&& 255)) 6 (((n0.toUInt32 >>> ((8 : Int32).toUInt32 &&& Int32.toUInt32 31)).toInt32) &&& 255)) 7 (((n0.toUInt32 >>> ((0 : Int32).toUInt32 &&& Int32.toUInt32 31)).toInt32) &&& 255))))] H := hP
  have hD : va_D A [(h0, .inr (11, ofL 17 (updV (updV (updV Fh0 13 (.int 5)) 13 (.int 6)) 13 (.int 7)))), (atp, .inl (G.2.1, 700, .inl (upd (upd (upd (upd f0 4 (((n0.toUInt32 >>> ((24 : Int32).toUInt32 &&& Int32.toUInt32 31)).toInt32) &&& 255)) 5 (((n0.toUInt32 >>> ((16 : Int32).toUInt32 &&& Int32.toUInt32 31)).toInt32) &&& 255)) 6 (((n0.toUInt32 >>> ((8 : Int32).toUInt32 &&& Int32.toUInt32 31)).toInt32) &&& 255)) 7 (((n0.toUInt32 >>> ((0 : Int32).toUInt32 &&& Int32.toUInt32 31)).toInt32) &&& 255))))] := hD
  refine lv_aload_n hx hb dX11_put_35 rfl (lv_at hl 1 rfl) ?_
  refine lv_dup hx hb dX11_put_36 rfl ?_
  refine k_get (v := .int 7) fl_X11_87 C hP 0 rfl rfl dX11_put_37 ?_
  refine lv_iconst (v := 1) hx hb dX11_put_40 (by decide) ?_
  refine lv_iadd hx hb dX11_put_41 ?_
  refine k_eqi (y := 8) (by decide) ?_
  refine k_put fl_X11_87 ft_X11_13 C hP hD hS 0 rfl rfl rfl dX11_put_42 (fun H locs hP hD hS => ?_)
  have hP : va_P G.1 vwCl [(h0, .inr (11, ofL 17 (updV (updV (updV (updV Fh0 13 (.int 5)) 13 (.int 6)) 13 (.int 7)) 13 (.int 8)))), (atp, .inl (G.2.1, 700, .inl (upd (upd (upd (upd f0 4 (((n0.toUInt32 >>> ((24 : Int32).toUInt32 &&& Int32.toUInt32 31)).toInt32) &&& 255)) 5 (((n0.toUInt32 >>> ((16 : Int32).toUInt32 &&& Int32.toUInt32 31)).toInt32) &&& 255)) 6 (((n0.toUInt32 >>> ((8 : Int32).toUInt32 &&& Int32.toUInt32 31)).toInt32) &&& 255)) 7 (((n0.toUInt32 >>> ((0 : Int32).toUInt32 &&& Int32.toUInt32 31)).toInt32) &&& 255))))] H := hP
  have hD : va_D A [(h0, .inr (11, ofL 17 (updV (updV (updV (updV Fh0 13 (.int 5)) 13 (.int 6)) 13 (.int 7)) 13 (.int 8)))), (atp, .inl (G.2.1, 700, .inl (upd (upd (upd (upd f0 4 (((n0.toUInt32 >>> ((24 : Int32).toUInt32 &&& Int32.toUInt32 31)).toInt32) &&& 255)) 5 (((n0.toUInt32 >>> ((16 : Int32).toUInt32 &&& Int32.toUInt32 31)).toInt32) &&& 255)) 6 (((n0.toUInt32 >>> ((8 : Int32).toUInt32 &&& Int32.toUInt32 31)).toInt32) &&& 255)) 7 (((n0.toUInt32 >>> ((0 : Int32).toUInt32 &&& Int32.toUInt32 31)).toInt32) &&& 255))))] := hD
  refine lv_iinc (v := -8) (lv' := [(2, .int (-8)), (0, .ref h0), (1, .int n0)]) hx hb dX11_put_45 hl (k := 0) rfl (by decide) (by decide) rfl (fun ls hl => ?_)
  refine lv_goto (tgt := 3) hx hb dX11_put_48 (by decide) ?_
  refine lv_iload_n hx hb dX11_put_3 rfl (lv_at hl 0 rfl) ?_
  refine lv_if_lt (x := -8) (tgt := 51) hx hb dX11_put_4 (by decide) (fun c_9 => ?_) (fun c_9 => ?_)
  rotate_left
  · exact absurd (by decide) c_9
  exact k_vret C hr hlk hP hD hS () (trivial) [0, 1] rfl rfl (Nat.le_of_ble_eq_true rfl) (Nat.le_of_ble_eq_true rfl) dX11_put_51
set_option maxHeartbeats 4000000 in
set_option maxRecDepth 100000 in
theorem c_X11_put_8 (l : Launch) (G : kG) (sz : Nat) (h0 : Nat) (n0 : Int32) (Fh0 : Nat → Value) (atp : Nat) (f0 : Nat → Int32) (e_h0_0 : Fh0 0 = .ref atp) (e_h0_13 : Fh0 13 = .int 8) : kM l yX11_put cX11_put 3 none { frames := 6, cells := 0, slots := 0, locals := 110 } G [.ref h0, .int n0] [(h0, .inr (11, ofL 17 Fh0)), (atp, .inl (G.2.1, 700, .inl f0))] sz (kQv G (S := Unit) (fun (_ : Unit) => True) (fun _ => [(h0, .inr (11, ofL 17 (updV (updV (updV (updV Fh0 13 (.int 9)) 13 (.int 10)) 13 (.int 11)) 13 (.int 12)))), (atp, .inl (G.2.1, 700, .inl (upd (upd (upd (upd f0 8 (((n0.toUInt32 >>> ((24 : Int32).toUInt32 &&& Int32.toUInt32 31)).toInt32) &&& 255)) 9 (((n0.toUInt32 >>> ((16 : Int32).toUInt32 &&& Int32.toUInt32 31)).toInt32) &&& 255)) 10 (((n0.toUInt32 >>> ((8 : Int32).toUInt32 &&& Int32.toUInt32 31)).toInt32) &&& 255)) 11 (((n0.toUInt32 >>> ((0 : Int32).toUInt32 &&& Int32.toUInt32 31)).toInt32) &&& 255))))])) := by
  refine kM.of (by decide) (Nat.le_of_ble_eq_true rfl) ?_
  intro p e s m below meth c A ls H C hr hlk hnm hP hD hS hl
  have C : kC G p s m c cX11_put 3 RX11 A := C
  have hx := C.1
  have hb := C.2.1
  have hl : lv_has ls 3 [(0, .ref h0), (1, .int n0)] := hl
  refine lv_bipush (v := 24) hx hb dX11_put_0 (by decide) ?_
  refine lv_istore_n (lv' := [(2, .int 24), (0, .ref h0), (1, .int n0)]) hx hb dX11_put_2 rfl hl (by decide) rfl (fun ls hl => ?_)
  refine lv_iload_n hx hb dX11_put_3 rfl (lv_at hl 0 rfl) ?_
  refine lv_if_lt (x := 24) (tgt := 51) hx hb dX11_put_4 (by decide) (fun c_1 => ?_) (fun c_1 => ?_)
  · exact absurd c_1 (by decide)
  refine lv_aload_n hx hb dX11_put_7 rfl (lv_at hl 1 rfl) ?_
  refine k_get (v := .int 8) fl_X11_87 C hP 0 rfl e_h0_13 dX11_put_8 ?_
  refine lv_aload_n hx hb dX11_put_11 rfl (lv_at hl 1 rfl) ?_
  refine k_get (v := .ref atp) fl_X11_9 C hP 0 rfl e_h0_0 dX11_put_12 ?_
  refine k_alen (v := 700) C hP 1 rfl rfl dX11_put_15 ?_
  refine lv_icmp_ge (x := 8) (y := 700) (tgt := 45) hx hb dX11_put_16 (by decide) (fun c_2 => ?_) (fun c_2 => ?_)
  · exact absurd c_2 (by decide)
  refine lv_aload_n hx hb dX11_put_19 rfl (lv_at hl 1 rfl) ?_
  refine k_get (v := .ref atp) fl_X11_9 C hP 0 rfl e_h0_0 dX11_put_20 ?_
  refine lv_aload_n hx hb dX11_put_23 rfl (lv_at hl 1 rfl) ?_
  refine k_get (v := .int 8) fl_X11_87 C hP 0 rfl e_h0_13 dX11_put_24 ?_
  refine lv_iload_n hx hb dX11_put_27 rfl (lv_at hl 2 rfl) ?_
  refine lv_iload_n hx hb dX11_put_28 rfl (lv_at hl 0 rfl) ?_
  refine lv_iushr hx hb dX11_put_29 rfl ?_
  refine lv_sipush (v := 255) hx hb dX11_put_30 (by decide) ?_
  refine lv_iand hx hb dX11_put_33 ?_
  refine k_iast C hP hD hS 1 rfl (k_in (by decide)) dX11_put_34 (fun H locs hP hD hS => ?_)
  have hP : va_P G.1 vwCl [(h0, .inr (11, ofL 17 Fh0)), (atp, .inl (G.2.1, 700, .inl (upd f0 8 (((n0.toUInt32 >>> ((24 : Int32).toUInt32 &&& Int32.toUInt32 31)).toInt32) &&& 255))))] H := hP
  have hD : va_D A [(h0, .inr (11, ofL 17 Fh0)), (atp, .inl (G.2.1, 700, .inl (upd f0 8 (((n0.toUInt32 >>> ((24 : Int32).toUInt32 &&& Int32.toUInt32 31)).toInt32) &&& 255))))] := hD
  refine lv_aload_n hx hb dX11_put_35 rfl (lv_at hl 1 rfl) ?_
  refine lv_dup hx hb dX11_put_36 rfl ?_
  refine k_get (v := .int 8) fl_X11_87 C hP 0 rfl e_h0_13 dX11_put_37 ?_
  refine lv_iconst (v := 1) hx hb dX11_put_40 (by decide) ?_
  refine lv_iadd hx hb dX11_put_41 ?_
  refine k_eqi (y := 9) (by decide) ?_
  refine k_put fl_X11_87 ft_X11_13 C hP hD hS 0 rfl rfl rfl dX11_put_42 (fun H locs hP hD hS => ?_)
  have hP : va_P G.1 vwCl [(h0, .inr (11, ofL 17 (updV Fh0 13 (.int 9)))), (atp, .inl (G.2.1, 700, .inl (upd f0 8 (((n0.toUInt32 >>> ((24 : Int32).toUInt32 &&& Int32.toUInt32 31)).toInt32) &&& 255))))] H := hP
  have hD : va_D A [(h0, .inr (11, ofL 17 (updV Fh0 13 (.int 9)))), (atp, .inl (G.2.1, 700, .inl (upd f0 8 (((n0.toUInt32 >>> ((24 : Int32).toUInt32 &&& Int32.toUInt32 31)).toInt32) &&& 255))))] := hD
  refine lv_iinc (v := 16) (lv' := [(2, .int 16), (0, .ref h0), (1, .int n0)]) hx hb dX11_put_45 hl (k := 0) rfl (by decide) (by decide) rfl (fun ls hl => ?_)
  refine lv_goto (tgt := 3) hx hb dX11_put_48 (by decide) ?_
  refine lv_iload_n hx hb dX11_put_3 rfl (lv_at hl 0 rfl) ?_
  refine lv_if_lt (x := 16) (tgt := 51) hx hb dX11_put_4 (by decide) (fun c_3 => ?_) (fun c_3 => ?_)
  · exact absurd c_3 (by decide)
  refine lv_aload_n hx hb dX11_put_7 rfl (lv_at hl 1 rfl) ?_
  refine k_get (v := .int 9) fl_X11_87 C hP 0 rfl rfl dX11_put_8 ?_
  refine lv_aload_n hx hb dX11_put_11 rfl (lv_at hl 1 rfl) ?_
  refine k_get (v := .ref atp) fl_X11_9 C hP 0 rfl e_h0_0 dX11_put_12 ?_
  refine k_alen (v := 700) C hP 1 rfl rfl dX11_put_15 ?_
  refine lv_icmp_ge (x := 9) (y := 700) (tgt := 45) hx hb dX11_put_16 (by decide) (fun c_4 => ?_) (fun c_4 => ?_)
  · exact absurd c_4 (by decide)
  refine lv_aload_n hx hb dX11_put_19 rfl (lv_at hl 1 rfl) ?_
  refine k_get (v := .ref atp) fl_X11_9 C hP 0 rfl e_h0_0 dX11_put_20 ?_
  refine lv_aload_n hx hb dX11_put_23 rfl (lv_at hl 1 rfl) ?_
  refine k_get (v := .int 9) fl_X11_87 C hP 0 rfl rfl dX11_put_24 ?_
  refine lv_iload_n hx hb dX11_put_27 rfl (lv_at hl 2 rfl) ?_
  refine lv_iload_n hx hb dX11_put_28 rfl (lv_at hl 0 rfl) ?_
  refine lv_iushr hx hb dX11_put_29 rfl ?_
  refine lv_sipush (v := 255) hx hb dX11_put_30 (by decide) ?_
  refine lv_iand hx hb dX11_put_33 ?_
  refine k_iast C hP hD hS 1 rfl (k_in (by decide)) dX11_put_34 (fun H locs hP hD hS => ?_)
  have hP : va_P G.1 vwCl [(h0, .inr (11, ofL 17 (updV Fh0 13 (.int 9)))), (atp, .inl (G.2.1, 700, .inl (upd (upd f0 8 (((n0.toUInt32 >>> ((24 : Int32).toUInt32 &&& Int32.toUInt32 31)).toInt32) &&& 255)) 9 (((n0.toUInt32 >>> ((16 : Int32).toUInt32 &&& Int32.toUInt32 31)).toInt32) &&& 255))))] H := hP
  have hD : va_D A [(h0, .inr (11, ofL 17 (updV Fh0 13 (.int 9)))), (atp, .inl (G.2.1, 700, .inl (upd (upd f0 8 (((n0.toUInt32 >>> ((24 : Int32).toUInt32 &&& Int32.toUInt32 31)).toInt32) &&& 255)) 9 (((n0.toUInt32 >>> ((16 : Int32).toUInt32 &&& Int32.toUInt32 31)).toInt32) &&& 255))))] := hD
  refine lv_aload_n hx hb dX11_put_35 rfl (lv_at hl 1 rfl) ?_
  refine lv_dup hx hb dX11_put_36 rfl ?_
  refine k_get (v := .int 9) fl_X11_87 C hP 0 rfl rfl dX11_put_37 ?_
  refine lv_iconst (v := 1) hx hb dX11_put_40 (by decide) ?_
  refine lv_iadd hx hb dX11_put_41 ?_
  refine k_eqi (y := 10) (by decide) ?_
  refine k_put fl_X11_87 ft_X11_13 C hP hD hS 0 rfl rfl rfl dX11_put_42 (fun H locs hP hD hS => ?_)
  have hP : va_P G.1 vwCl [(h0, .inr (11, ofL 17 (updV (updV Fh0 13 (.int 9)) 13 (.int 10)))), (atp, .inl (G.2.1, 700, .inl (upd (upd f0 8 (((n0.toUInt32 >>> ((24 : Int32).toUInt32 &&& Int32.toUInt32 31)).toInt32) &&& 255)) 9 (((n0.toUInt32 >>> ((16 : Int32).toUInt32 &&& Int32.toUInt32 31)).toInt32) &&& 255))))] H := hP
  have hD : va_D A [(h0, .inr (11, ofL 17 (updV (updV Fh0 13 (.int 9)) 13 (.int 10)))), (atp, .inl (G.2.1, 700, .inl (upd (upd f0 8 (((n0.toUInt32 >>> ((24 : Int32).toUInt32 &&& Int32.toUInt32 31)).toInt32) &&& 255)) 9 (((n0.toUInt32 >>> ((16 : Int32).toUInt32 &&& Int32.toUInt32 31)).toInt32) &&& 255))))] := hD
  refine lv_iinc (v := 8) (lv' := [(2, .int 8), (0, .ref h0), (1, .int n0)]) hx hb dX11_put_45 hl (k := 0) rfl (by decide) (by decide) rfl (fun ls hl => ?_)
  refine lv_goto (tgt := 3) hx hb dX11_put_48 (by decide) ?_
  refine lv_iload_n hx hb dX11_put_3 rfl (lv_at hl 0 rfl) ?_
  refine lv_if_lt (x := 8) (tgt := 51) hx hb dX11_put_4 (by decide) (fun c_5 => ?_) (fun c_5 => ?_)
  · exact absurd c_5 (by decide)
  refine lv_aload_n hx hb dX11_put_7 rfl (lv_at hl 1 rfl) ?_
  refine k_get (v := .int 10) fl_X11_87 C hP 0 rfl rfl dX11_put_8 ?_
  refine lv_aload_n hx hb dX11_put_11 rfl (lv_at hl 1 rfl) ?_
  refine k_get (v := .ref atp) fl_X11_9 C hP 0 rfl e_h0_0 dX11_put_12 ?_
  refine k_alen (v := 700) C hP 1 rfl rfl dX11_put_15 ?_
  refine lv_icmp_ge (x := 10) (y := 700) (tgt := 45) hx hb dX11_put_16 (by decide) (fun c_6 => ?_) (fun c_6 => ?_)
  · exact absurd c_6 (by decide)
  refine lv_aload_n hx hb dX11_put_19 rfl (lv_at hl 1 rfl) ?_
  refine k_get (v := .ref atp) fl_X11_9 C hP 0 rfl e_h0_0 dX11_put_20 ?_
  refine lv_aload_n hx hb dX11_put_23 rfl (lv_at hl 1 rfl) ?_
  refine k_get (v := .int 10) fl_X11_87 C hP 0 rfl rfl dX11_put_24 ?_
  refine lv_iload_n hx hb dX11_put_27 rfl (lv_at hl 2 rfl) ?_
  refine lv_iload_n hx hb dX11_put_28 rfl (lv_at hl 0 rfl) ?_
  refine lv_iushr hx hb dX11_put_29 rfl ?_
  refine lv_sipush (v := 255) hx hb dX11_put_30 (by decide) ?_
  refine lv_iand hx hb dX11_put_33 ?_
  refine k_iast C hP hD hS 1 rfl (k_in (by decide)) dX11_put_34 (fun H locs hP hD hS => ?_)
  have hP : va_P G.1 vwCl [(h0, .inr (11, ofL 17 (updV (updV Fh0 13 (.int 9)) 13 (.int 10)))), (atp, .inl (G.2.1, 700, .inl (upd (upd (upd f0 8 (((n0.toUInt32 >>> ((24 : Int32).toUInt32 &&& Int32.toUInt32 31)).toInt32) &&& 255)) 9 (((n0.toUInt32 >>> ((16 : Int32).toUInt32 &&& Int32.toUInt32 31)).toInt32) &&& 255)) 10 (((n0.toUInt32 >>> ((8 : Int32).toUInt32 &&& Int32.toUInt32 31)).toInt32) &&& 255))))] H := hP
  have hD : va_D A [(h0, .inr (11, ofL 17 (updV (updV Fh0 13 (.int 9)) 13 (.int 10)))), (atp, .inl (G.2.1, 700, .inl (upd (upd (upd f0 8 (((n0.toUInt32 >>> ((24 : Int32).toUInt32 &&& Int32.toUInt32 31)).toInt32) &&& 255)) 9 (((n0.toUInt32 >>> ((16 : Int32).toUInt32 &&& Int32.toUInt32 31)).toInt32) &&& 255)) 10 (((n0.toUInt32 >>> ((8 : Int32).toUInt32 &&& Int32.toUInt32 31)).toInt32) &&& 255))))] := hD
  refine lv_aload_n hx hb dX11_put_35 rfl (lv_at hl 1 rfl) ?_
  refine lv_dup hx hb dX11_put_36 rfl ?_
  refine k_get (v := .int 10) fl_X11_87 C hP 0 rfl rfl dX11_put_37 ?_
  refine lv_iconst (v := 1) hx hb dX11_put_40 (by decide) ?_
  refine lv_iadd hx hb dX11_put_41 ?_
  refine k_eqi (y := 11) (by decide) ?_
  refine k_put fl_X11_87 ft_X11_13 C hP hD hS 0 rfl rfl rfl dX11_put_42 (fun H locs hP hD hS => ?_)
  have hP : va_P G.1 vwCl [(h0, .inr (11, ofL 17 (updV (updV (updV Fh0 13 (.int 9)) 13 (.int 10)) 13 (.int 11)))), (atp, .inl (G.2.1, 700, .inl (upd (upd (upd f0 8 (((n0.toUInt32 >>> ((24 : Int32).toUInt32 &&& Int32.toUInt32 31)).toInt32) &&& 255)) 9 (((n0.toUInt32 >>> ((16 : Int32).toUInt32 &&& Int32.toUInt32 31)).toInt32) &&& 255)) 10 (((n0.toUInt32 >>> ((8 : Int32).toUInt32 &&& Int32.toUInt32 31)).toInt32) &&& 255))))] H := hP
  have hD : va_D A [(h0, .inr (11, ofL 17 (updV (updV (updV Fh0 13 (.int 9)) 13 (.int 10)) 13 (.int 11)))), (atp, .inl (G.2.1, 700, .inl (upd (upd (upd f0 8 (((n0.toUInt32 >>> ((24 : Int32).toUInt32 &&& Int32.toUInt32 31)).toInt32) &&& 255)) 9 (((n0.toUInt32 >>> ((16 : Int32).toUInt32 &&& Int32.toUInt32 31)).toInt32) &&& 255)) 10 (((n0.toUInt32 >>> ((8 : Int32).toUInt32 &&& Int32.toUInt32 31)).toInt32) &&& 255))))] := hD
  refine lv_iinc (v := 0) (lv' := [(2, .int 0), (0, .ref h0), (1, .int n0)]) hx hb dX11_put_45 hl (k := 0) rfl (by decide) (by decide) rfl (fun ls hl => ?_)
  refine lv_goto (tgt := 3) hx hb dX11_put_48 (by decide) ?_
  refine lv_iload_n hx hb dX11_put_3 rfl (lv_at hl 0 rfl) ?_
  refine lv_if_lt (x := 0) (tgt := 51) hx hb dX11_put_4 (by decide) (fun c_7 => ?_) (fun c_7 => ?_)
  · exact absurd c_7 (by decide)
  refine lv_aload_n hx hb dX11_put_7 rfl (lv_at hl 1 rfl) ?_
  refine k_get (v := .int 11) fl_X11_87 C hP 0 rfl rfl dX11_put_8 ?_
  refine lv_aload_n hx hb dX11_put_11 rfl (lv_at hl 1 rfl) ?_
  refine k_get (v := .ref atp) fl_X11_9 C hP 0 rfl e_h0_0 dX11_put_12 ?_
  refine k_alen (v := 700) C hP 1 rfl rfl dX11_put_15 ?_
  refine lv_icmp_ge (x := 11) (y := 700) (tgt := 45) hx hb dX11_put_16 (by decide) (fun c_8 => ?_) (fun c_8 => ?_)
  · exact absurd c_8 (by decide)
  refine lv_aload_n hx hb dX11_put_19 rfl (lv_at hl 1 rfl) ?_
  refine k_get (v := .ref atp) fl_X11_9 C hP 0 rfl e_h0_0 dX11_put_20 ?_
  refine lv_aload_n hx hb dX11_put_23 rfl (lv_at hl 1 rfl) ?_
  refine k_get (v := .int 11) fl_X11_87 C hP 0 rfl rfl dX11_put_24 ?_
  refine lv_iload_n hx hb dX11_put_27 rfl (lv_at hl 2 rfl) ?_
  refine lv_iload_n hx hb dX11_put_28 rfl (lv_at hl 0 rfl) ?_
  refine lv_iushr hx hb dX11_put_29 rfl ?_
  refine lv_sipush (v := 255) hx hb dX11_put_30 (by decide) ?_
  refine lv_iand hx hb dX11_put_33 ?_
  refine k_iast C hP hD hS 1 rfl (k_in (by decide)) dX11_put_34 (fun H locs hP hD hS => ?_)
  have hP : va_P G.1 vwCl [(h0, .inr (11, ofL 17 (updV (updV (updV Fh0 13 (.int 9)) 13 (.int 10)) 13 (.int 11)))), (atp, .inl (G.2.1, 700, .inl (upd (upd (upd (upd f0 8 (((n0.toUInt32 >>> ((24 : Int32).toUInt32 &&& Int32.toUInt32 31)).toInt32) &&& 255)) 9 (((n0.toUInt32 >>> ((16 : Int32).toUInt32 &&& Int32.toUInt32 31)).toInt32) &&& 255)) 10 (((n0.toUInt32 >>> ((8 : Int32).toUInt32 &&& Int32.toUInt32 31)).toInt32) &&& 255)) 11 (((n0.toUInt32 >>> ((0 : Int32).toUInt32 &&& Int32.toUInt32 31)).toInt32) &&& 255))))] H := hP
  have hD : va_D A [(h0, .inr (11, ofL 17 (updV (updV (updV Fh0 13 (.int 9)) 13 (.int 10)) 13 (.int 11)))), (atp, .inl (G.2.1, 700, .inl (upd (upd (upd (upd f0 8 (((n0.toUInt32 >>> ((24 : Int32).toUInt32 &&& Int32.toUInt32 31)).toInt32) &&& 255)) 9 (((n0.toUInt32 >>> ((16 : Int32).toUInt32 &&& Int32.toUInt32 31)).toInt32) &&& 255)) 10 (((n0.toUInt32 >>> ((8 : Int32).toUInt32 &&& Int32.toUInt32 31)).toInt32) &&& 255)) 11 (((n0.toUInt32 >>> ((0 : Int32).toUInt32 &&& Int32.toUInt32 31)).toInt32) &&& 255))))] := hD
  refine lv_aload_n hx hb dX11_put_35 rfl (lv_at hl 1 rfl) ?_
  refine lv_dup hx hb dX11_put_36 rfl ?_
  refine k_get (v := .int 11) fl_X11_87 C hP 0 rfl rfl dX11_put_37 ?_
  refine lv_iconst (v := 1) hx hb dX11_put_40 (by decide) ?_
  refine lv_iadd hx hb dX11_put_41 ?_
  refine k_eqi (y := 12) (by decide) ?_
  refine k_put fl_X11_87 ft_X11_13 C hP hD hS 0 rfl rfl rfl dX11_put_42 (fun H locs hP hD hS => ?_)
  have hP : va_P G.1 vwCl [(h0, .inr (11, ofL 17 (updV (updV (updV (updV Fh0 13 (.int 9)) 13 (.int 10)) 13 (.int 11)) 13 (.int 12)))), (atp, .inl (G.2.1, 700, .inl (upd (upd (upd (upd f0 8 (((n0.toUInt32 >>> ((24 : Int32).toUInt32 &&& Int32.toUInt32 31)).toInt32) &&& 255)) 9 (((n0.toUInt32 >>> ((16 : Int32).toUInt32 &&& Int32.toUInt32 31)).toInt32) &&& 255)) 10 (((n0.toUInt32 >>> ((8 : Int32).toUInt32 &&& Int32.toUInt32 31)).toInt32) &&& 255)) 11 (((n0.toUInt32 >>> ((0 : Int32).toUInt32 &&& Int32.toUInt32 31)).toInt32) &&& 255))))] H := hP
  have hD : va_D A [(h0, .inr (11, ofL 17 (updV (updV (updV (updV Fh0 13 (.int 9)) 13 (.int 10)) 13 (.int 11)) 13 (.int 12)))), (atp, .inl (G.2.1, 700, .inl (upd (upd (upd (upd f0 8 (((n0.toUInt32 >>> ((24 : Int32).toUInt32 &&& Int32.toUInt32 31)).toInt32) &&& 255)) 9 (((n0.toUInt32 >>> ((16 : Int32).toUInt32 &&& Int32.toUInt32 31)).toInt32) &&& 255)) 10 (((n0.toUInt32 >>> ((8 : Int32).toUInt32 &&& Int32.toUInt32 31)).toInt32) &&& 255)) 11 (((n0.toUInt32 >>> ((0 : Int32).toUInt32 &&& Int32.toUInt32 31)).toInt32) &&& 255))))] := hD
  refine lv_iinc (v := -8) (lv' := [(2, .int (-8)), (0, .ref h0), (1, .int n0)]) hx hb dX11_put_45 hl (k := 0) rfl (by decide) (by decide) rfl (fun ls hl => ?_)
  refine lv_goto (tgt := 3) hx hb dX11_put_48 (by decide) ?_
  refine lv_iload_n hx hb dX11_put_3 rfl (lv_at hl 0 rfl) ?_
  refine lv_if_lt (x := -8) (tgt := 51) hx hb dX11_put_4 (by decide) (fun c_9 => ?_) (fun c_9 => ?_)
  rotate_left
  · exact absurd (by decide) c_9
  exact k_vret C hr hlk hP hD hS () (trivial) [0, 1] rfl rfl (Nat.le_of_ble_eq_true rfl) (Nat.le_of_ble_eq_true rfl) dX11_put_51
set_option maxHeartbeats 4000000 in
set_option maxRecDepth 100000 in
theorem c_X11_put_12 (l : Launch) (G : kG) (sz : Nat) (h0 : Nat) (n0 : Int32) (Fh0 : Nat → Value) (atp : Nat) (f0 : Nat → Int32) (e_h0_0 : Fh0 0 = .ref atp) (e_h0_13 : Fh0 13 = .int 12) : kM l yX11_put cX11_put 3 none { frames := 6, cells := 0, slots := 0, locals := 110 } G [.ref h0, .int n0] [(h0, .inr (11, ofL 17 Fh0)), (atp, .inl (G.2.1, 700, .inl f0))] sz (kQv G (S := Unit) (fun (_ : Unit) => True) (fun _ => [(h0, .inr (11, ofL 17 (updV (updV (updV (updV Fh0 13 (.int 13)) 13 (.int 14)) 13 (.int 15)) 13 (.int 16)))), (atp, .inl (G.2.1, 700, .inl (upd (upd (upd (upd f0 12 (((n0.toUInt32 >>> ((24 : Int32).toUInt32 &&& Int32.toUInt32 31)).toInt32) &&& 255)) 13 (((n0.toUInt32 >>> ((16 : Int32).toUInt32 &&& Int32.toUInt32 31)).toInt32) &&& 255)) 14 (((n0.toUInt32 >>> ((8 : Int32).toUInt32 &&& Int32.toUInt32 31)).toInt32) &&& 255)) 15 (((n0.toUInt32 >>> ((0 : Int32).toUInt32 &&& Int32.toUInt32 31)).toInt32) &&& 255))))])) := by
  refine kM.of (by decide) (Nat.le_of_ble_eq_true rfl) ?_
  intro p e s m below meth c A ls H C hr hlk hnm hP hD hS hl
  have C : kC G p s m c cX11_put 3 RX11 A := C
  have hx := C.1
  have hb := C.2.1
  have hl : lv_has ls 3 [(0, .ref h0), (1, .int n0)] := hl
  refine lv_bipush (v := 24) hx hb dX11_put_0 (by decide) ?_
  refine lv_istore_n (lv' := [(2, .int 24), (0, .ref h0), (1, .int n0)]) hx hb dX11_put_2 rfl hl (by decide) rfl (fun ls hl => ?_)
  refine lv_iload_n hx hb dX11_put_3 rfl (lv_at hl 0 rfl) ?_
  refine lv_if_lt (x := 24) (tgt := 51) hx hb dX11_put_4 (by decide) (fun c_1 => ?_) (fun c_1 => ?_)
  · exact absurd c_1 (by decide)
  refine lv_aload_n hx hb dX11_put_7 rfl (lv_at hl 1 rfl) ?_
  refine k_get (v := .int 12) fl_X11_87 C hP 0 rfl e_h0_13 dX11_put_8 ?_
  refine lv_aload_n hx hb dX11_put_11 rfl (lv_at hl 1 rfl) ?_
  refine k_get (v := .ref atp) fl_X11_9 C hP 0 rfl e_h0_0 dX11_put_12 ?_
  refine k_alen (v := 700) C hP 1 rfl rfl dX11_put_15 ?_
  refine lv_icmp_ge (x := 12) (y := 700) (tgt := 45) hx hb dX11_put_16 (by decide) (fun c_2 => ?_) (fun c_2 => ?_)
  · exact absurd c_2 (by decide)
  refine lv_aload_n hx hb dX11_put_19 rfl (lv_at hl 1 rfl) ?_
  refine k_get (v := .ref atp) fl_X11_9 C hP 0 rfl e_h0_0 dX11_put_20 ?_
  refine lv_aload_n hx hb dX11_put_23 rfl (lv_at hl 1 rfl) ?_
  refine k_get (v := .int 12) fl_X11_87 C hP 0 rfl e_h0_13 dX11_put_24 ?_
  refine lv_iload_n hx hb dX11_put_27 rfl (lv_at hl 2 rfl) ?_
  refine lv_iload_n hx hb dX11_put_28 rfl (lv_at hl 0 rfl) ?_
  refine lv_iushr hx hb dX11_put_29 rfl ?_
  refine lv_sipush (v := 255) hx hb dX11_put_30 (by decide) ?_
  refine lv_iand hx hb dX11_put_33 ?_
  refine k_iast C hP hD hS 1 rfl (k_in (by decide)) dX11_put_34 (fun H locs hP hD hS => ?_)
  have hP : va_P G.1 vwCl [(h0, .inr (11, ofL 17 Fh0)), (atp, .inl (G.2.1, 700, .inl (upd f0 12 (((n0.toUInt32 >>> ((24 : Int32).toUInt32 &&& Int32.toUInt32 31)).toInt32) &&& 255))))] H := hP
  have hD : va_D A [(h0, .inr (11, ofL 17 Fh0)), (atp, .inl (G.2.1, 700, .inl (upd f0 12 (((n0.toUInt32 >>> ((24 : Int32).toUInt32 &&& Int32.toUInt32 31)).toInt32) &&& 255))))] := hD
  refine lv_aload_n hx hb dX11_put_35 rfl (lv_at hl 1 rfl) ?_
  refine lv_dup hx hb dX11_put_36 rfl ?_
  refine k_get (v := .int 12) fl_X11_87 C hP 0 rfl e_h0_13 dX11_put_37 ?_
  refine lv_iconst (v := 1) hx hb dX11_put_40 (by decide) ?_
  refine lv_iadd hx hb dX11_put_41 ?_
  refine k_eqi (y := 13) (by decide) ?_
  refine k_put fl_X11_87 ft_X11_13 C hP hD hS 0 rfl rfl rfl dX11_put_42 (fun H locs hP hD hS => ?_)
  have hP : va_P G.1 vwCl [(h0, .inr (11, ofL 17 (updV Fh0 13 (.int 13)))), (atp, .inl (G.2.1, 700, .inl (upd f0 12 (((n0.toUInt32 >>> ((24 : Int32).toUInt32 &&& Int32.toUInt32 31)).toInt32) &&& 255))))] H := hP
  have hD : va_D A [(h0, .inr (11, ofL 17 (updV Fh0 13 (.int 13)))), (atp, .inl (G.2.1, 700, .inl (upd f0 12 (((n0.toUInt32 >>> ((24 : Int32).toUInt32 &&& Int32.toUInt32 31)).toInt32) &&& 255))))] := hD
  refine lv_iinc (v := 16) (lv' := [(2, .int 16), (0, .ref h0), (1, .int n0)]) hx hb dX11_put_45 hl (k := 0) rfl (by decide) (by decide) rfl (fun ls hl => ?_)
  refine lv_goto (tgt := 3) hx hb dX11_put_48 (by decide) ?_
  refine lv_iload_n hx hb dX11_put_3 rfl (lv_at hl 0 rfl) ?_
  refine lv_if_lt (x := 16) (tgt := 51) hx hb dX11_put_4 (by decide) (fun c_3 => ?_) (fun c_3 => ?_)
  · exact absurd c_3 (by decide)
  refine lv_aload_n hx hb dX11_put_7 rfl (lv_at hl 1 rfl) ?_
  refine k_get (v := .int 13) fl_X11_87 C hP 0 rfl rfl dX11_put_8 ?_
  refine lv_aload_n hx hb dX11_put_11 rfl (lv_at hl 1 rfl) ?_
  refine k_get (v := .ref atp) fl_X11_9 C hP 0 rfl e_h0_0 dX11_put_12 ?_
  refine k_alen (v := 700) C hP 1 rfl rfl dX11_put_15 ?_
  refine lv_icmp_ge (x := 13) (y := 700) (tgt := 45) hx hb dX11_put_16 (by decide) (fun c_4 => ?_) (fun c_4 => ?_)
  · exact absurd c_4 (by decide)
  refine lv_aload_n hx hb dX11_put_19 rfl (lv_at hl 1 rfl) ?_
  refine k_get (v := .ref atp) fl_X11_9 C hP 0 rfl e_h0_0 dX11_put_20 ?_
  refine lv_aload_n hx hb dX11_put_23 rfl (lv_at hl 1 rfl) ?_
  refine k_get (v := .int 13) fl_X11_87 C hP 0 rfl rfl dX11_put_24 ?_
  refine lv_iload_n hx hb dX11_put_27 rfl (lv_at hl 2 rfl) ?_
  refine lv_iload_n hx hb dX11_put_28 rfl (lv_at hl 0 rfl) ?_
  refine lv_iushr hx hb dX11_put_29 rfl ?_
  refine lv_sipush (v := 255) hx hb dX11_put_30 (by decide) ?_
  refine lv_iand hx hb dX11_put_33 ?_
  refine k_iast C hP hD hS 1 rfl (k_in (by decide)) dX11_put_34 (fun H locs hP hD hS => ?_)
  have hP : va_P G.1 vwCl [(h0, .inr (11, ofL 17 (updV Fh0 13 (.int 13)))), (atp, .inl (G.2.1, 700, .inl (upd (upd f0 12 (((n0.toUInt32 >>> ((24 : Int32).toUInt32 &&& Int32.toUInt32 31)).toInt32) &&& 255)) 13 (((n0.toUInt32 >>> ((16 : Int32).toUInt32 &&& Int32.toUInt32 31)).toInt32) &&& 255))))] H := hP
  have hD : va_D A [(h0, .inr (11, ofL 17 (updV Fh0 13 (.int 13)))), (atp, .inl (G.2.1, 700, .inl (upd (upd f0 12 (((n0.toUInt32 >>> ((24 : Int32).toUInt32 &&& Int32.toUInt32 31)).toInt32) &&& 255)) 13 (((n0.toUInt32 >>> ((16 : Int32).toUInt32 &&& Int32.toUInt32 31)).toInt32) &&& 255))))] := hD
  refine lv_aload_n hx hb dX11_put_35 rfl (lv_at hl 1 rfl) ?_
  refine lv_dup hx hb dX11_put_36 rfl ?_
  refine k_get (v := .int 13) fl_X11_87 C hP 0 rfl rfl dX11_put_37 ?_
  refine lv_iconst (v := 1) hx hb dX11_put_40 (by decide) ?_
  refine lv_iadd hx hb dX11_put_41 ?_
  refine k_eqi (y := 14) (by decide) ?_
  refine k_put fl_X11_87 ft_X11_13 C hP hD hS 0 rfl rfl rfl dX11_put_42 (fun H locs hP hD hS => ?_)
  have hP : va_P G.1 vwCl [(h0, .inr (11, ofL 17 (updV (updV Fh0 13 (.int 13)) 13 (.int 14)))), (atp, .inl (G.2.1, 700, .inl (upd (upd f0 12 (((n0.toUInt32 >>> ((24 : Int32).toUInt32 &&& Int32.toUInt32 31)).toInt32) &&& 255)) 13 (((n0.toUInt32 >>> ((16 : Int32).toUInt32 &&& Int32.toUInt32 31)).toInt32) &&& 255))))] H := hP
  have hD : va_D A [(h0, .inr (11, ofL 17 (updV (updV Fh0 13 (.int 13)) 13 (.int 14)))), (atp, .inl (G.2.1, 700, .inl (upd (upd f0 12 (((n0.toUInt32 >>> ((24 : Int32).toUInt32 &&& Int32.toUInt32 31)).toInt32) &&& 255)) 13 (((n0.toUInt32 >>> ((16 : Int32).toUInt32 &&& Int32.toUInt32 31)).toInt32) &&& 255))))] := hD
  refine lv_iinc (v := 8) (lv' := [(2, .int 8), (0, .ref h0), (1, .int n0)]) hx hb dX11_put_45 hl (k := 0) rfl (by decide) (by decide) rfl (fun ls hl => ?_)
  refine lv_goto (tgt := 3) hx hb dX11_put_48 (by decide) ?_
  refine lv_iload_n hx hb dX11_put_3 rfl (lv_at hl 0 rfl) ?_
  refine lv_if_lt (x := 8) (tgt := 51) hx hb dX11_put_4 (by decide) (fun c_5 => ?_) (fun c_5 => ?_)
  · exact absurd c_5 (by decide)
  refine lv_aload_n hx hb dX11_put_7 rfl (lv_at hl 1 rfl) ?_
  refine k_get (v := .int 14) fl_X11_87 C hP 0 rfl rfl dX11_put_8 ?_
  refine lv_aload_n hx hb dX11_put_11 rfl (lv_at hl 1 rfl) ?_
  refine k_get (v := .ref atp) fl_X11_9 C hP 0 rfl e_h0_0 dX11_put_12 ?_
  refine k_alen (v := 700) C hP 1 rfl rfl dX11_put_15 ?_
  refine lv_icmp_ge (x := 14) (y := 700) (tgt := 45) hx hb dX11_put_16 (by decide) (fun c_6 => ?_) (fun c_6 => ?_)
  · exact absurd c_6 (by decide)
  refine lv_aload_n hx hb dX11_put_19 rfl (lv_at hl 1 rfl) ?_
  refine k_get (v := .ref atp) fl_X11_9 C hP 0 rfl e_h0_0 dX11_put_20 ?_
  refine lv_aload_n hx hb dX11_put_23 rfl (lv_at hl 1 rfl) ?_
  refine k_get (v := .int 14) fl_X11_87 C hP 0 rfl rfl dX11_put_24 ?_
  refine lv_iload_n hx hb dX11_put_27 rfl (lv_at hl 2 rfl) ?_
  refine lv_iload_n hx hb dX11_put_28 rfl (lv_at hl 0 rfl) ?_
  refine lv_iushr hx hb dX11_put_29 rfl ?_
  refine lv_sipush (v := 255) hx hb dX11_put_30 (by decide) ?_
  refine lv_iand hx hb dX11_put_33 ?_
  refine k_iast C hP hD hS 1 rfl (k_in (by decide)) dX11_put_34 (fun H locs hP hD hS => ?_)
  have hP : va_P G.1 vwCl [(h0, .inr (11, ofL 17 (updV (updV Fh0 13 (.int 13)) 13 (.int 14)))), (atp, .inl (G.2.1, 700, .inl (upd (upd (upd f0 12 (((n0.toUInt32 >>> ((24 : Int32).toUInt32 &&& Int32.toUInt32 31)).toInt32) &&& 255)) 13 (((n0.toUInt32 >>> ((16 : Int32).toUInt32 &&& Int32.toUInt32 31)).toInt32) &&& 255)) 14 (((n0.toUInt32 >>> ((8 : Int32).toUInt32 &&& Int32.toUInt32 31)).toInt32) &&& 255))))] H := hP
  have hD : va_D A [(h0, .inr (11, ofL 17 (updV (updV Fh0 13 (.int 13)) 13 (.int 14)))), (atp, .inl (G.2.1, 700, .inl (upd (upd (upd f0 12 (((n0.toUInt32 >>> ((24 : Int32).toUInt32 &&& Int32.toUInt32 31)).toInt32) &&& 255)) 13 (((n0.toUInt32 >>> ((16 : Int32).toUInt32 &&& Int32.toUInt32 31)).toInt32) &&& 255)) 14 (((n0.toUInt32 >>> ((8 : Int32).toUInt32 &&& Int32.toUInt32 31)).toInt32) &&& 255))))] := hD
  refine lv_aload_n hx hb dX11_put_35 rfl (lv_at hl 1 rfl) ?_
  refine lv_dup hx hb dX11_put_36 rfl ?_
  refine k_get (v := .int 14) fl_X11_87 C hP 0 rfl rfl dX11_put_37 ?_
  refine lv_iconst (v := 1) hx hb dX11_put_40 (by decide) ?_
  refine lv_iadd hx hb dX11_put_41 ?_
  refine k_eqi (y := 15) (by decide) ?_
  refine k_put fl_X11_87 ft_X11_13 C hP hD hS 0 rfl rfl rfl dX11_put_42 (fun H locs hP hD hS => ?_)
  have hP : va_P G.1 vwCl [(h0, .inr (11, ofL 17 (updV (updV (updV Fh0 13 (.int 13)) 13 (.int 14)) 13 (.int 15)))), (atp, .inl (G.2.1, 700, .inl (upd (upd (upd f0 12 (((n0.toUInt32 >>> ((24 : Int32).toUInt32 &&& Int32.toUInt32 31)).toInt32) &&& 255)) 13 (((n0.toUInt32 >>> ((16 : Int32).toUInt32 &&& Int32.toUInt32 31)).toInt32) &&& 255)) 14 (((n0.toUInt32 >>> ((8 : Int32).toUInt32 &&& Int32.toUInt32 31)).toInt32) &&& 255))))] H := hP
  have hD : va_D A [(h0, .inr (11, ofL 17 (updV (updV (updV Fh0 13 (.int 13)) 13 (.int 14)) 13 (.int 15)))), (atp, .inl (G.2.1, 700, .inl (upd (upd (upd f0 12 (((n0.toUInt32 >>> ((24 : Int32).toUInt32 &&& Int32.toUInt32 31)).toInt32) &&& 255)) 13 (((n0.toUInt32 >>> ((16 : Int32).toUInt32 &&& Int32.toUInt32 31)).toInt32) &&& 255)) 14 (((n0.toUInt32 >>> ((8 : Int32).toUInt32 &&& Int32.toUInt32 31)).toInt32) &&& 255))))] := hD
  refine lv_iinc (v := 0) (lv' := [(2, .int 0), (0, .ref h0), (1, .int n0)]) hx hb dX11_put_45 hl (k := 0) rfl (by decide) (by decide) rfl (fun ls hl => ?_)
  refine lv_goto (tgt := 3) hx hb dX11_put_48 (by decide) ?_
  refine lv_iload_n hx hb dX11_put_3 rfl (lv_at hl 0 rfl) ?_
  refine lv_if_lt (x := 0) (tgt := 51) hx hb dX11_put_4 (by decide) (fun c_7 => ?_) (fun c_7 => ?_)
  · exact absurd c_7 (by decide)
  refine lv_aload_n hx hb dX11_put_7 rfl (lv_at hl 1 rfl) ?_
  refine k_get (v := .int 15) fl_X11_87 C hP 0 rfl rfl dX11_put_8 ?_
  refine lv_aload_n hx hb dX11_put_11 rfl (lv_at hl 1 rfl) ?_
  refine k_get (v := .ref atp) fl_X11_9 C hP 0 rfl e_h0_0 dX11_put_12 ?_
  refine k_alen (v := 700) C hP 1 rfl rfl dX11_put_15 ?_
  refine lv_icmp_ge (x := 15) (y := 700) (tgt := 45) hx hb dX11_put_16 (by decide) (fun c_8 => ?_) (fun c_8 => ?_)
  · exact absurd c_8 (by decide)
  refine lv_aload_n hx hb dX11_put_19 rfl (lv_at hl 1 rfl) ?_
  refine k_get (v := .ref atp) fl_X11_9 C hP 0 rfl e_h0_0 dX11_put_20 ?_
  refine lv_aload_n hx hb dX11_put_23 rfl (lv_at hl 1 rfl) ?_
  refine k_get (v := .int 15) fl_X11_87 C hP 0 rfl rfl dX11_put_24 ?_
  refine lv_iload_n hx hb dX11_put_27 rfl (lv_at hl 2 rfl) ?_
  refine lv_iload_n hx hb dX11_put_28 rfl (lv_at hl 0 rfl) ?_
  refine lv_iushr hx hb dX11_put_29 rfl ?_
  refine lv_sipush (v := 255) hx hb dX11_put_30 (by decide) ?_
  refine lv_iand hx hb dX11_put_33 ?_
  refine k_iast C hP hD hS 1 rfl (k_in (by decide)) dX11_put_34 (fun H locs hP hD hS => ?_)
  have hP : va_P G.1 vwCl [(h0, .inr (11, ofL 17 (updV (updV (updV Fh0 13 (.int 13)) 13 (.int 14)) 13 (.int 15)))), (atp, .inl (G.2.1, 700, .inl (upd (upd (upd (upd f0 12 (((n0.toUInt32 >>> ((24 : Int32).toUInt32 &&& Int32.toUInt32 31)).toInt32) &&& 255)) 13 (((n0.toUInt32 >>> ((16 : Int32).toUInt32 &&& Int32.toUInt32 31)).toInt32) &&& 255)) 14 (((n0.toUInt32 >>> ((8 : Int32).toUInt32 &&& Int32.toUInt32 31)).toInt32) &&& 255)) 15 (((n0.toUInt32 >>> ((0 : Int32).toUInt32 &&& Int32.toUInt32 31)).toInt32) &&& 255))))] H := hP
  have hD : va_D A [(h0, .inr (11, ofL 17 (updV (updV (updV Fh0 13 (.int 13)) 13 (.int 14)) 13 (.int 15)))), (atp, .inl (G.2.1, 700, .inl (upd (upd (upd (upd f0 12 (((n0.toUInt32 >>> ((24 : Int32).toUInt32 &&& Int32.toUInt32 31)).toInt32) &&& 255)) 13 (((n0.toUInt32 >>> ((16 : Int32).toUInt32 &&& Int32.toUInt32 31)).toInt32) &&& 255)) 14 (((n0.toUInt32 >>> ((8 : Int32).toUInt32 &&& Int32.toUInt32 31)).toInt32) &&& 255)) 15 (((n0.toUInt32 >>> ((0 : Int32).toUInt32 &&& Int32.toUInt32 31)).toInt32) &&& 255))))] := hD
  refine lv_aload_n hx hb dX11_put_35 rfl (lv_at hl 1 rfl) ?_
  refine lv_dup hx hb dX11_put_36 rfl ?_
  refine k_get (v := .int 15) fl_X11_87 C hP 0 rfl rfl dX11_put_37 ?_
  refine lv_iconst (v := 1) hx hb dX11_put_40 (by decide) ?_
  refine lv_iadd hx hb dX11_put_41 ?_
  refine k_eqi (y := 16) (by decide) ?_
  refine k_put fl_X11_87 ft_X11_13 C hP hD hS 0 rfl rfl rfl dX11_put_42 (fun H locs hP hD hS => ?_)
  have hP : va_P G.1 vwCl [(h0, .inr (11, ofL 17 (updV (updV (updV (updV Fh0 13 (.int 13)) 13 (.int 14)) 13 (.int 15)) 13 (.int 16)))), (atp, .inl (G.2.1, 700, .inl (upd (upd (upd (upd f0 12 (((n0.toUInt32 >>> ((24 : Int32).toUInt32 &&& Int32.toUInt32 31)).toInt32) &&& 255)) 13 (((n0.toUInt32 >>> ((16 : Int32).toUInt32 &&& Int32.toUInt32 31)).toInt32) &&& 255)) 14 (((n0.toUInt32 >>> ((8 : Int32).toUInt32 &&& Int32.toUInt32 31)).toInt32) &&& 255)) 15 (((n0.toUInt32 >>> ((0 : Int32).toUInt32 &&& Int32.toUInt32 31)).toInt32) &&& 255))))] H := hP
  have hD : va_D A [(h0, .inr (11, ofL 17 (updV (updV (updV (updV Fh0 13 (.int 13)) 13 (.int 14)) 13 (.int 15)) 13 (.int 16)))), (atp, .inl (G.2.1, 700, .inl (upd (upd (upd (upd f0 12 (((n0.toUInt32 >>> ((24 : Int32).toUInt32 &&& Int32.toUInt32 31)).toInt32) &&& 255)) 13 (((n0.toUInt32 >>> ((16 : Int32).toUInt32 &&& Int32.toUInt32 31)).toInt32) &&& 255)) 14 (((n0.toUInt32 >>> ((8 : Int32).toUInt32 &&& Int32.toUInt32 31)).toInt32) &&& 255)) 15 (((n0.toUInt32 >>> ((0 : Int32).toUInt32 &&& Int32.toUInt32 31)).toInt32) &&& 255))))] := hD
  refine lv_iinc (v := -8) (lv' := [(2, .int (-8)), (0, .ref h0), (1, .int n0)]) hx hb dX11_put_45 hl (k := 0) rfl (by decide) (by decide) rfl (fun ls hl => ?_)
  refine lv_goto (tgt := 3) hx hb dX11_put_48 (by decide) ?_
  refine lv_iload_n hx hb dX11_put_3 rfl (lv_at hl 0 rfl) ?_
  refine lv_if_lt (x := -8) (tgt := 51) hx hb dX11_put_4 (by decide) (fun c_9 => ?_) (fun c_9 => ?_)
  rotate_left
  · exact absurd (by decide) c_9
  exact k_vret C hr hlk hP hD hS () (trivial) [0, 1] rfl rfl (Nat.le_of_ble_eq_true rfl) (Nat.le_of_ble_eq_true rfl) dX11_put_51
set_option maxHeartbeats 4000000 in
set_option maxRecDepth 100000 in
theorem c_X11_put_16 (l : Launch) (G : kG) (sz : Nat) (h0 : Nat) (n0 : Int32) (Fh0 : Nat → Value) (atp : Nat) (f0 : Nat → Int32) (e_h0_0 : Fh0 0 = .ref atp) (e_h0_13 : Fh0 13 = .int 16) : kM l yX11_put cX11_put 3 none { frames := 6, cells := 0, slots := 0, locals := 110 } G [.ref h0, .int n0] [(h0, .inr (11, ofL 17 Fh0)), (atp, .inl (G.2.1, 700, .inl f0))] sz (kQv G (S := Unit) (fun (_ : Unit) => True) (fun _ => [(h0, .inr (11, ofL 17 (updV (updV (updV (updV Fh0 13 (.int 17)) 13 (.int 18)) 13 (.int 19)) 13 (.int 20)))), (atp, .inl (G.2.1, 700, .inl (upd (upd (upd (upd f0 16 (((n0.toUInt32 >>> ((24 : Int32).toUInt32 &&& Int32.toUInt32 31)).toInt32) &&& 255)) 17 (((n0.toUInt32 >>> ((16 : Int32).toUInt32 &&& Int32.toUInt32 31)).toInt32) &&& 255)) 18 (((n0.toUInt32 >>> ((8 : Int32).toUInt32 &&& Int32.toUInt32 31)).toInt32) &&& 255)) 19 (((n0.toUInt32 >>> ((0 : Int32).toUInt32 &&& Int32.toUInt32 31)).toInt32) &&& 255))))])) := by
  refine kM.of (by decide) (Nat.le_of_ble_eq_true rfl) ?_
  intro p e s m below meth c A ls H C hr hlk hnm hP hD hS hl
  have C : kC G p s m c cX11_put 3 RX11 A := C
  have hx := C.1
  have hb := C.2.1
  have hl : lv_has ls 3 [(0, .ref h0), (1, .int n0)] := hl
  refine lv_bipush (v := 24) hx hb dX11_put_0 (by decide) ?_
  refine lv_istore_n (lv' := [(2, .int 24), (0, .ref h0), (1, .int n0)]) hx hb dX11_put_2 rfl hl (by decide) rfl (fun ls hl => ?_)
  refine lv_iload_n hx hb dX11_put_3 rfl (lv_at hl 0 rfl) ?_
  refine lv_if_lt (x := 24) (tgt := 51) hx hb dX11_put_4 (by decide) (fun c_1 => ?_) (fun c_1 => ?_)
  · exact absurd c_1 (by decide)
  refine lv_aload_n hx hb dX11_put_7 rfl (lv_at hl 1 rfl) ?_
  refine k_get (v := .int 16) fl_X11_87 C hP 0 rfl e_h0_13 dX11_put_8 ?_
  refine lv_aload_n hx hb dX11_put_11 rfl (lv_at hl 1 rfl) ?_
  refine k_get (v := .ref atp) fl_X11_9 C hP 0 rfl e_h0_0 dX11_put_12 ?_
  refine k_alen (v := 700) C hP 1 rfl rfl dX11_put_15 ?_
  refine lv_icmp_ge (x := 16) (y := 700) (tgt := 45) hx hb dX11_put_16 (by decide) (fun c_2 => ?_) (fun c_2 => ?_)
  · exact absurd c_2 (by decide)
  refine lv_aload_n hx hb dX11_put_19 rfl (lv_at hl 1 rfl) ?_
  refine k_get (v := .ref atp) fl_X11_9 C hP 0 rfl e_h0_0 dX11_put_20 ?_
  refine lv_aload_n hx hb dX11_put_23 rfl (lv_at hl 1 rfl) ?_
  refine k_get (v := .int 16) fl_X11_87 C hP 0 rfl e_h0_13 dX11_put_24 ?_
  refine lv_iload_n hx hb dX11_put_27 rfl (lv_at hl 2 rfl) ?_
  refine lv_iload_n hx hb dX11_put_28 rfl (lv_at hl 0 rfl) ?_
  refine lv_iushr hx hb dX11_put_29 rfl ?_
  refine lv_sipush (v := 255) hx hb dX11_put_30 (by decide) ?_
  refine lv_iand hx hb dX11_put_33 ?_
  refine k_iast C hP hD hS 1 rfl (k_in (by decide)) dX11_put_34 (fun H locs hP hD hS => ?_)
  have hP : va_P G.1 vwCl [(h0, .inr (11, ofL 17 Fh0)), (atp, .inl (G.2.1, 700, .inl (upd f0 16 (((n0.toUInt32 >>> ((24 : Int32).toUInt32 &&& Int32.toUInt32 31)).toInt32) &&& 255))))] H := hP
  have hD : va_D A [(h0, .inr (11, ofL 17 Fh0)), (atp, .inl (G.2.1, 700, .inl (upd f0 16 (((n0.toUInt32 >>> ((24 : Int32).toUInt32 &&& Int32.toUInt32 31)).toInt32) &&& 255))))] := hD
  refine lv_aload_n hx hb dX11_put_35 rfl (lv_at hl 1 rfl) ?_
  refine lv_dup hx hb dX11_put_36 rfl ?_
  refine k_get (v := .int 16) fl_X11_87 C hP 0 rfl e_h0_13 dX11_put_37 ?_
  refine lv_iconst (v := 1) hx hb dX11_put_40 (by decide) ?_
  refine lv_iadd hx hb dX11_put_41 ?_
  refine k_eqi (y := 17) (by decide) ?_
  refine k_put fl_X11_87 ft_X11_13 C hP hD hS 0 rfl rfl rfl dX11_put_42 (fun H locs hP hD hS => ?_)
  have hP : va_P G.1 vwCl [(h0, .inr (11, ofL 17 (updV Fh0 13 (.int 17)))), (atp, .inl (G.2.1, 700, .inl (upd f0 16 (((n0.toUInt32 >>> ((24 : Int32).toUInt32 &&& Int32.toUInt32 31)).toInt32) &&& 255))))] H := hP
  have hD : va_D A [(h0, .inr (11, ofL 17 (updV Fh0 13 (.int 17)))), (atp, .inl (G.2.1, 700, .inl (upd f0 16 (((n0.toUInt32 >>> ((24 : Int32).toUInt32 &&& Int32.toUInt32 31)).toInt32) &&& 255))))] := hD
  refine lv_iinc (v := 16) (lv' := [(2, .int 16), (0, .ref h0), (1, .int n0)]) hx hb dX11_put_45 hl (k := 0) rfl (by decide) (by decide) rfl (fun ls hl => ?_)
  refine lv_goto (tgt := 3) hx hb dX11_put_48 (by decide) ?_
  refine lv_iload_n hx hb dX11_put_3 rfl (lv_at hl 0 rfl) ?_
  refine lv_if_lt (x := 16) (tgt := 51) hx hb dX11_put_4 (by decide) (fun c_3 => ?_) (fun c_3 => ?_)
  · exact absurd c_3 (by decide)
  refine lv_aload_n hx hb dX11_put_7 rfl (lv_at hl 1 rfl) ?_
  refine k_get (v := .int 17) fl_X11_87 C hP 0 rfl rfl dX11_put_8 ?_
  refine lv_aload_n hx hb dX11_put_11 rfl (lv_at hl 1 rfl) ?_
  refine k_get (v := .ref atp) fl_X11_9 C hP 0 rfl e_h0_0 dX11_put_12 ?_
  refine k_alen (v := 700) C hP 1 rfl rfl dX11_put_15 ?_
  refine lv_icmp_ge (x := 17) (y := 700) (tgt := 45) hx hb dX11_put_16 (by decide) (fun c_4 => ?_) (fun c_4 => ?_)
  · exact absurd c_4 (by decide)
  refine lv_aload_n hx hb dX11_put_19 rfl (lv_at hl 1 rfl) ?_
  refine k_get (v := .ref atp) fl_X11_9 C hP 0 rfl e_h0_0 dX11_put_20 ?_
  refine lv_aload_n hx hb dX11_put_23 rfl (lv_at hl 1 rfl) ?_
  refine k_get (v := .int 17) fl_X11_87 C hP 0 rfl rfl dX11_put_24 ?_
  refine lv_iload_n hx hb dX11_put_27 rfl (lv_at hl 2 rfl) ?_
  refine lv_iload_n hx hb dX11_put_28 rfl (lv_at hl 0 rfl) ?_
  refine lv_iushr hx hb dX11_put_29 rfl ?_
  refine lv_sipush (v := 255) hx hb dX11_put_30 (by decide) ?_
  refine lv_iand hx hb dX11_put_33 ?_
  refine k_iast C hP hD hS 1 rfl (k_in (by decide)) dX11_put_34 (fun H locs hP hD hS => ?_)
  have hP : va_P G.1 vwCl [(h0, .inr (11, ofL 17 (updV Fh0 13 (.int 17)))), (atp, .inl (G.2.1, 700, .inl (upd (upd f0 16 (((n0.toUInt32 >>> ((24 : Int32).toUInt32 &&& Int32.toUInt32 31)).toInt32) &&& 255)) 17 (((n0.toUInt32 >>> ((16 : Int32).toUInt32 &&& Int32.toUInt32 31)).toInt32) &&& 255))))] H := hP
  have hD : va_D A [(h0, .inr (11, ofL 17 (updV Fh0 13 (.int 17)))), (atp, .inl (G.2.1, 700, .inl (upd (upd f0 16 (((n0.toUInt32 >>> ((24 : Int32).toUInt32 &&& Int32.toUInt32 31)).toInt32) &&& 255)) 17 (((n0.toUInt32 >>> ((16 : Int32).toUInt32 &&& Int32.toUInt32 31)).toInt32) &&& 255))))] := hD
  refine lv_aload_n hx hb dX11_put_35 rfl (lv_at hl 1 rfl) ?_
  refine lv_dup hx hb dX11_put_36 rfl ?_
  refine k_get (v := .int 17) fl_X11_87 C hP 0 rfl rfl dX11_put_37 ?_
  refine lv_iconst (v := 1) hx hb dX11_put_40 (by decide) ?_
  refine lv_iadd hx hb dX11_put_41 ?_
  refine k_eqi (y := 18) (by decide) ?_
  refine k_put fl_X11_87 ft_X11_13 C hP hD hS 0 rfl rfl rfl dX11_put_42 (fun H locs hP hD hS => ?_)
  have hP : va_P G.1 vwCl [(h0, .inr (11, ofL 17 (updV (updV Fh0 13 (.int 17)) 13 (.int 18)))), (atp, .inl (G.2.1, 700, .inl (upd (upd f0 16 (((n0.toUInt32 >>> ((24 : Int32).toUInt32 &&& Int32.toUInt32 31)).toInt32) &&& 255)) 17 (((n0.toUInt32 >>> ((16 : Int32).toUInt32 &&& Int32.toUInt32 31)).toInt32) &&& 255))))] H := hP
  have hD : va_D A [(h0, .inr (11, ofL 17 (updV (updV Fh0 13 (.int 17)) 13 (.int 18)))), (atp, .inl (G.2.1, 700, .inl (upd (upd f0 16 (((n0.toUInt32 >>> ((24 : Int32).toUInt32 &&& Int32.toUInt32 31)).toInt32) &&& 255)) 17 (((n0.toUInt32 >>> ((16 : Int32).toUInt32 &&& Int32.toUInt32 31)).toInt32) &&& 255))))] := hD
  refine lv_iinc (v := 8) (lv' := [(2, .int 8), (0, .ref h0), (1, .int n0)]) hx hb dX11_put_45 hl (k := 0) rfl (by decide) (by decide) rfl (fun ls hl => ?_)
  refine lv_goto (tgt := 3) hx hb dX11_put_48 (by decide) ?_
  refine lv_iload_n hx hb dX11_put_3 rfl (lv_at hl 0 rfl) ?_
  refine lv_if_lt (x := 8) (tgt := 51) hx hb dX11_put_4 (by decide) (fun c_5 => ?_) (fun c_5 => ?_)
  · exact absurd c_5 (by decide)
  refine lv_aload_n hx hb dX11_put_7 rfl (lv_at hl 1 rfl) ?_
  refine k_get (v := .int 18) fl_X11_87 C hP 0 rfl rfl dX11_put_8 ?_
  refine lv_aload_n hx hb dX11_put_11 rfl (lv_at hl 1 rfl) ?_
  refine k_get (v := .ref atp) fl_X11_9 C hP 0 rfl e_h0_0 dX11_put_12 ?_
  refine k_alen (v := 700) C hP 1 rfl rfl dX11_put_15 ?_
  refine lv_icmp_ge (x := 18) (y := 700) (tgt := 45) hx hb dX11_put_16 (by decide) (fun c_6 => ?_) (fun c_6 => ?_)
  · exact absurd c_6 (by decide)
  refine lv_aload_n hx hb dX11_put_19 rfl (lv_at hl 1 rfl) ?_
  refine k_get (v := .ref atp) fl_X11_9 C hP 0 rfl e_h0_0 dX11_put_20 ?_
  refine lv_aload_n hx hb dX11_put_23 rfl (lv_at hl 1 rfl) ?_
  refine k_get (v := .int 18) fl_X11_87 C hP 0 rfl rfl dX11_put_24 ?_
  refine lv_iload_n hx hb dX11_put_27 rfl (lv_at hl 2 rfl) ?_
  refine lv_iload_n hx hb dX11_put_28 rfl (lv_at hl 0 rfl) ?_
  refine lv_iushr hx hb dX11_put_29 rfl ?_
  refine lv_sipush (v := 255) hx hb dX11_put_30 (by decide) ?_
  refine lv_iand hx hb dX11_put_33 ?_
  refine k_iast C hP hD hS 1 rfl (k_in (by decide)) dX11_put_34 (fun H locs hP hD hS => ?_)
  have hP : va_P G.1 vwCl [(h0, .inr (11, ofL 17 (updV (updV Fh0 13 (.int 17)) 13 (.int 18)))), (atp, .inl (G.2.1, 700, .inl (upd (upd (upd f0 16 (((n0.toUInt32 >>> ((24 : Int32).toUInt32 &&& Int32.toUInt32 31)).toInt32) &&& 255)) 17 (((n0.toUInt32 >>> ((16 : Int32).toUInt32 &&& Int32.toUInt32 31)).toInt32) &&& 255)) 18 (((n0.toUInt32 >>> ((8 : Int32).toUInt32 &&& Int32.toUInt32 31)).toInt32) &&& 255))))] H := hP
  have hD : va_D A [(h0, .inr (11, ofL 17 (updV (updV Fh0 13 (.int 17)) 13 (.int 18)))), (atp, .inl (G.2.1, 700, .inl (upd (upd (upd f0 16 (((n0.toUInt32 >>> ((24 : Int32).toUInt32 &&& Int32.toUInt32 31)).toInt32) &&& 255)) 17 (((n0.toUInt32 >>> ((16 : Int32).toUInt32 &&& Int32.toUInt32 31)).toInt32) &&& 255)) 18 (((n0.toUInt32 >>> ((8 : Int32).toUInt32 &&& Int32.toUInt32 31)).toInt32) &&& 255))))] := hD
  refine lv_aload_n hx hb dX11_put_35 rfl (lv_at hl 1 rfl) ?_
  refine lv_dup hx hb dX11_put_36 rfl ?_
  refine k_get (v := .int 18) fl_X11_87 C hP 0 rfl rfl dX11_put_37 ?_
  refine lv_iconst (v := 1) hx hb dX11_put_40 (by decide) ?_
  refine lv_iadd hx hb dX11_put_41 ?_
  refine k_eqi (y := 19) (by decide) ?_
  refine k_put fl_X11_87 ft_X11_13 C hP hD hS 0 rfl rfl rfl dX11_put_42 (fun H locs hP hD hS => ?_)
  have hP : va_P G.1 vwCl [(h0, .inr (11, ofL 17 (updV (updV (updV Fh0 13 (.int 17)) 13 (.int 18)) 13 (.int 19)))), (atp, .inl (G.2.1, 700, .inl (upd (upd (upd f0 16 (((n0.toUInt32 >>> ((24 : Int32).toUInt32 &&& Int32.toUInt32 31)).toInt32) &&& 255)) 17 (((n0.toUInt32 >>> ((16 : Int32).toUInt32 &&& Int32.toUInt32 31)).toInt32) &&& 255)) 18 (((n0.toUInt32 >>> ((8 : Int32).toUInt32 &&& Int32.toUInt32 31)).toInt32) &&& 255))))] H := hP
  have hD : va_D A [(h0, .inr (11, ofL 17 (updV (updV (updV Fh0 13 (.int 17)) 13 (.int 18)) 13 (.int 19)))), (atp, .inl (G.2.1, 700, .inl (upd (upd (upd f0 16 (((n0.toUInt32 >>> ((24 : Int32).toUInt32 &&& Int32.toUInt32 31)).toInt32) &&& 255)) 17 (((n0.toUInt32 >>> ((16 : Int32).toUInt32 &&& Int32.toUInt32 31)).toInt32) &&& 255)) 18 (((n0.toUInt32 >>> ((8 : Int32).toUInt32 &&& Int32.toUInt32 31)).toInt32) &&& 255))))] := hD
  refine lv_iinc (v := 0) (lv' := [(2, .int 0), (0, .ref h0), (1, .int n0)]) hx hb dX11_put_45 hl (k := 0) rfl (by decide) (by decide) rfl (fun ls hl => ?_)
  refine lv_goto (tgt := 3) hx hb dX11_put_48 (by decide) ?_
  refine lv_iload_n hx hb dX11_put_3 rfl (lv_at hl 0 rfl) ?_
  refine lv_if_lt (x := 0) (tgt := 51) hx hb dX11_put_4 (by decide) (fun c_7 => ?_) (fun c_7 => ?_)
  · exact absurd c_7 (by decide)
  refine lv_aload_n hx hb dX11_put_7 rfl (lv_at hl 1 rfl) ?_
  refine k_get (v := .int 19) fl_X11_87 C hP 0 rfl rfl dX11_put_8 ?_
  refine lv_aload_n hx hb dX11_put_11 rfl (lv_at hl 1 rfl) ?_
  refine k_get (v := .ref atp) fl_X11_9 C hP 0 rfl e_h0_0 dX11_put_12 ?_
  refine k_alen (v := 700) C hP 1 rfl rfl dX11_put_15 ?_
  refine lv_icmp_ge (x := 19) (y := 700) (tgt := 45) hx hb dX11_put_16 (by decide) (fun c_8 => ?_) (fun c_8 => ?_)
  · exact absurd c_8 (by decide)
  refine lv_aload_n hx hb dX11_put_19 rfl (lv_at hl 1 rfl) ?_
  refine k_get (v := .ref atp) fl_X11_9 C hP 0 rfl e_h0_0 dX11_put_20 ?_
  refine lv_aload_n hx hb dX11_put_23 rfl (lv_at hl 1 rfl) ?_
  refine k_get (v := .int 19) fl_X11_87 C hP 0 rfl rfl dX11_put_24 ?_
  refine lv_iload_n hx hb dX11_put_27 rfl (lv_at hl 2 rfl) ?_
  refine lv_iload_n hx hb dX11_put_28 rfl (lv_at hl 0 rfl) ?_
  refine lv_iushr hx hb dX11_put_29 rfl ?_
  refine lv_sipush (v := 255) hx hb dX11_put_30 (by decide) ?_
  refine lv_iand hx hb dX11_put_33 ?_
  refine k_iast C hP hD hS 1 rfl (k_in (by decide)) dX11_put_34 (fun H locs hP hD hS => ?_)
  have hP : va_P G.1 vwCl [(h0, .inr (11, ofL 17 (updV (updV (updV Fh0 13 (.int 17)) 13 (.int 18)) 13 (.int 19)))), (atp, .inl (G.2.1, 700, .inl (upd (upd (upd (upd f0 16 (((n0.toUInt32 >>> ((24 : Int32).toUInt32 &&& Int32.toUInt32 31)).toInt32) &&& 255)) 17 (((n0.toUInt32 >>> ((16 : Int32).toUInt32 &&& Int32.toUInt32 31)).toInt32) &&& 255)) 18 (((n0.toUInt32 >>> ((8 : Int32).toUInt32 &&& Int32.toUInt32 31)).toInt32) &&& 255)) 19 (((n0.toUInt32 >>> ((0 : Int32).toUInt32 &&& Int32.toUInt32 31)).toInt32) &&& 255))))] H := hP
  have hD : va_D A [(h0, .inr (11, ofL 17 (updV (updV (updV Fh0 13 (.int 17)) 13 (.int 18)) 13 (.int 19)))), (atp, .inl (G.2.1, 700, .inl (upd (upd (upd (upd f0 16 (((n0.toUInt32 >>> ((24 : Int32).toUInt32 &&& Int32.toUInt32 31)).toInt32) &&& 255)) 17 (((n0.toUInt32 >>> ((16 : Int32).toUInt32 &&& Int32.toUInt32 31)).toInt32) &&& 255)) 18 (((n0.toUInt32 >>> ((8 : Int32).toUInt32 &&& Int32.toUInt32 31)).toInt32) &&& 255)) 19 (((n0.toUInt32 >>> ((0 : Int32).toUInt32 &&& Int32.toUInt32 31)).toInt32) &&& 255))))] := hD
  refine lv_aload_n hx hb dX11_put_35 rfl (lv_at hl 1 rfl) ?_
  refine lv_dup hx hb dX11_put_36 rfl ?_
  refine k_get (v := .int 19) fl_X11_87 C hP 0 rfl rfl dX11_put_37 ?_
  refine lv_iconst (v := 1) hx hb dX11_put_40 (by decide) ?_
  refine lv_iadd hx hb dX11_put_41 ?_
  refine k_eqi (y := 20) (by decide) ?_
  refine k_put fl_X11_87 ft_X11_13 C hP hD hS 0 rfl rfl rfl dX11_put_42 (fun H locs hP hD hS => ?_)
  have hP : va_P G.1 vwCl [(h0, .inr (11, ofL 17 (updV (updV (updV (updV Fh0 13 (.int 17)) 13 (.int 18)) 13 (.int 19)) 13 (.int 20)))), (atp, .inl (G.2.1, 700, .inl (upd (upd (upd (upd f0 16 (((n0.toUInt32 >>> ((24 : Int32).toUInt32 &&& Int32.toUInt32 31)).toInt32) &&& 255)) 17 (((n0.toUInt32 >>> ((16 : Int32).toUInt32 &&& Int32.toUInt32 31)).toInt32) &&& 255)) 18 (((n0.toUInt32 >>> ((8 : Int32).toUInt32 &&& Int32.toUInt32 31)).toInt32) &&& 255)) 19 (((n0.toUInt32 >>> ((0 : Int32).toUInt32 &&& Int32.toUInt32 31)).toInt32) &&& 255))))] H := hP
  have hD : va_D A [(h0, .inr (11, ofL 17 (updV (updV (updV (updV Fh0 13 (.int 17)) 13 (.int 18)) 13 (.int 19)) 13 (.int 20)))), (atp, .inl (G.2.1, 700, .inl (upd (upd (upd (upd f0 16 (((n0.toUInt32 >>> ((24 : Int32).toUInt32 &&& Int32.toUInt32 31)).toInt32) &&& 255)) 17 (((n0.toUInt32 >>> ((16 : Int32).toUInt32 &&& Int32.toUInt32 31)).toInt32) &&& 255)) 18 (((n0.toUInt32 >>> ((8 : Int32).toUInt32 &&& Int32.toUInt32 31)).toInt32) &&& 255)) 19 (((n0.toUInt32 >>> ((0 : Int32).toUInt32 &&& Int32.toUInt32 31)).toInt32) &&& 255))))] := hD
  refine lv_iinc (v := -8) (lv' := [(2, .int (-8)), (0, .ref h0), (1, .int n0)]) hx hb dX11_put_45 hl (k := 0) rfl (by decide) (by decide) rfl (fun ls hl => ?_)
  refine lv_goto (tgt := 3) hx hb dX11_put_48 (by decide) ?_
  refine lv_iload_n hx hb dX11_put_3 rfl (lv_at hl 0 rfl) ?_
  refine lv_if_lt (x := -8) (tgt := 51) hx hb dX11_put_4 (by decide) (fun c_9 => ?_) (fun c_9 => ?_)
  rotate_left
  · exact absurd (by decide) c_9
  exact k_vret C hr hlk hP hD hS () (trivial) [0, 1] rfl rfl (Nat.le_of_ble_eq_true rfl) (Nat.le_of_ble_eq_true rfl) dX11_put_51
set_option maxHeartbeats 4000000 in
set_option maxRecDepth 100000 in
theorem c_X11_feed (l : Launch) (G : kG) (sz : Nat) (h0 : Nat) (n0 : Int32) (n1 : Int32) (n2 : Int32) (n3 : Int32) (n4 : Int32) (Fh0 : Nat → Value) (atp : Nat) (f0 : Nat → Int32) (e_h0_0 : Fh0 0 = .ref atp) (e_h0_13 : Fh0 13 = .int 0) : kM l yX11_feed cX11_feed 6 (some .int) { frames := 7, cells := 0, slots := 0, locals := 132 } G [.ref h0, .int n0, .int n1, .int n2, .int n3, .int n4] [(h0, .inr (11, ofL 17 Fh0)), (atp, .inl (G.2.1, 700, .inl f0))] sz (kQi G (S := Unit) (fun r (_ : Unit) => r = 20) (fun _ => [(h0, .inr (11, ofL 17 (updV (updV (updV (updV (updV (updV (updV (updV (updV (updV (updV (updV (updV (updV (updV (updV (updV (updV (updV (updV Fh0 13 (.int 1)) 13 (.int 2)) 13 (.int 3)) 13 (.int 4)) 13 (.int 5)) 13 (.int 6)) 13 (.int 7)) 13 (.int 8)) 13 (.int 9)) 13 (.int 10)) 13 (.int 11)) 13 (.int 12)) 13 (.int 13)) 13 (.int 14)) 13 (.int 15)) 13 (.int 16)) 13 (.int 17)) 13 (.int 18)) 13 (.int 19)) 13 (.int 20)))), (atp, .inl (G.2.1, 700, .inl (upd (upd (upd (upd (upd (upd (upd (upd (upd (upd (upd (upd (upd (upd (upd (upd (upd (upd (upd (upd f0 0 (((n0.toUInt32 >>> ((24 : Int32).toUInt32 &&& Int32.toUInt32 31)).toInt32) &&& 255)) 1 (((n0.toUInt32 >>> ((16 : Int32).toUInt32 &&& Int32.toUInt32 31)).toInt32) &&& 255)) 2 (((n0.toUInt32 >>> ((8 : Int32).toUInt32 &&& Int32.toUInt32 31)).toInt32) &&& 255)) 3 (((n0.toUInt32 >>> ((0 : Int32).toUInt32 &&& Int32.toUInt32 31)).toInt32) &&& 255)) 4 (((n1.toUInt32 >>> ((24 : Int32).toUInt32 &&& Int32.toUInt32 31)).toInt32) &&& 255)) 5 (((n1.toUInt32 >>> ((16 : Int32).toUInt32 &&& Int32.toUInt32 31)).toInt32) &&& 255)) 6 (((n1.toUInt32 >>> ((8 : Int32).toUInt32 &&& Int32.toUInt32 31)).toInt32) &&& 255)) 7 (((n1.toUInt32 >>> ((0 : Int32).toUInt32 &&& Int32.toUInt32 31)).toInt32) &&& 255)) 8 (((n2.toUInt32 >>> ((24 : Int32).toUInt32 &&& Int32.toUInt32 31)).toInt32) &&& 255)) 9 (((n2.toUInt32 >>> ((16 : Int32).toUInt32 &&& Int32.toUInt32 31)).toInt32) &&& 255)) 10 (((n2.toUInt32 >>> ((8 : Int32).toUInt32 &&& Int32.toUInt32 31)).toInt32) &&& 255)) 11 (((n2.toUInt32 >>> ((0 : Int32).toUInt32 &&& Int32.toUInt32 31)).toInt32) &&& 255)) 12 (((n3.toUInt32 >>> ((24 : Int32).toUInt32 &&& Int32.toUInt32 31)).toInt32) &&& 255)) 13 (((n3.toUInt32 >>> ((16 : Int32).toUInt32 &&& Int32.toUInt32 31)).toInt32) &&& 255)) 14 (((n3.toUInt32 >>> ((8 : Int32).toUInt32 &&& Int32.toUInt32 31)).toInt32) &&& 255)) 15 (((n3.toUInt32 >>> ((0 : Int32).toUInt32 &&& Int32.toUInt32 31)).toInt32) &&& 255)) 16 (((n4.toUInt32 >>> ((24 : Int32).toUInt32 &&& Int32.toUInt32 31)).toInt32) &&& 255)) 17 (((n4.toUInt32 >>> ((16 : Int32).toUInt32 &&& Int32.toUInt32 31)).toInt32) &&& 255)) 18 (((n4.toUInt32 >>> ((8 : Int32).toUInt32 &&& Int32.toUInt32 31)).toInt32) &&& 255)) 19 (((n4.toUInt32 >>> ((0 : Int32).toUInt32 &&& Int32.toUInt32 31)).toInt32) &&& 255))))])) := by
  refine kM.of (by decide) (Nat.le_of_ble_eq_true rfl) ?_
  intro p e s m below meth c A ls H C hr hlk hnm hP hD hS hl
  have C : kC G p s m c cX11_feed 6 RX11 A := C
  have hx := C.1
  have hb := C.2.1
  have hl : lv_has ls 6 [(0, .ref h0), (1, .int n0), (2, .int n1), (3, .int n2), (4, .int n3), (5, .int n4)] := hl
  refine lv_aload_n hx hb dX11_feed_0 rfl (lv_at hl 0 rfl) ?_
  refine k_get (v := .int 0) fl_X11_87 C hP 0 rfl e_h0_13 dX11_feed_1 ?_
  refine lv_bipush (v := 20) hx hb dX11_feed_4 (by decide) ?_
  refine lv_iadd hx hb dX11_feed_6 ?_
  refine k_eqi (y := 20) (by decide) ?_
  refine lv_sipush (v := 700) hx hb dX11_feed_7 (by decide) ?_
  refine lv_icmp_le (x := 20) (y := 700) (tgt := 15) hx hb dX11_feed_10 (by decide) (fun c_1 => ?_) (fun c_1 => ?_)
  rotate_left
  · exact absurd (by decide) c_1
  refine lv_aload_n hx hb dX11_feed_15 rfl (lv_at hl 0 rfl) ?_
  refine lv_iload_n hx hb dX11_feed_16 rfl (lv_at hl 1 rfl) ?_
  refine k_callVv (wr := []) (rest := []) li_X11_101 C (c_X11_put_0 l G H.size h0 n0 Fh0 atp f0 e_h0_0 e_h0_13) (kR rfl) hP hD hS [0, 1] [] rfl rfl rfl rfl (by decide) 0 11 rfl rfl rfl hl.1 rfl (Nat.le_of_ble_eq_true rfl) dX11_feed_17 (fun uu4 H locs hw2 hP hD hS => ?_)
  have hP : va_P G.1 vwCl [(h0, .inr (11, ofL 17 (updV (updV (updV (updV Fh0 13 (.int 1)) 13 (.int 2)) 13 (.int 3)) 13 (.int 4)))), (atp, .inl (G.2.1, 700, .inl (upd (upd (upd (upd f0 0 (((n0.toUInt32 >>> ((24 : Int32).toUInt32 &&& Int32.toUInt32 31)).toInt32) &&& 255)) 1 (((n0.toUInt32 >>> ((16 : Int32).toUInt32 &&& Int32.toUInt32 31)).toInt32) &&& 255)) 2 (((n0.toUInt32 >>> ((8 : Int32).toUInt32 &&& Int32.toUInt32 31)).toInt32) &&& 255)) 3 (((n0.toUInt32 >>> ((0 : Int32).toUInt32 &&& Int32.toUInt32 31)).toInt32) &&& 255))))] H := hP
  have hD : va_D A [(h0, .inr (11, ofL 17 (updV (updV (updV (updV Fh0 13 (.int 1)) 13 (.int 2)) 13 (.int 3)) 13 (.int 4)))), (atp, .inl (G.2.1, 700, .inl (upd (upd (upd (upd f0 0 (((n0.toUInt32 >>> ((24 : Int32).toUInt32 &&& Int32.toUInt32 31)).toInt32) &&& 255)) 1 (((n0.toUInt32 >>> ((16 : Int32).toUInt32 &&& Int32.toUInt32 31)).toInt32) &&& 255)) 2 (((n0.toUInt32 >>> ((8 : Int32).toUInt32 &&& Int32.toUInt32 31)).toInt32) &&& 255)) 3 (((n0.toUInt32 >>> ((0 : Int32).toUInt32 &&& Int32.toUInt32 31)).toInt32) &&& 255))))] := hD
  refine lv_aload_n hx hb dX11_feed_20 rfl (lv_at hl 0 rfl) ?_
  refine lv_iload_n hx hb dX11_feed_21 rfl (lv_at hl 2 rfl) ?_
  refine k_callVv (wr := []) (rest := []) li_X11_101 C (c_X11_put_4 l G H.size h0 n1 (updV (updV (updV (updV Fh0 13 (.int 1)) 13 (.int 2)) 13 (.int 3)) 13 (.int 4)) atp (upd (upd (upd (upd f0 0 (((n0.toUInt32 >>> ((24 : Int32).toUInt32 &&& Int32.toUInt32 31)).toInt32) &&& 255)) 1 (((n0.toUInt32 >>> ((16 : Int32).toUInt32 &&& Int32.toUInt32 31)).toInt32) &&& 255)) 2 (((n0.toUInt32 >>> ((8 : Int32).toUInt32 &&& Int32.toUInt32 31)).toInt32) &&& 255)) 3 (((n0.toUInt32 >>> ((0 : Int32).toUInt32 &&& Int32.toUInt32 31)).toInt32) &&& 255)) e_h0_0 rfl) (kR rfl) hP hD hS [0, 1] [] rfl rfl rfl rfl (by decide) 0 11 rfl rfl rfl hl.1 rfl (Nat.le_of_ble_eq_true rfl) dX11_feed_22 (fun uu7 H locs hw5 hP hD hS => ?_)
  have hP : va_P G.1 vwCl [(h0, .inr (11, ofL 17 (updV (updV (updV (updV (updV (updV (updV (updV Fh0 13 (.int 1)) 13 (.int 2)) 13 (.int 3)) 13 (.int 4)) 13 (.int 5)) 13 (.int 6)) 13 (.int 7)) 13 (.int 8)))), (atp, .inl (G.2.1, 700, .inl (upd (upd (upd (upd (upd (upd (upd (upd f0 0 (((n0.toUInt32 >>> ((24 : Int32).toUInt32 &&& Int32.toUInt32 31)).toInt32) &&& 255)) 1 (((n0.toUInt32 >>> ((16 : Int32).toUInt32 &&& Int32.toUInt32 31)).toInt32) &&& 255)) 2 (((n0.toUInt32 >>> ((8 : Int32).toUInt32 &&& Int32.toUInt32 31)).toInt32) &&& 255)) 3 (((n0.toUInt32 >>> ((0 : Int32).toUInt32 &&& Int32.toUInt32 31)).toInt32) &&& 255)) 4 (((n1.toUInt32 >>> ((24 : Int32).toUInt32 &&& Int32.toUInt32 31)).toInt32) &&& 255)) 5 (((n1.toUInt32 >>> ((16 : Int32).toUInt32 &&& Int32.toUInt32 31)).toInt32) &&& 255)) 6 (((n1.toUInt32 >>> ((8 : Int32).toUInt32 &&& Int32.toUInt32 31)).toInt32) &&& 255)) 7 (((n1.toUInt32 >>> ((0 : Int32).toUInt32 &&& Int32.toUInt32 31)).toInt32) &&& 255))))] H := hP
  have hD : va_D A [(h0, .inr (11, ofL 17 (updV (updV (updV (updV (updV (updV (updV (updV Fh0 13 (.int 1)) 13 (.int 2)) 13 (.int 3)) 13 (.int 4)) 13 (.int 5)) 13 (.int 6)) 13 (.int 7)) 13 (.int 8)))), (atp, .inl (G.2.1, 700, .inl (upd (upd (upd (upd (upd (upd (upd (upd f0 0 (((n0.toUInt32 >>> ((24 : Int32).toUInt32 &&& Int32.toUInt32 31)).toInt32) &&& 255)) 1 (((n0.toUInt32 >>> ((16 : Int32).toUInt32 &&& Int32.toUInt32 31)).toInt32) &&& 255)) 2 (((n0.toUInt32 >>> ((8 : Int32).toUInt32 &&& Int32.toUInt32 31)).toInt32) &&& 255)) 3 (((n0.toUInt32 >>> ((0 : Int32).toUInt32 &&& Int32.toUInt32 31)).toInt32) &&& 255)) 4 (((n1.toUInt32 >>> ((24 : Int32).toUInt32 &&& Int32.toUInt32 31)).toInt32) &&& 255)) 5 (((n1.toUInt32 >>> ((16 : Int32).toUInt32 &&& Int32.toUInt32 31)).toInt32) &&& 255)) 6 (((n1.toUInt32 >>> ((8 : Int32).toUInt32 &&& Int32.toUInt32 31)).toInt32) &&& 255)) 7 (((n1.toUInt32 >>> ((0 : Int32).toUInt32 &&& Int32.toUInt32 31)).toInt32) &&& 255))))] := hD
  refine lv_aload_n hx hb dX11_feed_25 rfl (lv_at hl 0 rfl) ?_
  refine lv_iload_n hx hb dX11_feed_26 rfl (lv_at hl 3 rfl) ?_
  refine k_callVv (wr := []) (rest := []) li_X11_101 C (c_X11_put_8 l G H.size h0 n2 (updV (updV (updV (updV (updV (updV (updV (updV Fh0 13 (.int 1)) 13 (.int 2)) 13 (.int 3)) 13 (.int 4)) 13 (.int 5)) 13 (.int 6)) 13 (.int 7)) 13 (.int 8)) atp (upd (upd (upd (upd (upd (upd (upd (upd f0 0 (((n0.toUInt32 >>> ((24 : Int32).toUInt32 &&& Int32.toUInt32 31)).toInt32) &&& 255)) 1 (((n0.toUInt32 >>> ((16 : Int32).toUInt32 &&& Int32.toUInt32 31)).toInt32) &&& 255)) 2 (((n0.toUInt32 >>> ((8 : Int32).toUInt32 &&& Int32.toUInt32 31)).toInt32) &&& 255)) 3 (((n0.toUInt32 >>> ((0 : Int32).toUInt32 &&& Int32.toUInt32 31)).toInt32) &&& 255)) 4 (((n1.toUInt32 >>> ((24 : Int32).toUInt32 &&& Int32.toUInt32 31)).toInt32) &&& 255)) 5 (((n1.toUInt32 >>> ((16 : Int32).toUInt32 &&& Int32.toUInt32 31)).toInt32) &&& 255)) 6 (((n1.toUInt32 >>> ((8 : Int32).toUInt32 &&& Int32.toUInt32 31)).toInt32) &&& 255)) 7 (((n1.toUInt32 >>> ((0 : Int32).toUInt32 &&& Int32.toUInt32 31)).toInt32) &&& 255)) e_h0_0 rfl) (kR rfl) hP hD hS [0, 1] [] rfl rfl rfl rfl (by decide) 0 11 rfl rfl rfl hl.1 rfl (Nat.le_of_ble_eq_true rfl) dX11_feed_27 (fun uu10 H locs hw8 hP hD hS => ?_)
  have hP : va_P G.1 vwCl [(h0, .inr (11, ofL 17 (updV (updV (updV (updV (updV (updV (updV (updV (updV (updV (updV (updV Fh0 13 (.int 1)) 13 (.int 2)) 13 (.int 3)) 13 (.int 4)) 13 (.int 5)) 13 (.int 6)) 13 (.int 7)) 13 (.int 8)) 13 (.int 9)) 13 (.int 10)) 13 (.int 11)) 13 (.int 12)))), (atp, .inl (G.2.1, 700, .inl (upd (upd (upd (upd (upd (upd (upd (upd (upd (upd (upd (upd f0 0 (((n0.toUInt32 >>> ((24 : Int32).toUInt32 &&& Int32.toUInt32 31)).toInt32) &&& 255)) 1 (((n0.toUInt32 >>> ((16 : Int32).toUInt32 &&& Int32.toUInt32 31)).toInt32) &&& 255)) 2 (((n0.toUInt32 >>> ((8 : Int32).toUInt32 &&& Int32.toUInt32 31)).toInt32) &&& 255)) 3 (((n0.toUInt32 >>> ((0 : Int32).toUInt32 &&& Int32.toUInt32 31)).toInt32) &&& 255)) 4 (((n1.toUInt32 >>> ((24 : Int32).toUInt32 &&& Int32.toUInt32 31)).toInt32) &&& 255)) 5 (((n1.toUInt32 >>> ((16 : Int32).toUInt32 &&& Int32.toUInt32 31)).toInt32) &&& 255)) 6 (((n1.toUInt32 >>> ((8 : Int32).toUInt32 &&& Int32.toUInt32 31)).toInt32) &&& 255)) 7 (((n1.toUInt32 >>> ((0 : Int32).toUInt32 &&& Int32.toUInt32 31)).toInt32) &&& 255)) 8 (((n2.toUInt32 >>> ((24 : Int32).toUInt32 &&& Int32.toUInt32 31)).toInt32) &&& 255)) 9 (((n2.toUInt32 >>> ((16 : Int32).toUInt32 &&& Int32.toUInt32 31)).toInt32) &&& 255)) 10 (((n2.toUInt32 >>> ((8 : Int32).toUInt32 &&& Int32.toUInt32 31)).toInt32) &&& 255)) 11 (((n2.toUInt32 >>> ((0 : Int32).toUInt32 &&& Int32.toUInt32 31)).toInt32) &&& 255))))] H := hP
  have hD : va_D A [(h0, .inr (11, ofL 17 (updV (updV (updV (updV (updV (updV (updV (updV (updV (updV (updV (updV Fh0 13 (.int 1)) 13 (.int 2)) 13 (.int 3)) 13 (.int 4)) 13 (.int 5)) 13 (.int 6)) 13 (.int 7)) 13 (.int 8)) 13 (.int 9)) 13 (.int 10)) 13 (.int 11)) 13 (.int 12)))), (atp, .inl (G.2.1, 700, .inl (upd (upd (upd (upd (upd (upd (upd (upd (upd (upd (upd (upd f0 0 (((n0.toUInt32 >>> ((24 : Int32).toUInt32 &&& Int32.toUInt32 31)).toInt32) &&& 255)) 1 (((n0.toUInt32 >>> ((16 : Int32).toUInt32 &&& Int32.toUInt32 31)).toInt32) &&& 255)) 2 (((n0.toUInt32 >>> ((8 : Int32).toUInt32 &&& Int32.toUInt32 31)).toInt32) &&& 255)) 3 (((n0.toUInt32 >>> ((0 : Int32).toUInt32 &&& Int32.toUInt32 31)).toInt32) &&& 255)) 4 (((n1.toUInt32 >>> ((24 : Int32).toUInt32 &&& Int32.toUInt32 31)).toInt32) &&& 255)) 5 (((n1.toUInt32 >>> ((16 : Int32).toUInt32 &&& Int32.toUInt32 31)).toInt32) &&& 255)) 6 (((n1.toUInt32 >>> ((8 : Int32).toUInt32 &&& Int32.toUInt32 31)).toInt32) &&& 255)) 7 (((n1.toUInt32 >>> ((0 : Int32).toUInt32 &&& Int32.toUInt32 31)).toInt32) &&& 255)) 8 (((n2.toUInt32 >>> ((24 : Int32).toUInt32 &&& Int32.toUInt32 31)).toInt32) &&& 255)) 9 (((n2.toUInt32 >>> ((16 : Int32).toUInt32 &&& Int32.toUInt32 31)).toInt32) &&& 255)) 10 (((n2.toUInt32 >>> ((8 : Int32).toUInt32 &&& Int32.toUInt32 31)).toInt32) &&& 255)) 11 (((n2.toUInt32 >>> ((0 : Int32).toUInt32 &&& Int32.toUInt32 31)).toInt32) &&& 255))))] := hD
  refine lv_aload_n hx hb dX11_feed_30 rfl (lv_at hl 0 rfl) ?_
  refine lv_iload hx hb dX11_feed_31 (lv_at hl 4 rfl) ?_
  refine k_callVv (wr := []) (rest := []) li_X11_101 C (c_X11_put_12 l G H.size h0 n3 (updV (updV (updV (updV (updV (updV (updV (updV (updV (updV (updV (updV Fh0 13 (.int 1)) 13 (.int 2)) 13 (.int 3)) 13 (.int 4)) 13 (.int 5)) 13 (.int 6)) 13 (.int 7)) 13 (.int 8)) 13 (.int 9)) 13 (.int 10)) 13 (.int 11)) 13 (.int 12)) atp (upd (upd (upd (upd (upd (upd (upd (upd (upd (upd (upd (upd f0 0 (((n0.toUInt32 >>> ((24 : Int32).toUInt32 &&& Int32.toUInt32 31)).toInt32) &&& 255)) 1 (((n0.toUInt32 >>> ((16 : Int32).toUInt32 &&& Int32.toUInt32 31)).toInt32) &&& 255)) 2 (((n0.toUInt32 >>> ((8 : Int32).toUInt32 &&& Int32.toUInt32 31)).toInt32) &&& 255)) 3 (((n0.toUInt32 >>> ((0 : Int32).toUInt32 &&& Int32.toUInt32 31)).toInt32) &&& 255)) 4 (((n1.toUInt32 >>> ((24 : Int32).toUInt32 &&& Int32.toUInt32 31)).toInt32) &&& 255)) 5 (((n1.toUInt32 >>> ((16 : Int32).toUInt32 &&& Int32.toUInt32 31)).toInt32) &&& 255)) 6 (((n1.toUInt32 >>> ((8 : Int32).toUInt32 &&& Int32.toUInt32 31)).toInt32) &&& 255)) 7 (((n1.toUInt32 >>> ((0 : Int32).toUInt32 &&& Int32.toUInt32 31)).toInt32) &&& 255)) 8 (((n2.toUInt32 >>> ((24 : Int32).toUInt32 &&& Int32.toUInt32 31)).toInt32) &&& 255)) 9 (((n2.toUInt32 >>> ((16 : Int32).toUInt32 &&& Int32.toUInt32 31)).toInt32) &&& 255)) 10 (((n2.toUInt32 >>> ((8 : Int32).toUInt32 &&& Int32.toUInt32 31)).toInt32) &&& 255)) 11 (((n2.toUInt32 >>> ((0 : Int32).toUInt32 &&& Int32.toUInt32 31)).toInt32) &&& 255)) e_h0_0 rfl) (kR rfl) hP hD hS [0, 1] [] rfl rfl rfl rfl (by decide) 0 11 rfl rfl rfl hl.1 rfl (Nat.le_of_ble_eq_true rfl) dX11_feed_33 (fun uu13 H locs hw11 hP hD hS => ?_)
  have hP : va_P G.1 vwCl [(h0, .inr (11, ofL 17 (updV (updV (updV (updV (updV (updV (updV (updV (updV (updV (updV (updV (updV (updV (updV (updV Fh0 13 (.int 1)) 13 (.int 2)) 13 (.int 3)) 13 (.int 4)) 13 (.int 5)) 13 (.int 6)) 13 (.int 7)) 13 (.int 8)) 13 (.int 9)) 13 (.int 10)) 13 (.int 11)) 13 (.int 12)) 13 (.int 13)) 13 (.int 14)) 13 (.int 15)) 13 (.int 16)))), (atp, .inl (G.2.1, 700, .inl (upd (upd (upd (upd (upd (upd (upd (upd (upd (upd (upd (upd (upd (upd (upd (upd f0 0 (((n0.toUInt32 >>> ((24 : Int32).toUInt32 &&& Int32.toUInt32 31)).toInt32) &&& 255)) 1 (((n0.toUInt32 >>> ((16 : Int32).toUInt32 &&& Int32.toUInt32 31)).toInt32) &&& 255)) 2 (((n0.toUInt32 >>> ((8 : Int32).toUInt32 &&& Int32.toUInt32 31)).toInt32) &&& 255)) 3 (((n0.toUInt32 >>> ((0 : Int32).toUInt32 &&& Int32.toUInt32 31)).toInt32) &&& 255)) 4 (((n1.toUInt32 >>> ((24 : Int32).toUInt32 &&& Int32.toUInt32 31)).toInt32) &&& 255)) 5 (((n1.toUInt32 >>> ((16 : Int32).toUInt32 &&& Int32.toUInt32 31)).toInt32) &&& 255)) 6 (((n1.toUInt32 >>> ((8 : Int32).toUInt32 &&& Int32.toUInt32 31)).toInt32) &&& 255)) 7 (((n1.toUInt32 >>> ((0 : Int32).toUInt32 &&& Int32.toUInt32 31)).toInt32) &&& 255)) 8 (((n2.toUInt32 >>> ((24 : Int32).toUInt32 &&& Int32.toUInt32 31)).toInt32) &&& 255)) 9 (((n2.toUInt32 >>> ((16 : Int32).toUInt32 &&& Int32.toUInt32 31)).toInt32) &&& 255)) 10 (((n2.toUInt32 >>> ((8 : Int32).toUInt32 &&& Int32.toUInt32 31)).toInt32) &&& 255)) 11 (((n2.toUInt32 >>> ((0 : Int32).toUInt32 &&& Int32.toUInt32 31)).toInt32) &&& 255)) 12 (((n3.toUInt32 >>> ((24 : Int32).toUInt32 &&& Int32.toUInt32 31)).toInt32) &&& 255)) 13 (((n3.toUInt32 >>> ((16 : Int32).toUInt32 &&& Int32.toUInt32 31)).toInt32) &&& 255)) 14 (((n3.toUInt32 >>> ((8 : Int32).toUInt32 &&& Int32.toUInt32 31)).toInt32) &&& 255)) 15 (((n3.toUInt32 >>> ((0 : Int32).toUInt32 &&& Int32.toUInt32 31)).toInt32) &&& 255))))] H := hP
  have hD : va_D A [(h0, .inr (11, ofL 17 (updV (updV (updV (updV (updV (updV (updV (updV (updV (updV (updV (updV (updV (updV (updV (updV Fh0 13 (.int 1)) 13 (.int 2)) 13 (.int 3)) 13 (.int 4)) 13 (.int 5)) 13 (.int 6)) 13 (.int 7)) 13 (.int 8)) 13 (.int 9)) 13 (.int 10)) 13 (.int 11)) 13 (.int 12)) 13 (.int 13)) 13 (.int 14)) 13 (.int 15)) 13 (.int 16)))), (atp, .inl (G.2.1, 700, .inl (upd (upd (upd (upd (upd (upd (upd (upd (upd (upd (upd (upd (upd (upd (upd (upd f0 0 (((n0.toUInt32 >>> ((24 : Int32).toUInt32 &&& Int32.toUInt32 31)).toInt32) &&& 255)) 1 (((n0.toUInt32 >>> ((16 : Int32).toUInt32 &&& Int32.toUInt32 31)).toInt32) &&& 255)) 2 (((n0.toUInt32 >>> ((8 : Int32).toUInt32 &&& Int32.toUInt32 31)).toInt32) &&& 255)) 3 (((n0.toUInt32 >>> ((0 : Int32).toUInt32 &&& Int32.toUInt32 31)).toInt32) &&& 255)) 4 (((n1.toUInt32 >>> ((24 : Int32).toUInt32 &&& Int32.toUInt32 31)).toInt32) &&& 255)) 5 (((n1.toUInt32 >>> ((16 : Int32).toUInt32 &&& Int32.toUInt32 31)).toInt32) &&& 255)) 6 (((n1.toUInt32 >>> ((8 : Int32).toUInt32 &&& Int32.toUInt32 31)).toInt32) &&& 255)) 7 (((n1.toUInt32 >>> ((0 : Int32).toUInt32 &&& Int32.toUInt32 31)).toInt32) &&& 255)) 8 (((n2.toUInt32 >>> ((24 : Int32).toUInt32 &&& Int32.toUInt32 31)).toInt32) &&& 255)) 9 (((n2.toUInt32 >>> ((16 : Int32).toUInt32 &&& Int32.toUInt32 31)).toInt32) &&& 255)) 10 (((n2.toUInt32 >>> ((8 : Int32).toUInt32 &&& Int32.toUInt32 31)).toInt32) &&& 255)) 11 (((n2.toUInt32 >>> ((0 : Int32).toUInt32 &&& Int32.toUInt32 31)).toInt32) &&& 255)) 12 (((n3.toUInt32 >>> ((24 : Int32).toUInt32 &&& Int32.toUInt32 31)).toInt32) &&& 255)) 13 (((n3.toUInt32 >>> ((16 : Int32).toUInt32 &&& Int32.toUInt32 31)).toInt32) &&& 255)) 14 (((n3.toUInt32 >>> ((8 : Int32).toUInt32 &&& Int32.toUInt32 31)).toInt32) &&& 255)) 15 (((n3.toUInt32 >>> ((0 : Int32).toUInt32 &&& Int32.toUInt32 31)).toInt32) &&& 255))))] := hD
  refine lv_aload_n hx hb dX11_feed_36 rfl (lv_at hl 0 rfl) ?_
  refine lv_iload hx hb dX11_feed_37 (lv_at hl 5 rfl) ?_
  refine k_callVv (wr := []) (rest := []) li_X11_101 C (c_X11_put_16 l G H.size h0 n4 (updV (updV (updV (updV (updV (updV (updV (updV (updV (updV (updV (updV (updV (updV (updV (updV Fh0 13 (.int 1)) 13 (.int 2)) 13 (.int 3)) 13 (.int 4)) 13 (.int 5)) 13 (.int 6)) 13 (.int 7)) 13 (.int 8)) 13 (.int 9)) 13 (.int 10)) 13 (.int 11)) 13 (.int 12)) 13 (.int 13)) 13 (.int 14)) 13 (.int 15)) 13 (.int 16)) atp (upd (upd (upd (upd (upd (upd (upd (upd (upd (upd (upd (upd (upd (upd (upd (upd f0 0 (((n0.toUInt32 >>> ((24 : Int32).toUInt32 &&& Int32.toUInt32 31)).toInt32) &&& 255)) 1 (((n0.toUInt32 >>> ((16 : Int32).toUInt32 &&& Int32.toUInt32 31)).toInt32) &&& 255)) 2 (((n0.toUInt32 >>> ((8 : Int32).toUInt32 &&& Int32.toUInt32 31)).toInt32) &&& 255)) 3 (((n0.toUInt32 >>> ((0 : Int32).toUInt32 &&& Int32.toUInt32 31)).toInt32) &&& 255)) 4 (((n1.toUInt32 >>> ((24 : Int32).toUInt32 &&& Int32.toUInt32 31)).toInt32) &&& 255)) 5 (((n1.toUInt32 >>> ((16 : Int32).toUInt32 &&& Int32.toUInt32 31)).toInt32) &&& 255)) 6 (((n1.toUInt32 >>> ((8 : Int32).toUInt32 &&& Int32.toUInt32 31)).toInt32) &&& 255)) 7 (((n1.toUInt32 >>> ((0 : Int32).toUInt32 &&& Int32.toUInt32 31)).toInt32) &&& 255)) 8 (((n2.toUInt32 >>> ((24 : Int32).toUInt32 &&& Int32.toUInt32 31)).toInt32) &&& 255)) 9 (((n2.toUInt32 >>> ((16 : Int32).toUInt32 &&& Int32.toUInt32 31)).toInt32) &&& 255)) 10 (((n2.toUInt32 >>> ((8 : Int32).toUInt32 &&& Int32.toUInt32 31)).toInt32) &&& 255)) 11 (((n2.toUInt32 >>> ((0 : Int32).toUInt32 &&& Int32.toUInt32 31)).toInt32) &&& 255)) 12 (((n3.toUInt32 >>> ((24 : Int32).toUInt32 &&& Int32.toUInt32 31)).toInt32) &&& 255)) 13 (((n3.toUInt32 >>> ((16 : Int32).toUInt32 &&& Int32.toUInt32 31)).toInt32) &&& 255)) 14 (((n3.toUInt32 >>> ((8 : Int32).toUInt32 &&& Int32.toUInt32 31)).toInt32) &&& 255)) 15 (((n3.toUInt32 >>> ((0 : Int32).toUInt32 &&& Int32.toUInt32 31)).toInt32) &&& 255)) e_h0_0 rfl) (kR rfl) hP hD hS [0, 1] [] rfl rfl rfl rfl (by decide) 0 11 rfl rfl rfl hl.1 rfl (Nat.le_of_ble_eq_true rfl) dX11_feed_39 (fun uu16 H locs hw14 hP hD hS => ?_)
  have hP : va_P G.1 vwCl [(h0, .inr (11, ofL 17 (updV (updV (updV (updV (updV (updV (updV (updV (updV (updV (updV (updV (updV (updV (updV (updV (updV (updV (updV (updV Fh0 13 (.int 1)) 13 (.int 2)) 13 (.int 3)) 13 (.int 4)) 13 (.int 5)) 13 (.int 6)) 13 (.int 7)) 13 (.int 8)) 13 (.int 9)) 13 (.int 10)) 13 (.int 11)) 13 (.int 12)) 13 (.int 13)) 13 (.int 14)) 13 (.int 15)) 13 (.int 16)) 13 (.int 17)) 13 (.int 18)) 13 (.int 19)) 13 (.int 20)))), (atp, .inl (G.2.1, 700, .inl (upd (upd (upd (upd (upd (upd (upd (upd (upd (upd (upd (upd (upd (upd (upd (upd (upd (upd (upd (upd f0 0 (((n0.toUInt32 >>> ((24 : Int32).toUInt32 &&& Int32.toUInt32 31)).toInt32) &&& 255)) 1 (((n0.toUInt32 >>> ((16 : Int32).toUInt32 &&& Int32.toUInt32 31)).toInt32) &&& 255)) 2 (((n0.toUInt32 >>> ((8 : Int32).toUInt32 &&& Int32.toUInt32 31)).toInt32) &&& 255)) 3 (((n0.toUInt32 >>> ((0 : Int32).toUInt32 &&& Int32.toUInt32 31)).toInt32) &&& 255)) 4 (((n1.toUInt32 >>> ((24 : Int32).toUInt32 &&& Int32.toUInt32 31)).toInt32) &&& 255)) 5 (((n1.toUInt32 >>> ((16 : Int32).toUInt32 &&& Int32.toUInt32 31)).toInt32) &&& 255)) 6 (((n1.toUInt32 >>> ((8 : Int32).toUInt32 &&& Int32.toUInt32 31)).toInt32) &&& 255)) 7 (((n1.toUInt32 >>> ((0 : Int32).toUInt32 &&& Int32.toUInt32 31)).toInt32) &&& 255)) 8 (((n2.toUInt32 >>> ((24 : Int32).toUInt32 &&& Int32.toUInt32 31)).toInt32) &&& 255)) 9 (((n2.toUInt32 >>> ((16 : Int32).toUInt32 &&& Int32.toUInt32 31)).toInt32) &&& 255)) 10 (((n2.toUInt32 >>> ((8 : Int32).toUInt32 &&& Int32.toUInt32 31)).toInt32) &&& 255)) 11 (((n2.toUInt32 >>> ((0 : Int32).toUInt32 &&& Int32.toUInt32 31)).toInt32) &&& 255)) 12 (((n3.toUInt32 >>> ((24 : Int32).toUInt32 &&& Int32.toUInt32 31)).toInt32) &&& 255)) 13 (((n3.toUInt32 >>> ((16 : Int32).toUInt32 &&& Int32.toUInt32 31)).toInt32) &&& 255)) 14 (((n3.toUInt32 >>> ((8 : Int32).toUInt32 &&& Int32.toUInt32 31)).toInt32) &&& 255)) 15 (((n3.toUInt32 >>> ((0 : Int32).toUInt32 &&& Int32.toUInt32 31)).toInt32) &&& 255)) 16 (((n4.toUInt32 >>> ((24 : Int32).toUInt32 &&& Int32.toUInt32 31)).toInt32) &&& 255)) 17 (((n4.toUInt32 >>> ((16 : Int32).toUInt32 &&& Int32.toUInt32 31)).toInt32) &&& 255)) 18 (((n4.toUInt32 >>> ((8 : Int32).toUInt32 &&& Int32.toUInt32 31)).toInt32) &&& 255)) 19 (((n4.toUInt32 >>> ((0 : Int32).toUInt32 &&& Int32.toUInt32 31)).toInt32) &&& 255))))] H := hP
  have hD : va_D A [(h0, .inr (11, ofL 17 (updV (updV (updV (updV (updV (updV (updV (updV (updV (updV (updV (updV (updV (updV (updV (updV (updV (updV (updV (updV Fh0 13 (.int 1)) 13 (.int 2)) 13 (.int 3)) 13 (.int 4)) 13 (.int 5)) 13 (.int 6)) 13 (.int 7)) 13 (.int 8)) 13 (.int 9)) 13 (.int 10)) 13 (.int 11)) 13 (.int 12)) 13 (.int 13)) 13 (.int 14)) 13 (.int 15)) 13 (.int 16)) 13 (.int 17)) 13 (.int 18)) 13 (.int 19)) 13 (.int 20)))), (atp, .inl (G.2.1, 700, .inl (upd (upd (upd (upd (upd (upd (upd (upd (upd (upd (upd (upd (upd (upd (upd (upd (upd (upd (upd (upd f0 0 (((n0.toUInt32 >>> ((24 : Int32).toUInt32 &&& Int32.toUInt32 31)).toInt32) &&& 255)) 1 (((n0.toUInt32 >>> ((16 : Int32).toUInt32 &&& Int32.toUInt32 31)).toInt32) &&& 255)) 2 (((n0.toUInt32 >>> ((8 : Int32).toUInt32 &&& Int32.toUInt32 31)).toInt32) &&& 255)) 3 (((n0.toUInt32 >>> ((0 : Int32).toUInt32 &&& Int32.toUInt32 31)).toInt32) &&& 255)) 4 (((n1.toUInt32 >>> ((24 : Int32).toUInt32 &&& Int32.toUInt32 31)).toInt32) &&& 255)) 5 (((n1.toUInt32 >>> ((16 : Int32).toUInt32 &&& Int32.toUInt32 31)).toInt32) &&& 255)) 6 (((n1.toUInt32 >>> ((8 : Int32).toUInt32 &&& Int32.toUInt32 31)).toInt32) &&& 255)) 7 (((n1.toUInt32 >>> ((0 : Int32).toUInt32 &&& Int32.toUInt32 31)).toInt32) &&& 255)) 8 (((n2.toUInt32 >>> ((24 : Int32).toUInt32 &&& Int32.toUInt32 31)).toInt32) &&& 255)) 9 (((n2.toUInt32 >>> ((16 : Int32).toUInt32 &&& Int32.toUInt32 31)).toInt32) &&& 255)) 10 (((n2.toUInt32 >>> ((8 : Int32).toUInt32 &&& Int32.toUInt32 31)).toInt32) &&& 255)) 11 (((n2.toUInt32 >>> ((0 : Int32).toUInt32 &&& Int32.toUInt32 31)).toInt32) &&& 255)) 12 (((n3.toUInt32 >>> ((24 : Int32).toUInt32 &&& Int32.toUInt32 31)).toInt32) &&& 255)) 13 (((n3.toUInt32 >>> ((16 : Int32).toUInt32 &&& Int32.toUInt32 31)).toInt32) &&& 255)) 14 (((n3.toUInt32 >>> ((8 : Int32).toUInt32 &&& Int32.toUInt32 31)).toInt32) &&& 255)) 15 (((n3.toUInt32 >>> ((0 : Int32).toUInt32 &&& Int32.toUInt32 31)).toInt32) &&& 255)) 16 (((n4.toUInt32 >>> ((24 : Int32).toUInt32 &&& Int32.toUInt32 31)).toInt32) &&& 255)) 17 (((n4.toUInt32 >>> ((16 : Int32).toUInt32 &&& Int32.toUInt32 31)).toInt32) &&& 255)) 18 (((n4.toUInt32 >>> ((8 : Int32).toUInt32 &&& Int32.toUInt32 31)).toInt32) &&& 255)) 19 (((n4.toUInt32 >>> ((0 : Int32).toUInt32 &&& Int32.toUInt32 31)).toInt32) &&& 255))))] := hD
  refine lv_aload_n hx hb dX11_feed_42 rfl (lv_at hl 0 rfl) ?_
  refine k_get (v := .int 20) fl_X11_87 C hP 0 rfl rfl dX11_feed_43 ?_
  exact k_iret C hr hlk hP hD hS () (rfl) [0, 1] rfl rfl (Nat.le_of_ble_eq_true rfl) (Nat.le_of_ble_eq_true rfl) dX11_feed_46
set_option maxHeartbeats 4000000 in
set_option maxRecDepth 100000 in
theorem c_X11_house (l : Launch) (hst : l.stackTraces = false) (G : kG) (sz : Nat) (h0 : Nat) (n0 : Int32) (Fh0 : Nat → Value) (ap : Nat) (asp : Nat) (apa : Nat) (ah : Nat) (ad : Nat) (Fasp : Nat → Value) (ar : Nat) (Far : Nat → Value) (Fapa : Nat → Value) (atp : Nat) (f0 : Nat → Int32) (Fah : Nat → Value) (Fad : Nat → Value) (e_h0_3 : Fh0 3 = .ref ap) (e_h0_4 : Fh0 4 = .ref asp) (e_h0_5 : Fh0 5 = .ref apa) (e_h0_6 : Fh0 6 = .ref ah) (e_h0_8 : Fh0 8 = .ref ad) (e_h0_13 : Fh0 13 = .int 0) (e_asp_1 : Fasp 1 = .ref ar) (e_apa_0 : Fapa 0 = .ref atp) : kMX l yX11_house cX11_house 3 (some .int) { frames := 9, cells := 1, slots := 6, locals := 173 } G [.ref h0, .int n0] [(h0, .inr (11, ofL 17 Fh0)), (asp, .inr (7, ofL 5 Fasp)), (ar, .inr (8, ofL 5 Far)), (apa, .inr (6, ofL 11 Fapa)), (atp, .inl (G.2.1, 700, .inl f0)), (ah, .inr (3, ofL 12 Fah)), (ad, .inr (1, ofL 10 Fad))] sz (kQi G (S := Unit) (fun r (_ : Unit) => r = 0 ∧ ¬ n0 < 0 ∧ n0 ≤ 0 ∧ n0 = 0) (fun _ => [(h0, .inr (11, ofL 17 (updV (updV (updV (updV (updV (updV Fh0 13 (.int 0)) 14 (.int (-1))) 4 (.ref ap)) 3 (.ref asp)) 15 (.int 0)) 16 (.int 0)))), (ad, .inr (1, ofL 10 (updV Fad 7 (.ref asp)))), (atp, .inl (G.2.1, 700, .inl f0)), (ar, .inr (8, ofL 5 (updV (updV Far 3 (.int 0)) 4 (.int 0)))), (apa, .inr (6, ofL 11 (updV (updV (updV (updV (updV (updV (updV (updV (updV (updV (updV Fapa 1 (.ref asp)) 2 (.int 0)) 3 (.int 0)) 7 (.int 0)) 8 (.int (-1))) 9 (.int 0)) 10 (.int 0)) 4 (.int 0)) 5 (.int 0)) 6 (.int 0)) 4 (.int 0)))), (ah, .inr (3, ofL 12 (updV (updV (updV Fah 9 (.int 0)) 10 (.int 0)) 11 (.int (-1))))), (asp, .inr (7, ofL 5 (updV (updV (updV Fasp 2 (.int 0)) 3 (.int 1)) 4 (.int 99))))])) (kXC G (S := Nat) (fun E u => (u = 0 ∧ E = "java/lang/IllegalArgumentException" ∧ n0 < 0) ∨ (u = 1 ∧ E = "java/lang/IllegalArgumentException" ∧ ¬ n0 < 0 ∧ ¬ n0 ≤ 0)) (fun u => match u with | 0 => [(h0, .inr (11, ofL 17 Fh0)), (asp, .inr (7, ofL 5 Fasp)), (ar, .inr (8, ofL 5 Far)), (apa, .inr (6, ofL 11 Fapa)), (atp, .inl (G.2.1, 700, .inl f0)), (ah, .inr (3, ofL 12 Fah)), (ad, .inr (1, ofL 10 Fad))] | _ => [(h0, .inr (11, ofL 17 Fh0)), (asp, .inr (7, ofL 5 Fasp)), (ar, .inr (8, ofL 5 Far)), (apa, .inr (6, ofL 11 Fapa)), (atp, .inl (G.2.1, 700, .inl f0)), (ah, .inr (3, ofL 12 Fah)), (ad, .inr (1, ofL 10 Fad))])) := by
  refine kMX.of (by decide) (Nat.le_of_ble_eq_true rfl) ?_
  intro p e s m below meth c A ls H C hr hlk hno hP hD hS hl
  have C : kC G p s m c cX11_house 3 RX11 A := C
  have hx := C.1
  have hb := C.2.1
  have hl : lv_has ls 3 [(0, .ref h0), (1, .int n0)] := hl
  refine lv_iload_n hx hb dX11_house_0 rfl (lv_at hl 1 rfl) ?_
  refine lv_if_lt (x := n0) (tgt := 12) hx hb dX11_house_1 (by decide) (fun c_1 => ?_) (fun c_1 => ?_)
  ·
    exact k_throw hst ⟨by decide +kernel, by decide +kernel⟩ th_X11_105_107 hno hlk C hl.1 hP hD hS dX11_house_12 dX11_house_15 dX11_house_16 dX11_house_19 (Nat.lt_of_lt_of_le (by decide) (Nat.le_of_ble_eq_true rfl : 6 ≤ _)) (Nat.le_of_ble_eq_true rfl) ⟨Nat.le_of_ble_eq_true rfl, Nat.le_of_ble_eq_true rfl⟩ 0 (Or.inl ⟨rfl, rfl, c_1⟩) [0, 1, 2, 3, 4, 5, 6] rfl rfl (Nat.le_of_ble_eq_true rfl) (Nat.le_of_ble_eq_true rfl)
  ·
    refine lv_iload_n hx hb dX11_house_4 rfl (lv_at hl 1 rfl) ?_
    refine lv_aload_n hx hb dX11_house_5 rfl (lv_at hl 0 rfl) ?_
    refine k_get (v := .int 0) fl_X11_87 C hP 0 rfl e_h0_13 dX11_house_6 ?_
    refine lv_icmp_le (x := n0) (y := 0) (tgt := 20) hx hb dX11_house_9 (by decide) (fun c_2 => ?_) (fun c_2 => ?_)
    ·
      obtain rfl : n0 = 0 := k_zero c_1 c_2
      refine lv_aload_n hx hb dX11_house_20 rfl (lv_at hl 0 rfl) ?_
      refine lv_iconst (v := 0) hx hb dX11_house_21 (by decide) ?_
      refine k_put fl_X11_87 ft_X11_13 C hP hD hS 0 rfl rfl rfl dX11_house_22 (fun H locs hP hD hS => ?_)
      have hP : va_P G.1 vwCl [(h0, .inr (11, ofL 17 (updV Fh0 13 (.int 0)))), (asp, .inr (7, ofL 5 Fasp)), (ar, .inr (8, ofL 5 Far)), (apa, .inr (6, ofL 11 Fapa)), (atp, .inl (G.2.1, 700, .inl f0)), (ah, .inr (3, ofL 12 Fah)), (ad, .inr (1, ofL 10 Fad))] H := hP
      have hD : va_D A [(h0, .inr (11, ofL 17 (updV Fh0 13 (.int 0)))), (asp, .inr (7, ofL 5 Fasp)), (ar, .inr (8, ofL 5 Far)), (apa, .inr (6, ofL 11 Fapa)), (atp, .inl (G.2.1, 700, .inl f0)), (ah, .inr (3, ofL 12 Fah)), (ad, .inr (1, ofL 10 Fad))] := hD
      refine lv_aload_n hx hb dX11_house_25 rfl (lv_at hl 0 rfl) ?_
      refine k_get (v := .ref apa) fl_X11_34 C hP 0 rfl e_h0_5 dX11_house_26 ?_
      refine lv_iload_n hx hb dX11_house_29 rfl (lv_at hl 1 rfl) ?_
      refine lv_aload_n hx hb dX11_house_30 rfl (lv_at hl 0 rfl) ?_
      refine k_get (v := .ref asp) fl_X11_26 C hP 0 rfl e_h0_4 dX11_house_31 ?_
      refine k_callNv (wr := [(h0, .inr (11, ofL 17 (updV Fh0 13 (.int 0)))), (ah, .inr (3, ofL 12 Fah)), (ad, .inr (1, ofL 10 Fad))]) (rest := []) li_X11_108 C (c_X6_read l G H.size apa asp Fapa atp Fasp ar Far f0 e_apa_0 e_asp_1) (kR rfl) hP hD hS [3, 1, 2, 4] [0, 5, 6] rfl rfl rfl rfl (by decide) 0 6 rfl rfl rfl hl.1 rfl (Nat.le_of_ble_eq_true rfl) dX11_house_34 (fun uu5 H locs hw3 hP hD hS => ?_)
      have hP : va_P G.1 vwCl [(h0, .inr (11, ofL 17 (updV Fh0 13 (.int 0)))), (ah, .inr (3, ofL 12 Fah)), (ad, .inr (1, ofL 10 Fad)), (atp, .inl (G.2.1, 700, .inl f0)), (asp, .inr (7, ofL 5 (updV (updV (updV Fasp 2 (.int 0)) 3 (.int 1)) 4 (.int 99)))), (ar, .inr (8, ofL 5 (updV (updV Far 3 (.int 0)) 4 (.int 0)))), (apa, .inr (6, ofL 11 (updV (updV (updV (updV (updV (updV (updV (updV (updV (updV (updV Fapa 1 (.ref asp)) 2 (.int 0)) 3 (.int 0)) 7 (.int 0)) 8 (.int (-1))) 9 (.int 0)) 10 (.int 0)) 4 (.int 0)) 5 (.int 0)) 6 (.int 0)) 4 (.int 0))))] H := hP
      have hD : va_D A [(h0, .inr (11, ofL 17 (updV Fh0 13 (.int 0)))), (ah, .inr (3, ofL 12 Fah)), (ad, .inr (1, ofL 10 Fad)), (atp, .inl (G.2.1, 700, .inl f0)), (asp, .inr (7, ofL 5 (updV (updV (updV Fasp 2 (.int 0)) 3 (.int 1)) 4 (.int 99)))), (ar, .inr (8, ofL 5 (updV (updV Far 3 (.int 0)) 4 (.int 0)))), (apa, .inr (6, ofL 11 (updV (updV (updV (updV (updV (updV (updV (updV (updV (updV (updV Fapa 1 (.ref asp)) 2 (.int 0)) 3 (.int 0)) 7 (.int 0)) 8 (.int (-1))) 9 (.int 0)) 10 (.int 0)) 4 (.int 0)) 5 (.int 0)) 6 (.int 0)) 4 (.int 0))))] := hD
      refine lv_aload_n hx hb dX11_house_37 rfl (lv_at hl 0 rfl) ?_
      refine lv_aload_n hx hb dX11_house_38 rfl (lv_at hl 0 rfl) ?_
      refine k_get (v := .ref apa) fl_X11_34 C hP 0 rfl e_h0_5 dX11_house_39 ?_
      refine k_getN (v := .int (-1)) fl_X11_112 C hP 6 rfl rfl dX11_house_42 ?_
      refine k_put fl_X11_91 ft_X11_14 C hP hD hS 0 rfl rfl rfl dX11_house_45 (fun H locs hP hD hS => ?_)
      have hP : va_P G.1 vwCl [(h0, .inr (11, ofL 17 (updV (updV Fh0 13 (.int 0)) 14 (.int (-1))))), (ah, .inr (3, ofL 12 Fah)), (ad, .inr (1, ofL 10 Fad)), (atp, .inl (G.2.1, 700, .inl f0)), (asp, .inr (7, ofL 5 (updV (updV (updV Fasp 2 (.int 0)) 3 (.int 1)) 4 (.int 99)))), (ar, .inr (8, ofL 5 (updV (updV Far 3 (.int 0)) 4 (.int 0)))), (apa, .inr (6, ofL 11 (updV (updV (updV (updV (updV (updV (updV (updV (updV (updV (updV Fapa 1 (.ref asp)) 2 (.int 0)) 3 (.int 0)) 7 (.int 0)) 8 (.int (-1))) 9 (.int 0)) 10 (.int 0)) 4 (.int 0)) 5 (.int 0)) 6 (.int 0)) 4 (.int 0))))] H := hP
      have hD : va_D A [(h0, .inr (11, ofL 17 (updV (updV Fh0 13 (.int 0)) 14 (.int (-1))))), (ah, .inr (3, ofL 12 Fah)), (ad, .inr (1, ofL 10 Fad)), (atp, .inl (G.2.1, 700, .inl f0)), (asp, .inr (7, ofL 5 (updV (updV (updV Fasp 2 (.int 0)) 3 (.int 1)) 4 (.int 99)))), (ar, .inr (8, ofL 5 (updV (updV Far 3 (.int 0)) 4 (.int 0)))), (apa, .inr (6, ofL 11 (updV (updV (updV (updV (updV (updV (updV (updV (updV (updV (updV Fapa 1 (.ref asp)) 2 (.int 0)) 3 (.int 0)) 7 (.int 0)) 8 (.int (-1))) 9 (.int 0)) 10 (.int 0)) 4 (.int 0)) 5 (.int 0)) 6 (.int 0)) 4 (.int 0))))] := hD
      refine lv_aload_n hx hb dX11_house_48 rfl (lv_at hl 0 rfl) ?_
      refine k_get (v := .ref apa) fl_X11_34 C hP 0 rfl e_h0_5 dX11_house_49 ?_
      refine k_getN (v := .int 0) fl_X11_113 C hP 6 rfl rfl dX11_house_52 ?_
      refine lv_if_eq (x := 0) (tgt := 76) hx hb dX11_house_55 (by decide) (fun c_6 => ?_) (fun c_6 => ?_)
      rotate_left
      · exact absurd (by decide) c_6
      refine lv_aload_n hx hb dX11_house_76 rfl (lv_at hl 0 rfl) ?_
      refine k_get (v := .ref asp) fl_X11_26 C hP 0 rfl e_h0_4 dX11_house_77 ?_
      refine lv_astore_n (lv' := [(2, .ref asp), (0, .ref h0), (1, .int 0)]) hx hb dX11_house_80 rfl hl (by decide) rfl (fun ls hl => ?_)
      refine lv_aload_n hx hb dX11_house_81 rfl (lv_at hl 1 rfl) ?_
      refine lv_aload_n hx hb dX11_house_82 rfl (lv_at hl 1 rfl) ?_
      refine k_get (v := .ref ap) fl_X11_22 C hP 0 rfl e_h0_3 dX11_house_83 ?_
      refine k_put fl_X11_26 ft_X11_4 C hP hD hS 0 rfl rfl rfl dX11_house_86 (fun H locs hP hD hS => ?_)
      have hP : va_P G.1 vwCl [(h0, .inr (11, ofL 17 (updV (updV (updV Fh0 13 (.int 0)) 14 (.int (-1))) 4 (.ref ap)))), (ah, .inr (3, ofL 12 Fah)), (ad, .inr (1, ofL 10 Fad)), (atp, .inl (G.2.1, 700, .inl f0)), (asp, .inr (7, ofL 5 (updV (updV (updV Fasp 2 (.int 0)) 3 (.int 1)) 4 (.int 99)))), (ar, .inr (8, ofL 5 (updV (updV Far 3 (.int 0)) 4 (.int 0)))), (apa, .inr (6, ofL 11 (updV (updV (updV (updV (updV (updV (updV (updV (updV (updV (updV Fapa 1 (.ref asp)) 2 (.int 0)) 3 (.int 0)) 7 (.int 0)) 8 (.int (-1))) 9 (.int 0)) 10 (.int 0)) 4 (.int 0)) 5 (.int 0)) 6 (.int 0)) 4 (.int 0))))] H := hP
      have hD : va_D A [(h0, .inr (11, ofL 17 (updV (updV (updV Fh0 13 (.int 0)) 14 (.int (-1))) 4 (.ref ap)))), (ah, .inr (3, ofL 12 Fah)), (ad, .inr (1, ofL 10 Fad)), (atp, .inl (G.2.1, 700, .inl f0)), (asp, .inr (7, ofL 5 (updV (updV (updV Fasp 2 (.int 0)) 3 (.int 1)) 4 (.int 99)))), (ar, .inr (8, ofL 5 (updV (updV Far 3 (.int 0)) 4 (.int 0)))), (apa, .inr (6, ofL 11 (updV (updV (updV (updV (updV (updV (updV (updV (updV (updV (updV Fapa 1 (.ref asp)) 2 (.int 0)) 3 (.int 0)) 7 (.int 0)) 8 (.int (-1))) 9 (.int 0)) 10 (.int 0)) 4 (.int 0)) 5 (.int 0)) 6 (.int 0)) 4 (.int 0))))] := hD
      refine lv_aload_n hx hb dX11_house_89 rfl (lv_at hl 1 rfl) ?_
      refine lv_aload_n hx hb dX11_house_90 rfl (lv_at hl 0 rfl) ?_
      refine k_put fl_X11_22 ft_X11_3 C hP hD hS 0 rfl rfl rfl dX11_house_91 (fun H locs hP hD hS => ?_)
      have hP : va_P G.1 vwCl [(h0, .inr (11, ofL 17 (updV (updV (updV (updV Fh0 13 (.int 0)) 14 (.int (-1))) 4 (.ref ap)) 3 (.ref asp)))), (ah, .inr (3, ofL 12 Fah)), (ad, .inr (1, ofL 10 Fad)), (atp, .inl (G.2.1, 700, .inl f0)), (asp, .inr (7, ofL 5 (updV (updV (updV Fasp 2 (.int 0)) 3 (.int 1)) 4 (.int 99)))), (ar, .inr (8, ofL 5 (updV (updV Far 3 (.int 0)) 4 (.int 0)))), (apa, .inr (6, ofL 11 (updV (updV (updV (updV (updV (updV (updV (updV (updV (updV (updV Fapa 1 (.ref asp)) 2 (.int 0)) 3 (.int 0)) 7 (.int 0)) 8 (.int (-1))) 9 (.int 0)) 10 (.int 0)) 4 (.int 0)) 5 (.int 0)) 6 (.int 0)) 4 (.int 0))))] H := hP
      have hD : va_D A [(h0, .inr (11, ofL 17 (updV (updV (updV (updV Fh0 13 (.int 0)) 14 (.int (-1))) 4 (.ref ap)) 3 (.ref asp)))), (ah, .inr (3, ofL 12 Fah)), (ad, .inr (1, ofL 10 Fad)), (atp, .inl (G.2.1, 700, .inl f0)), (asp, .inr (7, ofL 5 (updV (updV (updV Fasp 2 (.int 0)) 3 (.int 1)) 4 (.int 99)))), (ar, .inr (8, ofL 5 (updV (updV Far 3 (.int 0)) 4 (.int 0)))), (apa, .inr (6, ofL 11 (updV (updV (updV (updV (updV (updV (updV (updV (updV (updV (updV Fapa 1 (.ref asp)) 2 (.int 0)) 3 (.int 0)) 7 (.int 0)) 8 (.int (-1))) 9 (.int 0)) 10 (.int 0)) 4 (.int 0)) 5 (.int 0)) 6 (.int 0)) 4 (.int 0))))] := hD
      refine lv_aload_n hx hb dX11_house_94 rfl (lv_at hl 1 rfl) ?_
      refine k_get (v := .ref ad) fl_X11_53 C hP 0 rfl e_h0_8 dX11_house_95 ?_
      refine lv_aload_n hx hb dX11_house_98 rfl (lv_at hl 0 rfl) ?_
      refine k_putN fl_X11_116 ft_X1_7 C hP hD hS 2 rfl rfl rfl dX11_house_99 (fun H locs hP hD hS => ?_)
      have hP : va_P G.1 vwCl [(h0, .inr (11, ofL 17 (updV (updV (updV (updV Fh0 13 (.int 0)) 14 (.int (-1))) 4 (.ref ap)) 3 (.ref asp)))), (ah, .inr (3, ofL 12 Fah)), (ad, .inr (1, ofL 10 (updV Fad 7 (.ref asp)))), (atp, .inl (G.2.1, 700, .inl f0)), (asp, .inr (7, ofL 5 (updV (updV (updV Fasp 2 (.int 0)) 3 (.int 1)) 4 (.int 99)))), (ar, .inr (8, ofL 5 (updV (updV Far 3 (.int 0)) 4 (.int 0)))), (apa, .inr (6, ofL 11 (updV (updV (updV (updV (updV (updV (updV (updV (updV (updV (updV Fapa 1 (.ref asp)) 2 (.int 0)) 3 (.int 0)) 7 (.int 0)) 8 (.int (-1))) 9 (.int 0)) 10 (.int 0)) 4 (.int 0)) 5 (.int 0)) 6 (.int 0)) 4 (.int 0))))] H := hP
      have hD : va_D A [(h0, .inr (11, ofL 17 (updV (updV (updV (updV Fh0 13 (.int 0)) 14 (.int (-1))) 4 (.ref ap)) 3 (.ref asp)))), (ah, .inr (3, ofL 12 Fah)), (ad, .inr (1, ofL 10 (updV Fad 7 (.ref asp)))), (atp, .inl (G.2.1, 700, .inl f0)), (asp, .inr (7, ofL 5 (updV (updV (updV Fasp 2 (.int 0)) 3 (.int 1)) 4 (.int 99)))), (ar, .inr (8, ofL 5 (updV (updV Far 3 (.int 0)) 4 (.int 0)))), (apa, .inr (6, ofL 11 (updV (updV (updV (updV (updV (updV (updV (updV (updV (updV (updV Fapa 1 (.ref asp)) 2 (.int 0)) 3 (.int 0)) 7 (.int 0)) 8 (.int (-1))) 9 (.int 0)) 10 (.int 0)) 4 (.int 0)) 5 (.int 0)) 6 (.int 0)) 4 (.int 0))))] := hD
      refine lv_aload_n hx hb dX11_house_102 rfl (lv_at hl 1 rfl) ?_
      refine k_get (v := .ref ah) fl_X11_41 C hP 0 rfl e_h0_6 dX11_house_103 ?_
      refine lv_aload_n hx hb dX11_house_106 rfl (lv_at hl 0 rfl) ?_
      refine k_callNv (wr := [(h0, .inr (11, ofL 17 (updV (updV (updV (updV Fh0 13 (.int 0)) 14 (.int (-1))) 4 (.ref ap)) 3 (.ref asp)))), (ad, .inr (1, ofL 10 (updV Fad 7 (.ref asp)))), (atp, .inl (G.2.1, 700, .inl f0)), (ar, .inr (8, ofL 5 (updV (updV Far 3 (.int 0)) 4 (.int 0)))), (apa, .inr (6, ofL 11 (updV (updV (updV (updV (updV (updV (updV (updV (updV (updV (updV Fapa 1 (.ref asp)) 2 (.int 0)) 3 (.int 0)) 7 (.int 0)) 8 (.int (-1))) 9 (.int 0)) 10 (.int 0)) 4 (.int 0)) 5 (.int 0)) 6 (.int 0)) 4 (.int 0))))]) (rest := []) li_X11_117 C (c_X3_start l G H.size ah asp Fah (updV (updV (updV Fasp 2 (.int 0)) 3 (.int 1)) 4 (.int 99)) rfl) (kR rfl) hP hD hS [1, 4] [0, 2, 3, 5, 6] rfl rfl rfl rfl (by decide) 0 3 rfl rfl rfl hl.1 rfl (Nat.le_of_ble_eq_true rfl) dX11_house_107 (fun uu9 H locs hw7 hP hD hS => ?_)
      have hP : va_P G.1 vwCl [(h0, .inr (11, ofL 17 (updV (updV (updV (updV Fh0 13 (.int 0)) 14 (.int (-1))) 4 (.ref ap)) 3 (.ref asp)))), (ad, .inr (1, ofL 10 (updV Fad 7 (.ref asp)))), (atp, .inl (G.2.1, 700, .inl f0)), (ar, .inr (8, ofL 5 (updV (updV Far 3 (.int 0)) 4 (.int 0)))), (apa, .inr (6, ofL 11 (updV (updV (updV (updV (updV (updV (updV (updV (updV (updV (updV Fapa 1 (.ref asp)) 2 (.int 0)) 3 (.int 0)) 7 (.int 0)) 8 (.int (-1))) 9 (.int 0)) 10 (.int 0)) 4 (.int 0)) 5 (.int 0)) 6 (.int 0)) 4 (.int 0)))), (ah, .inr (3, ofL 12 (updV (updV (updV Fah 9 (.int 0)) 10 (.int 0)) 11 (.int (-1))))), (asp, .inr (7, ofL 5 (updV (updV (updV Fasp 2 (.int 0)) 3 (.int 1)) 4 (.int 99))))] H := hP
      have hD : va_D A [(h0, .inr (11, ofL 17 (updV (updV (updV (updV Fh0 13 (.int 0)) 14 (.int (-1))) 4 (.ref ap)) 3 (.ref asp)))), (ad, .inr (1, ofL 10 (updV Fad 7 (.ref asp)))), (atp, .inl (G.2.1, 700, .inl f0)), (ar, .inr (8, ofL 5 (updV (updV Far 3 (.int 0)) 4 (.int 0)))), (apa, .inr (6, ofL 11 (updV (updV (updV (updV (updV (updV (updV (updV (updV (updV (updV Fapa 1 (.ref asp)) 2 (.int 0)) 3 (.int 0)) 7 (.int 0)) 8 (.int (-1))) 9 (.int 0)) 10 (.int 0)) 4 (.int 0)) 5 (.int 0)) 6 (.int 0)) 4 (.int 0)))), (ah, .inr (3, ofL 12 (updV (updV (updV Fah 9 (.int 0)) 10 (.int 0)) 11 (.int (-1))))), (asp, .inr (7, ofL 5 (updV (updV (updV Fasp 2 (.int 0)) 3 (.int 1)) 4 (.int 99))))] := hD
      refine lv_aload_n hx hb dX11_house_110 rfl (lv_at hl 1 rfl) ?_
      refine lv_iconst (v := 0) hx hb dX11_house_111 (by decide) ?_
      refine k_put fl_X11_94 ft_X11_15 C hP hD hS 0 rfl rfl rfl dX11_house_112 (fun H locs hP hD hS => ?_)
      have hP : va_P G.1 vwCl [(h0, .inr (11, ofL 17 (updV (updV (updV (updV (updV Fh0 13 (.int 0)) 14 (.int (-1))) 4 (.ref ap)) 3 (.ref asp)) 15 (.int 0)))), (ad, .inr (1, ofL 10 (updV Fad 7 (.ref asp)))), (atp, .inl (G.2.1, 700, .inl f0)), (ar, .inr (8, ofL 5 (updV (updV Far 3 (.int 0)) 4 (.int 0)))), (apa, .inr (6, ofL 11 (updV (updV (updV (updV (updV (updV (updV (updV (updV (updV (updV Fapa 1 (.ref asp)) 2 (.int 0)) 3 (.int 0)) 7 (.int 0)) 8 (.int (-1))) 9 (.int 0)) 10 (.int 0)) 4 (.int 0)) 5 (.int 0)) 6 (.int 0)) 4 (.int 0)))), (ah, .inr (3, ofL 12 (updV (updV (updV Fah 9 (.int 0)) 10 (.int 0)) 11 (.int (-1))))), (asp, .inr (7, ofL 5 (updV (updV (updV Fasp 2 (.int 0)) 3 (.int 1)) 4 (.int 99))))] H := hP
      have hD : va_D A [(h0, .inr (11, ofL 17 (updV (updV (updV (updV (updV Fh0 13 (.int 0)) 14 (.int (-1))) 4 (.ref ap)) 3 (.ref asp)) 15 (.int 0)))), (ad, .inr (1, ofL 10 (updV Fad 7 (.ref asp)))), (atp, .inl (G.2.1, 700, .inl f0)), (ar, .inr (8, ofL 5 (updV (updV Far 3 (.int 0)) 4 (.int 0)))), (apa, .inr (6, ofL 11 (updV (updV (updV (updV (updV (updV (updV (updV (updV (updV (updV Fapa 1 (.ref asp)) 2 (.int 0)) 3 (.int 0)) 7 (.int 0)) 8 (.int (-1))) 9 (.int 0)) 10 (.int 0)) 4 (.int 0)) 5 (.int 0)) 6 (.int 0)) 4 (.int 0)))), (ah, .inr (3, ofL 12 (updV (updV (updV Fah 9 (.int 0)) 10 (.int 0)) 11 (.int (-1))))), (asp, .inr (7, ofL 5 (updV (updV (updV Fasp 2 (.int 0)) 3 (.int 1)) 4 (.int 99))))] := hD
      refine lv_aload_n hx hb dX11_house_115 rfl (lv_at hl 1 rfl) ?_
      refine lv_iconst (v := 0) hx hb dX11_house_116 (by decide) ?_
      refine k_put fl_X11_98 ft_X11_16 C hP hD hS 0 rfl rfl rfl dX11_house_117 (fun H locs hP hD hS => ?_)
      have hP : va_P G.1 vwCl [(h0, .inr (11, ofL 17 (updV (updV (updV (updV (updV (updV Fh0 13 (.int 0)) 14 (.int (-1))) 4 (.ref ap)) 3 (.ref asp)) 15 (.int 0)) 16 (.int 0)))), (ad, .inr (1, ofL 10 (updV Fad 7 (.ref asp)))), (atp, .inl (G.2.1, 700, .inl f0)), (ar, .inr (8, ofL 5 (updV (updV Far 3 (.int 0)) 4 (.int 0)))), (apa, .inr (6, ofL 11 (updV (updV (updV (updV (updV (updV (updV (updV (updV (updV (updV Fapa 1 (.ref asp)) 2 (.int 0)) 3 (.int 0)) 7 (.int 0)) 8 (.int (-1))) 9 (.int 0)) 10 (.int 0)) 4 (.int 0)) 5 (.int 0)) 6 (.int 0)) 4 (.int 0)))), (ah, .inr (3, ofL 12 (updV (updV (updV Fah 9 (.int 0)) 10 (.int 0)) 11 (.int (-1))))), (asp, .inr (7, ofL 5 (updV (updV (updV Fasp 2 (.int 0)) 3 (.int 1)) 4 (.int 99))))] H := hP
      have hD : va_D A [(h0, .inr (11, ofL 17 (updV (updV (updV (updV (updV (updV Fh0 13 (.int 0)) 14 (.int (-1))) 4 (.ref ap)) 3 (.ref asp)) 15 (.int 0)) 16 (.int 0)))), (ad, .inr (1, ofL 10 (updV Fad 7 (.ref asp)))), (atp, .inl (G.2.1, 700, .inl f0)), (ar, .inr (8, ofL 5 (updV (updV Far 3 (.int 0)) 4 (.int 0)))), (apa, .inr (6, ofL 11 (updV (updV (updV (updV (updV (updV (updV (updV (updV (updV (updV Fapa 1 (.ref asp)) 2 (.int 0)) 3 (.int 0)) 7 (.int 0)) 8 (.int (-1))) 9 (.int 0)) 10 (.int 0)) 4 (.int 0)) 5 (.int 0)) 6 (.int 0)) 4 (.int 0)))), (ah, .inr (3, ofL 12 (updV (updV (updV Fah 9 (.int 0)) 10 (.int 0)) 11 (.int (-1))))), (asp, .inr (7, ofL 5 (updV (updV (updV Fasp 2 (.int 0)) 3 (.int 1)) 4 (.int 99))))] := hD
      refine lv_iconst (v := 0) hx hb dX11_house_120 (by decide) ?_
      exact vx_ret (k_iret C hr hlk hP hD hS () (⟨rfl, c_1, c_2, rfl⟩) [0, 1, 2, 3, 4, 5, 6] rfl rfl (Nat.le_of_ble_eq_true rfl) (Nat.le_of_ble_eq_true rfl) dX11_house_121)
    ·
      exact k_throw hst ⟨by decide +kernel, by decide +kernel⟩ th_X11_105_107 hno hlk C hl.1 hP hD hS dX11_house_12 dX11_house_15 dX11_house_16 dX11_house_19 (Nat.lt_of_lt_of_le (by decide) (Nat.le_of_ble_eq_true rfl : 6 ≤ _)) (Nat.le_of_ble_eq_true rfl) ⟨Nat.le_of_ble_eq_true rfl, Nat.le_of_ble_eq_true rfl⟩ 1 (Or.inr (⟨rfl, rfl, c_1, c_2⟩)) [0, 1, 2, 3, 4, 5, 6] rfl rfl (Nat.le_of_ble_eq_true rfl) (Nat.le_of_ble_eq_true rfl)
set_option maxHeartbeats 4000000 in
set_option maxRecDepth 100000 in
theorem c_X11_fault (l : Launch) (G : kG) (sz : Nat) (h0 : Nat) (Fh0 : Nat → Value) (n1 : Int32) (e_h0_14 : Fh0 14 = .int n1) : kM l yX11_fault cX11_fault 1 (some .int) { frames := 6, cells := 0, slots := 0, locals := 110 } G [.ref h0] [(h0, .inr (11, ofL 17 Fh0))] sz (kQi G (S := Unit) (fun r (_ : Unit) => r = n1) (fun _ => [(h0, .inr (11, ofL 17 Fh0))])) := by
  refine kM.of (by decide) (Nat.le_of_ble_eq_true rfl) ?_
  intro p e s m below meth c A ls H C hr hlk hnm hP hD hS hl
  have C : kC G p s m c cX11_fault 1 RX11 A := C
  have hx := C.1
  have hb := C.2.1
  have hl : lv_has ls 1 [(0, .ref h0)] := hl
  refine lv_aload_n hx hb dX11_fault_0 rfl (lv_at hl 0 rfl) ?_
  refine k_get (v := .int n1) fl_X11_91 C hP 0 rfl e_h0_14 dX11_fault_1 ?_
  exact k_iret C hr hlk hP hD hS () (rfl) [0] rfl rfl (Nat.le_of_ble_eq_true rfl) (Nat.le_of_ble_eq_true rfl) dX11_fault_4
set_option maxHeartbeats 4000000 in
set_option maxRecDepth 100000 in
theorem c_X11_countOfDay7 (l : Launch) (G : kG) (sz : Nat) (h0 : Nat) (Fh0 : Nat → Value) (ad : Nat) (Fad : Nat → Value) (ap : Nat) (Fap : Nat → Value) (e_h0_8 : Fh0 8 = .ref ad) (e_ad_7 : Fad 7 = .ref ap) (e_ap_2 : Fap 2 = .int 0) : kM l yX11_countOfDay cX11_countOfDay 2 (some .int) { frames := 7, cells := 0, slots := 0, locals := 132 } G [.ref h0, .int 7] [(h0, .inr (11, ofL 17 Fh0)), (ad, .inr (1, ofL 10 Fad)), (ap, .inr (7, ofL 5 Fap))] sz (kQi G (S := Unit) (fun r (_ : Unit) => r = 0) (fun _ => [(h0, .inr (11, ofL 17 Fh0)), (ad, .inr (1, ofL 10 Fad)), (ap, .inr (7, ofL 5 Fap))])) := by
  refine kM.of (by decide) (Nat.le_of_ble_eq_true rfl) ?_
  intro p e s m below meth c A ls H C hr hlk hnm hP hD hS hl
  have C : kC G p s m c cX11_countOfDay 2 RX11 A := C
  have hx := C.1
  have hb := C.2.1
  have hl : lv_has ls 2 [(0, .ref h0), (1, .int 7)] := hl
  refine lv_aload_n hx hb dX11_countOfDay_0 rfl (lv_at hl 0 rfl) ?_
  refine k_get (v := .ref ad) fl_X11_53 C hP 0 rfl e_h0_8 dX11_countOfDay_1 ?_
  refine lv_iconst (v := 0) hx hb dX11_countOfDay_4 (by decide) ?_
  refine k_callNv (wr := [(h0, .inr (11, ofL 17 Fh0))]) (rest := []) li_X11_201 C (c_X1_runFrom l G H.size ad Fad ap Fap e_ad_7 e_ap_2) (kR rfl) hP hD hS [1, 2] [0] rfl rfl rfl rfl (by decide) 0 1 rfl rfl rfl hl.1 rfl (Nat.le_of_ble_eq_true rfl) dX11_countOfDay_5 (fun uu3 H locs hw1 hP hD hS => ?_)
  have hP : va_P G.1 vwCl [(h0, .inr (11, ofL 17 Fh0)), (ad, .inr (1, ofL 10 Fad)), (ap, .inr (7, ofL 5 Fap))] H := hP
  have hD : va_D A [(h0, .inr (11, ofL 17 Fh0)), (ad, .inr (1, ofL 10 Fad)), (ap, .inr (7, ofL 5 Fap))] := hD
  refine lv_iload_n hx hb dX11_countOfDay_8 rfl (lv_at hl 1 rfl) ?_
  refine lv_lookup (off := 35) (tgt := 44) hx hb dX11_countOfDay_9 (by decide) (by decide) (by decide) ?_
  refine lv_aload_n hx hb dX11_countOfDay_44 rfl (lv_at hl 0 rfl) ?_
  refine k_get (v := .ref ad) fl_X11_53 C hP 0 rfl e_h0_8 dX11_countOfDay_45 ?_
  refine k_callNi (wr := [(h0, .inr (11, ofL 17 Fh0))]) (rest := []) li_X11_372 C (c_X1_lost l G H.size ad Fad ap Fap e_ad_7 e_ap_2) (kR rfl) hP hD hS [1, 2] [0] rfl rfl rfl rfl (by decide) 0 1 rfl rfl rfl hl.1 rfl (Nat.le_of_ble_eq_true rfl) dX11_countOfDay_48 (fun rr5 uu6 H locs hw4 hP hD hS => ?_)
  obtain rfl : rr5 = 0 := hw4
  have hP : va_P G.1 vwCl [(h0, .inr (11, ofL 17 Fh0)), (ad, .inr (1, ofL 10 Fad)), (ap, .inr (7, ofL 5 Fap))] H := hP
  have hD : va_D A [(h0, .inr (11, ofL 17 Fh0)), (ad, .inr (1, ofL 10 Fad)), (ap, .inr (7, ofL 5 Fap))] := hD
  exact k_iret C hr hlk hP hD hS () (rfl) [0, 1, 2] rfl rfl (Nat.le_of_ble_eq_true rfl) (Nat.le_of_ble_eq_true rfl) dX11_countOfDay_51
set_option maxHeartbeats 4000000 in
set_option maxRecDepth 100000 in
theorem c_X11_countOfDay12 (l : Launch) (G : kG) (sz : Nat) (h0 : Nat) (Fh0 : Nat → Value) (ad : Nat) (Fad : Nat → Value) (ap : Nat) (Fap : Nat → Value) (e_h0_8 : Fh0 8 = .ref ad) (e_ad_7 : Fad 7 = .ref ap) (e_ap_2 : Fap 2 = .int 0) : kM l yX11_countOfDay cX11_countOfDay 2 (some .int) { frames := 7, cells := 0, slots := 0, locals := 132 } G [.ref h0, .int 12] [(h0, .inr (11, ofL 17 Fh0)), (ad, .inr (1, ofL 10 Fad)), (ap, .inr (7, ofL 5 Fap))] sz (kQi G (S := Unit) (fun r (_ : Unit) => r = 0) (fun _ => [(h0, .inr (11, ofL 17 Fh0)), (ad, .inr (1, ofL 10 Fad)), (ap, .inr (7, ofL 5 Fap))])) := by
  refine kM.of (by decide) (Nat.le_of_ble_eq_true rfl) ?_
  intro p e s m below meth c A ls H C hr hlk hnm hP hD hS hl
  have C : kC G p s m c cX11_countOfDay 2 RX11 A := C
  have hx := C.1
  have hb := C.2.1
  have hl : lv_has ls 2 [(0, .ref h0), (1, .int 12)] := hl
  refine lv_aload_n hx hb dX11_countOfDay_0 rfl (lv_at hl 0 rfl) ?_
  refine k_get (v := .ref ad) fl_X11_53 C hP 0 rfl e_h0_8 dX11_countOfDay_1 ?_
  refine lv_iconst (v := 0) hx hb dX11_countOfDay_4 (by decide) ?_
  refine k_callNv (wr := [(h0, .inr (11, ofL 17 Fh0))]) (rest := []) li_X11_201 C (c_X1_runFrom l G H.size ad Fad ap Fap e_ad_7 e_ap_2) (kR rfl) hP hD hS [1, 2] [0] rfl rfl rfl rfl (by decide) 0 1 rfl rfl rfl hl.1 rfl (Nat.le_of_ble_eq_true rfl) dX11_countOfDay_5 (fun uu3 H locs hw1 hP hD hS => ?_)
  have hP : va_P G.1 vwCl [(h0, .inr (11, ofL 17 Fh0)), (ad, .inr (1, ofL 10 Fad)), (ap, .inr (7, ofL 5 Fap))] H := hP
  have hD : va_D A [(h0, .inr (11, ofL 17 Fh0)), (ad, .inr (1, ofL 10 Fad)), (ap, .inr (7, ofL 5 Fap))] := hD
  refine lv_iload_n hx hb dX11_countOfDay_8 rfl (lv_at hl 1 rfl) ?_
  refine lv_lookup (off := 43) (tgt := 52) hx hb dX11_countOfDay_9 (by decide) (by decide) (by decide) ?_
  refine lv_aload_n hx hb dX11_countOfDay_52 rfl (lv_at hl 0 rfl) ?_
  refine k_get (v := .ref ad) fl_X11_53 C hP 0 rfl e_h0_8 dX11_countOfDay_53 ?_
  refine k_callNi (wr := [(h0, .inr (11, ofL 17 Fh0))]) (rest := []) li_X11_375 C (c_X1_lateOnes l G H.size ad Fad ap Fap e_ad_7 e_ap_2) (kR rfl) hP hD hS [1, 2] [0] rfl rfl rfl rfl (by decide) 0 1 rfl rfl rfl hl.1 rfl (Nat.le_of_ble_eq_true rfl) dX11_countOfDay_56 (fun rr5 uu6 H locs hw4 hP hD hS => ?_)
  obtain rfl : rr5 = 0 := hw4
  have hP : va_P G.1 vwCl [(h0, .inr (11, ofL 17 Fh0)), (ad, .inr (1, ofL 10 Fad)), (ap, .inr (7, ofL 5 Fap))] H := hP
  have hD : va_D A [(h0, .inr (11, ofL 17 Fh0)), (ad, .inr (1, ofL 10 Fad)), (ap, .inr (7, ofL 5 Fap))] := hD
  exact k_iret C hr hlk hP hD hS () (rfl) [0, 1, 2] rfl rfl (Nat.le_of_ble_eq_true rfl) (Nat.le_of_ble_eq_true rfl) dX11_countOfDay_59
set_option maxHeartbeats 4000000 in
set_option maxRecDepth 100000 in
theorem c_X11_countOfDay13 (l : Launch) (G : kG) (sz : Nat) (h0 : Nat) (Fh0 : Nat → Value) (ad : Nat) (Fad : Nat → Value) (ap : Nat) (Fap : Nat → Value) (e_h0_8 : Fh0 8 = .ref ad) (e_ad_7 : Fad 7 = .ref ap) (e_ap_2 : Fap 2 = .int 0) : kM l yX11_countOfDay cX11_countOfDay 2 (some .int) { frames := 7, cells := 0, slots := 0, locals := 132 } G [.ref h0, .int 13] [(h0, .inr (11, ofL 17 Fh0)), (ad, .inr (1, ofL 10 Fad)), (ap, .inr (7, ofL 5 Fap))] sz (kQi G (S := Unit) (fun r (_ : Unit) => r = 0) (fun _ => [(h0, .inr (11, ofL 17 Fh0)), (ad, .inr (1, ofL 10 Fad)), (ap, .inr (7, ofL 5 Fap))])) := by
  refine kM.of (by decide) (Nat.le_of_ble_eq_true rfl) ?_
  intro p e s m below meth c A ls H C hr hlk hnm hP hD hS hl
  have C : kC G p s m c cX11_countOfDay 2 RX11 A := C
  have hx := C.1
  have hb := C.2.1
  have hl : lv_has ls 2 [(0, .ref h0), (1, .int 13)] := hl
  refine lv_aload_n hx hb dX11_countOfDay_0 rfl (lv_at hl 0 rfl) ?_
  refine k_get (v := .ref ad) fl_X11_53 C hP 0 rfl e_h0_8 dX11_countOfDay_1 ?_
  refine lv_iconst (v := 0) hx hb dX11_countOfDay_4 (by decide) ?_
  refine k_callNv (wr := [(h0, .inr (11, ofL 17 Fh0))]) (rest := []) li_X11_201 C (c_X1_runFrom l G H.size ad Fad ap Fap e_ad_7 e_ap_2) (kR rfl) hP hD hS [1, 2] [0] rfl rfl rfl rfl (by decide) 0 1 rfl rfl rfl hl.1 rfl (Nat.le_of_ble_eq_true rfl) dX11_countOfDay_5 (fun uu3 H locs hw1 hP hD hS => ?_)
  have hP : va_P G.1 vwCl [(h0, .inr (11, ofL 17 Fh0)), (ad, .inr (1, ofL 10 Fad)), (ap, .inr (7, ofL 5 Fap))] H := hP
  have hD : va_D A [(h0, .inr (11, ofL 17 Fh0)), (ad, .inr (1, ofL 10 Fad)), (ap, .inr (7, ofL 5 Fap))] := hD
  refine lv_iload_n hx hb dX11_countOfDay_8 rfl (lv_at hl 1 rfl) ?_
  refine lv_lookup (off := 51) (tgt := 60) hx hb dX11_countOfDay_9 (by decide) (by decide) (by decide) ?_
  refine lv_aload_n hx hb dX11_countOfDay_60 rfl (lv_at hl 0 rfl) ?_
  refine k_get (v := .ref ad) fl_X11_53 C hP 0 rfl e_h0_8 dX11_countOfDay_61 ?_
  refine k_callNi (wr := [(h0, .inr (11, ofL 17 Fh0))]) (rest := []) li_X11_378 C (c_X1_latest l G H.size ad Fad ap Fap e_ad_7 e_ap_2) (kR rfl) hP hD hS [1, 2] [0] rfl rfl rfl rfl (by decide) 0 1 rfl rfl rfl hl.1 rfl (Nat.le_of_ble_eq_true rfl) dX11_countOfDay_64 (fun rr5 uu6 H locs hw4 hP hD hS => ?_)
  obtain rfl : rr5 = 0 := hw4
  have hP : va_P G.1 vwCl [(h0, .inr (11, ofL 17 Fh0)), (ad, .inr (1, ofL 10 Fad)), (ap, .inr (7, ofL 5 Fap))] H := hP
  have hD : va_D A [(h0, .inr (11, ofL 17 Fh0)), (ad, .inr (1, ofL 10 Fad)), (ap, .inr (7, ofL 5 Fap))] := hD
  exact k_iret C hr hlk hP hD hS () (rfl) [0, 1, 2] rfl rfl (Nat.le_of_ble_eq_true rfl) (Nat.le_of_ble_eq_true rfl) dX11_countOfDay_67
set_option maxHeartbeats 4000000 in
set_option maxRecDepth 100000 in
theorem c_X11_countOfDay14 (l : Launch) (G : kG) (sz : Nat) (h0 : Nat) (Fh0 : Nat → Value) (ad : Nat) (Fad : Nat → Value) (ap : Nat) (Fap : Nat → Value) (e_h0_8 : Fh0 8 = .ref ad) (e_ad_7 : Fad 7 = .ref ap) (e_ap_2 : Fap 2 = .int 0) : kM l yX11_countOfDay cX11_countOfDay 2 (some .int) { frames := 7, cells := 0, slots := 0, locals := 132 } G [.ref h0, .int 14] [(h0, .inr (11, ofL 17 Fh0)), (ad, .inr (1, ofL 10 Fad)), (ap, .inr (7, ofL 5 Fap))] sz (kQi G (S := Unit) (fun r (_ : Unit) => r = 0) (fun _ => [(h0, .inr (11, ofL 17 Fh0)), (ad, .inr (1, ofL 10 Fad)), (ap, .inr (7, ofL 5 Fap))])) := by
  refine kM.of (by decide) (Nat.le_of_ble_eq_true rfl) ?_
  intro p e s m below meth c A ls H C hr hlk hnm hP hD hS hl
  have C : kC G p s m c cX11_countOfDay 2 RX11 A := C
  have hx := C.1
  have hb := C.2.1
  have hl : lv_has ls 2 [(0, .ref h0), (1, .int 14)] := hl
  refine lv_aload_n hx hb dX11_countOfDay_0 rfl (lv_at hl 0 rfl) ?_
  refine k_get (v := .ref ad) fl_X11_53 C hP 0 rfl e_h0_8 dX11_countOfDay_1 ?_
  refine lv_iconst (v := 0) hx hb dX11_countOfDay_4 (by decide) ?_
  refine k_callNv (wr := [(h0, .inr (11, ofL 17 Fh0))]) (rest := []) li_X11_201 C (c_X1_runFrom l G H.size ad Fad ap Fap e_ad_7 e_ap_2) (kR rfl) hP hD hS [1, 2] [0] rfl rfl rfl rfl (by decide) 0 1 rfl rfl rfl hl.1 rfl (Nat.le_of_ble_eq_true rfl) dX11_countOfDay_5 (fun uu3 H locs hw1 hP hD hS => ?_)
  have hP : va_P G.1 vwCl [(h0, .inr (11, ofL 17 Fh0)), (ad, .inr (1, ofL 10 Fad)), (ap, .inr (7, ofL 5 Fap))] H := hP
  have hD : va_D A [(h0, .inr (11, ofL 17 Fh0)), (ad, .inr (1, ofL 10 Fad)), (ap, .inr (7, ofL 5 Fap))] := hD
  refine lv_iload_n hx hb dX11_countOfDay_8 rfl (lv_at hl 1 rfl) ?_
  refine lv_lookup (off := 59) (tgt := 68) hx hb dX11_countOfDay_9 (by decide) (by decide) (by decide) ?_
  refine lv_aload_n hx hb dX11_countOfDay_68 rfl (lv_at hl 0 rfl) ?_
  refine k_get (v := .ref ad) fl_X11_53 C hP 0 rfl e_h0_8 dX11_countOfDay_69 ?_
  refine k_callNi (wr := [(h0, .inr (11, ofL 17 Fh0))]) (rest := []) li_X11_381 C (c_X1_begunLater l G H.size ad Fad ap Fap e_ad_7 e_ap_2) (kR rfl) hP hD hS [1, 2] [0] rfl rfl rfl rfl (by decide) 0 1 rfl rfl rfl hl.1 rfl (Nat.le_of_ble_eq_true rfl) dX11_countOfDay_72 (fun rr5 uu6 H locs hw4 hP hD hS => ?_)
  obtain rfl : rr5 = 0 := hw4
  have hP : va_P G.1 vwCl [(h0, .inr (11, ofL 17 Fh0)), (ad, .inr (1, ofL 10 Fad)), (ap, .inr (7, ofL 5 Fap))] H := hP
  have hD : va_D A [(h0, .inr (11, ofL 17 Fh0)), (ad, .inr (1, ofL 10 Fad)), (ap, .inr (7, ofL 5 Fap))] := hD
  exact k_iret C hr hlk hP hD hS () (rfl) [0, 1, 2] rfl rfl (Nat.le_of_ble_eq_true rfl) (Nat.le_of_ble_eq_true rfl) dX11_countOfDay_75
set_option maxHeartbeats 4000000 in
set_option maxRecDepth 100000 in
theorem c_X11_count (l : Launch) (hst : l.stackTraces = false) (G : kG) (sz : Nat) (h0 : Nat) (n0 : Int32) (Fh0 : Nat → Value) (arf : Nat) (ap : Nat) (ah : Nat) (ad : Nat) (Fap : Nat → Value) (ar : Nat) (Far : Nat → Value) (Fah : Nat → Value) (Fad : Nat → Value) (e_h0_3 : Fh0 3 = .ref ap) (e_h0_6 : Fh0 6 = .ref ah) (e_h0_8 : Fh0 8 = .ref ad) (e_h0_13 : Fh0 13 = .int 0) (e_h0_1 : Fh0 1 = .ref arf) (e_ap_1 : Fap 1 = .ref ar) (e_ap_2 : Fap 2 = .int 0) (e_ap_3 : Fap 3 = .int 1) (e_ap_4 : Fap 4 = .int 99) (e_ar_3 : Far 3 = .int 0) (e_ah_9 : Fah 9 = .int 0) (e_ah_10 : Fah 10 = .int 0) (e_ah_11 : Fah 11 = .int (-1)) (e_ad_7 : Fad 7 = .ref ap) : kMX l yX11_count cX11_count 2 (some .int) { frames := 8, cells := 1, slots := 6, locals := 153 } G [.ref h0, .int n0] [(h0, .inr (11, ofL 17 Fh0)), (ap, .inr (7, ofL 5 Fap)), (ar, .inr (8, ofL 5 Far)), (ah, .inr (3, ofL 12 Fah)), (ad, .inr (1, ofL 10 Fad)), (arf, .inl (G.2.1, 3, .inl (fun _ => 0)))] sz (kQi G (S := Nat) (fun r u => (u = 0 ∧ r = 0 ∧ ¬ n0 < 0 ∧ n0 < 15 ∧ n0 = 0) ∨ (u = 1 ∧ r = 0 ∧ ¬ n0 < 0 ∧ n0 < 15 ∧ n0 = 1) ∨ (u = 2 ∧ r = -1 ∧ ¬ n0 < 0 ∧ n0 < 15 ∧ n0 = 2) ∨ (u = 3 ∧ r = 1 ∧ ¬ n0 < 0 ∧ n0 < 15 ∧ n0 = 3) ∨ (u = 4 ∧ r = 99 ∧ ¬ n0 < 0 ∧ n0 < 15 ∧ n0 = 4) ∨ (u = 5 ∧ r = 0 ∧ ¬ n0 < 0 ∧ n0 < 15 ∧ n0 = 5) ∨ (u = 6 ∧ r = 0 ∧ ¬ n0 < 0 ∧ n0 < 15 ∧ n0 = 6) ∨ (u = 7 ∧ r = 0 ∧ ¬ n0 < 0 ∧ n0 < 15 ∧ n0 = 7) ∨ (u = 8 ∧ r = 0 ∧ ¬ n0 < 0 ∧ n0 < 15 ∧ n0 = 8) ∨ (u = 9 ∧ r = 0 ∧ ¬ n0 < 0 ∧ n0 < 15 ∧ n0 = 9) ∨ (u = 10 ∧ r = 0 ∧ ¬ n0 < 0 ∧ n0 < 15 ∧ n0 = 10) ∨ (u = 11 ∧ r = 0 ∧ ¬ n0 < 0 ∧ n0 < 15 ∧ n0 = 11) ∨ (u = 12 ∧ r = 0 ∧ ¬ n0 < 0 ∧ n0 < 15 ∧ n0 = 12) ∨ (u = 13 ∧ r = 0 ∧ ¬ n0 < 0 ∧ n0 < 15 ∧ n0 = 13) ∨ (u = 14 ∧ r = 0 ∧ ¬ n0 < 0 ∧ n0 < 15 ∧ n0 = 14)) (fun u => match u with | 0 => [(h0, .inr (11, ofL 17 Fh0)), (ap, .inr (7, ofL 5 Fap)), (ar, .inr (8, ofL 5 Far)), (ah, .inr (3, ofL 12 Fah)), (ad, .inr (1, ofL 10 Fad)), (arf, .inl (G.2.1, 3, .inl (fun _ => 0)))] | 1 => [(h0, .inr (11, ofL 17 Fh0)), (ap, .inr (7, ofL 5 Fap)), (ar, .inr (8, ofL 5 Far)), (ah, .inr (3, ofL 12 Fah)), (ad, .inr (1, ofL 10 Fad)), (arf, .inl (G.2.1, 3, .inl (fun _ => 0)))] | 2 => [(h0, .inr (11, ofL 17 Fh0)), (ap, .inr (7, ofL 5 Fap)), (ar, .inr (8, ofL 5 Far)), (ah, .inr (3, ofL 12 Fah)), (ad, .inr (1, ofL 10 Fad)), (arf, .inl (G.2.1, 3, .inl (fun _ => 0)))] | 3 => [(h0, .inr (11, ofL 17 Fh0)), (ap, .inr (7, ofL 5 Fap)), (ar, .inr (8, ofL 5 Far)), (ah, .inr (3, ofL 12 Fah)), (ad, .inr (1, ofL 10 Fad)), (arf, .inl (G.2.1, 3, .inl (fun _ => 0)))] | 4 => [(h0, .inr (11, ofL 17 Fh0)), (ap, .inr (7, ofL 5 Fap)), (ar, .inr (8, ofL 5 Far)), (ah, .inr (3, ofL 12 Fah)), (ad, .inr (1, ofL 10 Fad)), (arf, .inl (G.2.1, 3, .inl (fun _ => 0)))] | 5 => [(h0, .inr (11, ofL 17 Fh0)), (ap, .inr (7, ofL 5 Fap)), (ar, .inr (8, ofL 5 Far)), (ah, .inr (3, ofL 12 Fah)), (ad, .inr (1, ofL 10 Fad)), (arf, .inl (G.2.1, 3, .inl (fun _ => 0)))] | 6 => [(h0, .inr (11, ofL 17 Fh0)), (ap, .inr (7, ofL 5 Fap)), (ar, .inr (8, ofL 5 Far)), (ah, .inr (3, ofL 12 Fah)), (ad, .inr (1, ofL 10 Fad)), (arf, .inl (G.2.1, 3, .inl (fun _ => 0)))] | 7 => [(ar, .inr (8, ofL 5 Far)), (ah, .inr (3, ofL 12 Fah)), (arf, .inl (G.2.1, 3, .inl (fun _ => 0))), (h0, .inr (11, ofL 17 Fh0)), (ad, .inr (1, ofL 10 Fad)), (ap, .inr (7, ofL 5 Fap))] | 8 => [(h0, .inr (11, ofL 17 Fh0)), (ap, .inr (7, ofL 5 Fap)), (ar, .inr (8, ofL 5 Far)), (ah, .inr (3, ofL 12 Fah)), (ad, .inr (1, ofL 10 Fad)), (arf, .inl (G.2.1, 3, .inl (fun _ => 0)))] | 9 => [(h0, .inr (11, ofL 17 Fh0)), (ap, .inr (7, ofL 5 Fap)), (ar, .inr (8, ofL 5 Far)), (ah, .inr (3, ofL 12 Fah)), (ad, .inr (1, ofL 10 Fad)), (arf, .inl (G.2.1, 3, .inl (fun _ => 0)))] | 10 => [(h0, .inr (11, ofL 17 Fh0)), (ap, .inr (7, ofL 5 Fap)), (ar, .inr (8, ofL 5 Far)), (ah, .inr (3, ofL 12 Fah)), (ad, .inr (1, ofL 10 Fad)), (arf, .inl (G.2.1, 3, .inl (fun _ => 0)))] | 11 => [(h0, .inr (11, ofL 17 Fh0)), (ap, .inr (7, ofL 5 Fap)), (ar, .inr (8, ofL 5 Far)), (ah, .inr (3, ofL 12 Fah)), (ad, .inr (1, ofL 10 Fad)), (arf, .inl (G.2.1, 3, .inl (fun _ => 0)))] | 12 => [(ar, .inr (8, ofL 5 Far)), (ah, .inr (3, ofL 12 Fah)), (arf, .inl (G.2.1, 3, .inl (fun _ => 0))), (h0, .inr (11, ofL 17 Fh0)), (ad, .inr (1, ofL 10 Fad)), (ap, .inr (7, ofL 5 Fap))] | 13 => [(ar, .inr (8, ofL 5 Far)), (ah, .inr (3, ofL 12 Fah)), (arf, .inl (G.2.1, 3, .inl (fun _ => 0))), (h0, .inr (11, ofL 17 Fh0)), (ad, .inr (1, ofL 10 Fad)), (ap, .inr (7, ofL 5 Fap))] | _ => [(ar, .inr (8, ofL 5 Far)), (ah, .inr (3, ofL 12 Fah)), (arf, .inl (G.2.1, 3, .inl (fun _ => 0))), (h0, .inr (11, ofL 17 Fh0)), (ad, .inr (1, ofL 10 Fad)), (ap, .inr (7, ofL 5 Fap))])) (kXC G (S := Nat) (fun E u => (u = 0 ∧ E = "java/util/NoSuchElementException" ∧ n0 < 0) ∨ (u = 1 ∧ E = "java/util/NoSuchElementException" ∧ ¬ n0 < 0 ∧ ¬ n0 < 15)) (fun u => match u with | 0 => [(h0, .inr (11, ofL 17 Fh0)), (ap, .inr (7, ofL 5 Fap)), (ar, .inr (8, ofL 5 Far)), (ah, .inr (3, ofL 12 Fah)), (ad, .inr (1, ofL 10 Fad)), (arf, .inl (G.2.1, 3, .inl (fun _ => 0)))] | _ => [(h0, .inr (11, ofL 17 Fh0)), (ap, .inr (7, ofL 5 Fap)), (ar, .inr (8, ofL 5 Far)), (ah, .inr (3, ofL 12 Fah)), (ad, .inr (1, ofL 10 Fad)), (arf, .inl (G.2.1, 3, .inl (fun _ => 0)))])) := by
  refine kMX.of (by decide) (Nat.le_of_ble_eq_true rfl) ?_
  intro p e s m below meth c A ls H C hr hlk hno hP hD hS hl
  have C : kC G p s m c cX11_count 2 RX11 A := C
  have hx := C.1
  have hb := C.2.1
  have hl : lv_has ls 2 [(0, .ref h0), (1, .int n0)] := hl
  refine lv_iload_n hx hb dX11_count_0 rfl (lv_at hl 1 rfl) ?_
  refine lv_bipush (v := 15) hx hb dX11_count_1 (by decide) ?_
  refine k_xcallSv (wr := [(h0, .inr (11, ofL 17 Fh0)), (ap, .inr (7, ofL 5 Fap)), (ar, .inr (8, ofL 5 Far)), (ah, .inr (3, ofL 12 Fah)), (ad, .inr (1, ofL 10 Fad)), (arf, .inl (G.2.1, 3, .inl (fun _ => 0)))]) (rest := []) li_X11_121 C (c_X11_needWhat l hst G H.size n0 15) (kR rfl) hP hD hS [] [0, 1, 2, 3, 4, 5] rfl rfl rfl rfl (by decide) rfl hl.1 rfl (Nat.le_of_ble_eq_true rfl) dX11_count_3 (fun E ce q9 uu3 H locs hw1 hP hD hS hc1 hc2 hc3 => ?_) (fun uu3 H locs hw1 hP hD hS => ?_)
  ·
    rcases hw1 with ⟨rfl, rfl, c_4⟩ | ⟨rfl, rfl, c_5, c_6⟩
    ·
      have hP : va_P G.1 vwCl [(h0, .inr (11, ofL 17 Fh0)), (ap, .inr (7, ofL 5 Fap)), (ar, .inr (8, ofL 5 Far)), (ah, .inr (3, ofL 12 Fah)), (ad, .inr (1, ofL 10 Fad)), (arf, .inl (G.2.1, 3, .inl (fun _ => 0)))] H := hP
      have hD : va_D A [(h0, .inr (11, ofL 17 Fh0)), (ap, .inr (7, ofL 5 Fap)), (ar, .inr (8, ofL 5 Far)), (ah, .inr (3, ofL 12 Fah)), (ad, .inr (1, ofL 10 Fad)), (arf, .inl (G.2.1, 3, .inl (fun _ => 0)))] := hD
      exact k_xout hno hlk hP hD hS hc1 hc2 hc3 0 (Or.inl ⟨rfl, rfl, c_4⟩) [0, 1, 2, 3, 4, 5] rfl rfl (Nat.le_of_ble_eq_true rfl) (Nat.le_of_ble_eq_true rfl)
    ·
      have hP : va_P G.1 vwCl [(h0, .inr (11, ofL 17 Fh0)), (ap, .inr (7, ofL 5 Fap)), (ar, .inr (8, ofL 5 Far)), (ah, .inr (3, ofL 12 Fah)), (ad, .inr (1, ofL 10 Fad)), (arf, .inl (G.2.1, 3, .inl (fun _ => 0)))] H := hP
      have hD : va_D A [(h0, .inr (11, ofL 17 Fh0)), (ap, .inr (7, ofL 5 Fap)), (ar, .inr (8, ofL 5 Far)), (ah, .inr (3, ofL 12 Fah)), (ad, .inr (1, ofL 10 Fad)), (arf, .inl (G.2.1, 3, .inl (fun _ => 0)))] := hD
      exact k_xout hno hlk hP hD hS hc1 hc2 hc3 1 (Or.inr (⟨rfl, rfl, c_5, c_6⟩)) [0, 1, 2, 3, 4, 5] rfl rfl (Nat.le_of_ble_eq_true rfl) (Nat.le_of_ble_eq_true rfl)
  obtain ⟨c_7, c_8⟩ := hw1
  have hP : va_P G.1 vwCl [(h0, .inr (11, ofL 17 Fh0)), (ap, .inr (7, ofL 5 Fap)), (ar, .inr (8, ofL 5 Far)), (ah, .inr (3, ofL 12 Fah)), (ad, .inr (1, ofL 10 Fad)), (arf, .inl (G.2.1, 3, .inl (fun _ => 0)))] H := hP
  have hD : va_D A [(h0, .inr (11, ofL 17 Fh0)), (ap, .inr (7, ofL 5 Fap)), (ar, .inr (8, ofL 5 Far)), (ah, .inr (3, ofL 12 Fah)), (ad, .inr (1, ofL 10 Fad)), (arf, .inl (G.2.1, 3, .inl (fun _ => 0)))] := hD
  refine lv_iload_n hx hb dX11_count_6 rfl (lv_at hl 1 rfl) ?_
  rcases k_rng15 c_7 c_8 with rfl | rfl | rfl | rfl | rfl | rfl | rfl | rfl | rfl | rfl | rfl | rfl | rfl | rfl | rfl
  ·
    refine lv_tableIn (off := 61) (tgt := 68) hx hb dX11_count_7 (by decide) (by decide) (by decide) (by decide) ?_
    refine lv_aload_n hx hb dX11_count_68 rfl (lv_at hl 0 rfl) ?_
    refine k_get (v := .ref ap) fl_X11_22 C hP 0 rfl e_h0_3 dX11_count_69 ?_
    refine k_getN (v := .int 0) fl_X11_125 C hP 1 rfl e_ap_2 dX11_count_72 ?_
    exact vx_ret (k_iret C hr hlk hP hD hS 0 (Or.inl ⟨rfl, rfl, c_7, c_8, rfl⟩) [0, 1, 2, 3, 4, 5] rfl rfl (Nat.le_of_ble_eq_true rfl) (Nat.le_of_ble_eq_true rfl) dX11_count_75)
  ·
    refine lv_tableIn (off := 69) (tgt := 76) hx hb dX11_count_7 (by decide) (by decide) (by decide) (by decide) ?_
    refine lv_aload_n hx hb dX11_count_76 rfl (lv_at hl 0 rfl) ?_
    refine k_get (v := .ref ap) fl_X11_22 C hP 0 rfl e_h0_3 dX11_count_77 ?_
    refine k_getN (v := .ref ar) fl_X11_128 C hP 1 rfl e_ap_1 dX11_count_80 ?_
    refine k_getN (v := .int 0) fl_X11_132 C hP 2 rfl e_ar_3 dX11_count_83 ?_
    exact vx_ret (k_iret C hr hlk hP hD hS 1 (Or.inr (Or.inl ⟨rfl, rfl, c_7, c_8, rfl⟩)) [0, 1, 2, 3, 4, 5] rfl rfl (Nat.le_of_ble_eq_true rfl) (Nat.le_of_ble_eq_true rfl) dX11_count_86)
  ·
    refine lv_tableIn (off := 80) (tgt := 87) hx hb dX11_count_7 (by decide) (by decide) (by decide) (by decide) ?_
    refine lv_aload_n hx hb dX11_count_87 rfl (lv_at hl 0 rfl) ?_
    refine k_get (v := .ref ah) fl_X11_41 C hP 0 rfl e_h0_6 dX11_count_88 ?_
    refine k_getN (v := .int (-1)) fl_X11_137 C hP 3 rfl e_ah_11 dX11_count_91 ?_
    exact vx_ret (k_iret C hr hlk hP hD hS 2 (Or.inr (Or.inr (Or.inl ⟨rfl, rfl, c_7, c_8, rfl⟩))) [0, 1, 2, 3, 4, 5] rfl rfl (Nat.le_of_ble_eq_true rfl) (Nat.le_of_ble_eq_true rfl) dX11_count_94)
  ·
    refine lv_tableIn (off := 88) (tgt := 95) hx hb dX11_count_7 (by decide) (by decide) (by decide) (by decide) ?_
    refine lv_aload_n hx hb dX11_count_95 rfl (lv_at hl 0 rfl) ?_
    refine k_get (v := .ref ap) fl_X11_22 C hP 0 rfl e_h0_3 dX11_count_96 ?_
    refine k_getN (v := .int 1) fl_X11_140 C hP 1 rfl e_ap_3 dX11_count_99 ?_
    exact vx_ret (k_iret C hr hlk hP hD hS 3 (Or.inr (Or.inr (Or.inr (Or.inl ⟨rfl, rfl, c_7, c_8, rfl⟩)))) [0, 1, 2, 3, 4, 5] rfl rfl (Nat.le_of_ble_eq_true rfl) (Nat.le_of_ble_eq_true rfl) dX11_count_102)
  ·
    refine lv_tableIn (off := 96) (tgt := 103) hx hb dX11_count_7 (by decide) (by decide) (by decide) (by decide) ?_
    refine lv_aload_n hx hb dX11_count_103 rfl (lv_at hl 0 rfl) ?_
    refine k_get (v := .ref ap) fl_X11_22 C hP 0 rfl e_h0_3 dX11_count_104 ?_
    refine k_getN (v := .int 99) fl_X11_143 C hP 1 rfl e_ap_4 dX11_count_107 ?_
    exact vx_ret (k_iret C hr hlk hP hD hS 4 (Or.inr (Or.inr (Or.inr (Or.inr (Or.inl ⟨rfl, rfl, c_7, c_8, rfl⟩))))) [0, 1, 2, 3, 4, 5] rfl rfl (Nat.le_of_ble_eq_true rfl) (Nat.le_of_ble_eq_true rfl) dX11_count_110)
  ·
    refine lv_tableIn (off := 104) (tgt := 111) hx hb dX11_count_7 (by decide) (by decide) (by decide) (by decide) ?_
    refine lv_aload_n hx hb dX11_count_111 rfl (lv_at hl 0 rfl) ?_
    refine k_get (v := .ref ah) fl_X11_41 C hP 0 rfl e_h0_6 dX11_count_112 ?_
    refine k_getN (v := .int 0) fl_X11_146 C hP 3 rfl e_ah_9 dX11_count_115 ?_
    exact vx_ret (k_iret C hr hlk hP hD hS 5 (Or.inr (Or.inr (Or.inr (Or.inr (Or.inr (Or.inl ⟨rfl, rfl, c_7, c_8, rfl⟩)))))) [0, 1, 2, 3, 4, 5] rfl rfl (Nat.le_of_ble_eq_true rfl) (Nat.le_of_ble_eq_true rfl) dX11_count_118)
  ·
    refine lv_tableIn (off := 112) (tgt := 119) hx hb dX11_count_7 (by decide) (by decide) (by decide) (by decide) ?_
    refine lv_aload_n hx hb dX11_count_119 rfl (lv_at hl 0 rfl) ?_
    refine k_get (v := .ref ah) fl_X11_41 C hP 0 rfl e_h0_6 dX11_count_120 ?_
    refine k_getN (v := .int 0) fl_X11_149 C hP 3 rfl e_ah_10 dX11_count_123 ?_
    exact vx_ret (k_iret C hr hlk hP hD hS 6 (Or.inr (Or.inr (Or.inr (Or.inr (Or.inr (Or.inr (Or.inl ⟨rfl, rfl, c_7, c_8, rfl⟩))))))) [0, 1, 2, 3, 4, 5] rfl rfl (Nat.le_of_ble_eq_true rfl) (Nat.le_of_ble_eq_true rfl) dX11_count_126)
  ·
    refine lv_tableIn (off := 146) (tgt := 153) hx hb dX11_count_7 (by decide) (by decide) (by decide) (by decide) ?_
    refine lv_aload_n hx hb dX11_count_153 rfl (lv_at hl 0 rfl) ?_
    refine lv_iload_n hx hb dX11_count_154 rfl (lv_at hl 1 rfl) ?_
    refine k_callVi (wr := [(ar, .inr (8, ofL 5 Far)), (ah, .inr (3, ofL 12 Fah)), (arf, .inl (G.2.1, 3, .inl (fun _ => 0)))]) (rest := []) li_X11_152 C (c_X11_countOfDay7 l G H.size h0 Fh0 ad Fad ap Fap e_h0_8 e_ad_7 e_ap_2) (kR rfl) hP hD hS [0, 4, 1] [2, 3, 5] rfl rfl rfl rfl (by decide) 0 11 rfl rfl rfl hl.1 rfl (Nat.le_of_ble_eq_true rfl) dX11_count_155 (fun rr10 uu11 H locs hw9 hP hD hS => ?_)
    obtain rfl : rr10 = 0 := hw9
    have hP : va_P G.1 vwCl [(ar, .inr (8, ofL 5 Far)), (ah, .inr (3, ofL 12 Fah)), (arf, .inl (G.2.1, 3, .inl (fun _ => 0))), (h0, .inr (11, ofL 17 Fh0)), (ad, .inr (1, ofL 10 Fad)), (ap, .inr (7, ofL 5 Fap))] H := hP
    have hD : va_D A [(ar, .inr (8, ofL 5 Far)), (ah, .inr (3, ofL 12 Fah)), (arf, .inl (G.2.1, 3, .inl (fun _ => 0))), (h0, .inr (11, ofL 17 Fh0)), (ad, .inr (1, ofL 10 Fad)), (ap, .inr (7, ofL 5 Fap))] := hD
    exact vx_ret (k_iret C hr hlk hP hD hS 7 (Or.inr (Or.inr (Or.inr (Or.inr (Or.inr (Or.inr (Or.inr (Or.inl ⟨rfl, rfl, c_7, c_8, rfl⟩)))))))) [0, 1, 2, 3, 4, 5] rfl rfl (Nat.le_of_ble_eq_true rfl) (Nat.le_of_ble_eq_true rfl) dX11_count_158)
  ·
    refine lv_tableIn (off := 120) (tgt := 127) hx hb dX11_count_7 (by decide) (by decide) (by decide) (by decide) ?_
    refine lv_aload_n hx hb dX11_count_127 rfl (lv_at hl 0 rfl) ?_
    refine k_get (v := .int 0) fl_X11_87 C hP 0 rfl e_h0_13 dX11_count_128 ?_
    exact vx_ret (k_iret C hr hlk hP hD hS 8 (Or.inr (Or.inr (Or.inr (Or.inr (Or.inr (Or.inr (Or.inr (Or.inr (Or.inl ⟨rfl, rfl, c_7, c_8, rfl⟩))))))))) [0, 1, 2, 3, 4, 5] rfl rfl (Nat.le_of_ble_eq_true rfl) (Nat.le_of_ble_eq_true rfl) dX11_count_131)
  ·
    refine lv_tableIn (off := 125) (tgt := 132) hx hb dX11_count_7 (by decide) (by decide) (by decide) (by decide) ?_
    refine lv_aload_n hx hb dX11_count_132 rfl (lv_at hl 0 rfl) ?_
    refine k_get (v := .ref arf) fl_X11_13 C hP 0 rfl e_h0_1 dX11_count_133 ?_
    refine lv_iconst (v := 0) hx hb dX11_count_136 (by decide) ?_
    refine k_iald C hP 5 rfl (k_in (by decide)) dX11_count_137 ?_
    refine k_eqi (y := 0) rfl ?_
    exact vx_ret (k_iret C hr hlk hP hD hS 9 (Or.inr (Or.inr (Or.inr (Or.inr (Or.inr (Or.inr (Or.inr (Or.inr (Or.inr (Or.inl ⟨rfl, rfl, c_7, c_8, rfl⟩)))))))))) [0, 1, 2, 3, 4, 5] rfl rfl (Nat.le_of_ble_eq_true rfl) (Nat.le_of_ble_eq_true rfl) dX11_count_138)
  ·
    refine lv_tableIn (off := 132) (tgt := 139) hx hb dX11_count_7 (by decide) (by decide) (by decide) (by decide) ?_
    refine lv_aload_n hx hb dX11_count_139 rfl (lv_at hl 0 rfl) ?_
    refine k_get (v := .ref arf) fl_X11_13 C hP 0 rfl e_h0_1 dX11_count_140 ?_
    refine lv_iconst (v := 1) hx hb dX11_count_143 (by decide) ?_
    refine k_iald C hP 5 rfl (k_in (by decide)) dX11_count_144 ?_
    refine k_eqi (y := 0) rfl ?_
    exact vx_ret (k_iret C hr hlk hP hD hS 10 (Or.inr (Or.inr (Or.inr (Or.inr (Or.inr (Or.inr (Or.inr (Or.inr (Or.inr (Or.inr (Or.inl ⟨rfl, rfl, c_7, c_8, rfl⟩))))))))))) [0, 1, 2, 3, 4, 5] rfl rfl (Nat.le_of_ble_eq_true rfl) (Nat.le_of_ble_eq_true rfl) dX11_count_145)
  ·
    refine lv_tableIn (off := 139) (tgt := 146) hx hb dX11_count_7 (by decide) (by decide) (by decide) (by decide) ?_
    refine lv_aload_n hx hb dX11_count_146 rfl (lv_at hl 0 rfl) ?_
    refine k_get (v := .ref arf) fl_X11_13 C hP 0 rfl e_h0_1 dX11_count_147 ?_
    refine lv_iconst (v := 2) hx hb dX11_count_150 (by decide) ?_
    refine k_iald C hP 5 rfl (k_in (by decide)) dX11_count_151 ?_
    refine k_eqi (y := 0) rfl ?_
    exact vx_ret (k_iret C hr hlk hP hD hS 11 (Or.inr (Or.inr (Or.inr (Or.inr (Or.inr (Or.inr (Or.inr (Or.inr (Or.inr (Or.inr (Or.inr (Or.inl ⟨rfl, rfl, c_7, c_8, rfl⟩)))))))))))) [0, 1, 2, 3, 4, 5] rfl rfl (Nat.le_of_ble_eq_true rfl) (Nat.le_of_ble_eq_true rfl) dX11_count_152)
  ·
    refine lv_tableOut (tgt := 153) hx hb dX11_count_7 (by decide) (by decide) ?_
    refine lv_aload_n hx hb dX11_count_153 rfl (lv_at hl 0 rfl) ?_
    refine lv_iload_n hx hb dX11_count_154 rfl (lv_at hl 1 rfl) ?_
    refine k_callVi (wr := [(ar, .inr (8, ofL 5 Far)), (ah, .inr (3, ofL 12 Fah)), (arf, .inl (G.2.1, 3, .inl (fun _ => 0)))]) (rest := []) li_X11_152 C (c_X11_countOfDay12 l G H.size h0 Fh0 ad Fad ap Fap e_h0_8 e_ad_7 e_ap_2) (kR rfl) hP hD hS [0, 4, 1] [2, 3, 5] rfl rfl rfl rfl (by decide) 0 11 rfl rfl rfl hl.1 rfl (Nat.le_of_ble_eq_true rfl) dX11_count_155 (fun rr13 uu14 H locs hw12 hP hD hS => ?_)
    obtain rfl : rr13 = 0 := hw12
    have hP : va_P G.1 vwCl [(ar, .inr (8, ofL 5 Far)), (ah, .inr (3, ofL 12 Fah)), (arf, .inl (G.2.1, 3, .inl (fun _ => 0))), (h0, .inr (11, ofL 17 Fh0)), (ad, .inr (1, ofL 10 Fad)), (ap, .inr (7, ofL 5 Fap))] H := hP
    have hD : va_D A [(ar, .inr (8, ofL 5 Far)), (ah, .inr (3, ofL 12 Fah)), (arf, .inl (G.2.1, 3, .inl (fun _ => 0))), (h0, .inr (11, ofL 17 Fh0)), (ad, .inr (1, ofL 10 Fad)), (ap, .inr (7, ofL 5 Fap))] := hD
    exact vx_ret (k_iret C hr hlk hP hD hS 12 (Or.inr (Or.inr (Or.inr (Or.inr (Or.inr (Or.inr (Or.inr (Or.inr (Or.inr (Or.inr (Or.inr (Or.inr (Or.inl ⟨rfl, rfl, c_7, c_8, rfl⟩))))))))))))) [0, 1, 2, 3, 4, 5] rfl rfl (Nat.le_of_ble_eq_true rfl) (Nat.le_of_ble_eq_true rfl) dX11_count_158)
  ·
    refine lv_tableOut (tgt := 153) hx hb dX11_count_7 (by decide) (by decide) ?_
    refine lv_aload_n hx hb dX11_count_153 rfl (lv_at hl 0 rfl) ?_
    refine lv_iload_n hx hb dX11_count_154 rfl (lv_at hl 1 rfl) ?_
    refine k_callVi (wr := [(ar, .inr (8, ofL 5 Far)), (ah, .inr (3, ofL 12 Fah)), (arf, .inl (G.2.1, 3, .inl (fun _ => 0)))]) (rest := []) li_X11_152 C (c_X11_countOfDay13 l G H.size h0 Fh0 ad Fad ap Fap e_h0_8 e_ad_7 e_ap_2) (kR rfl) hP hD hS [0, 4, 1] [2, 3, 5] rfl rfl rfl rfl (by decide) 0 11 rfl rfl rfl hl.1 rfl (Nat.le_of_ble_eq_true rfl) dX11_count_155 (fun rr16 uu17 H locs hw15 hP hD hS => ?_)
    obtain rfl : rr16 = 0 := hw15
    have hP : va_P G.1 vwCl [(ar, .inr (8, ofL 5 Far)), (ah, .inr (3, ofL 12 Fah)), (arf, .inl (G.2.1, 3, .inl (fun _ => 0))), (h0, .inr (11, ofL 17 Fh0)), (ad, .inr (1, ofL 10 Fad)), (ap, .inr (7, ofL 5 Fap))] H := hP
    have hD : va_D A [(ar, .inr (8, ofL 5 Far)), (ah, .inr (3, ofL 12 Fah)), (arf, .inl (G.2.1, 3, .inl (fun _ => 0))), (h0, .inr (11, ofL 17 Fh0)), (ad, .inr (1, ofL 10 Fad)), (ap, .inr (7, ofL 5 Fap))] := hD
    exact vx_ret (k_iret C hr hlk hP hD hS 13 (Or.inr (Or.inr (Or.inr (Or.inr (Or.inr (Or.inr (Or.inr (Or.inr (Or.inr (Or.inr (Or.inr (Or.inr (Or.inr (Or.inl ⟨rfl, rfl, c_7, c_8, rfl⟩)))))))))))))) [0, 1, 2, 3, 4, 5] rfl rfl (Nat.le_of_ble_eq_true rfl) (Nat.le_of_ble_eq_true rfl) dX11_count_158)
  ·
    refine lv_tableOut (tgt := 153) hx hb dX11_count_7 (by decide) (by decide) ?_
    refine lv_aload_n hx hb dX11_count_153 rfl (lv_at hl 0 rfl) ?_
    refine lv_iload_n hx hb dX11_count_154 rfl (lv_at hl 1 rfl) ?_
    refine k_callVi (wr := [(ar, .inr (8, ofL 5 Far)), (ah, .inr (3, ofL 12 Fah)), (arf, .inl (G.2.1, 3, .inl (fun _ => 0)))]) (rest := []) li_X11_152 C (c_X11_countOfDay14 l G H.size h0 Fh0 ad Fad ap Fap e_h0_8 e_ad_7 e_ap_2) (kR rfl) hP hD hS [0, 4, 1] [2, 3, 5] rfl rfl rfl rfl (by decide) 0 11 rfl rfl rfl hl.1 rfl (Nat.le_of_ble_eq_true rfl) dX11_count_155 (fun rr19 uu20 H locs hw18 hP hD hS => ?_)
    obtain rfl : rr19 = 0 := hw18
    have hP : va_P G.1 vwCl [(ar, .inr (8, ofL 5 Far)), (ah, .inr (3, ofL 12 Fah)), (arf, .inl (G.2.1, 3, .inl (fun _ => 0))), (h0, .inr (11, ofL 17 Fh0)), (ad, .inr (1, ofL 10 Fad)), (ap, .inr (7, ofL 5 Fap))] H := hP
    have hD : va_D A [(ar, .inr (8, ofL 5 Far)), (ah, .inr (3, ofL 12 Fah)), (arf, .inl (G.2.1, 3, .inl (fun _ => 0))), (h0, .inr (11, ofL 17 Fh0)), (ad, .inr (1, ofL 10 Fad)), (ap, .inr (7, ofL 5 Fap))] := hD
    exact vx_ret (k_iret C hr hlk hP hD hS 14 (Or.inr (Or.inr (Or.inr (Or.inr (Or.inr (Or.inr (Or.inr (Or.inr (Or.inr (Or.inr (Or.inr (Or.inr (Or.inr (Or.inr (⟨rfl, rfl, c_7, c_8, rfl⟩))))))))))))))) [0, 1, 2, 3, 4, 5] rfl rfl (Nat.le_of_ble_eq_true rfl) (Nat.le_of_ble_eq_true rfl) dX11_count_158)
set_option maxHeartbeats 4000000 in
set_option maxRecDepth 100000 in
theorem c_X11_lesson (l : Launch) (hst : l.stackTraces = false) (G : kG) (sz : Nat) (h0 : Nat) (n0 : Int32) (n1 : Int32) (Fh0 : Nat → Value) (ap : Nat) (Fap : Nat → Value) (e_h0_3 : Fh0 3 = .ref ap) (e_ap_2 : Fap 2 = .int 0) : kMX l yX11_lesson cX11_lesson 4 (some .int) { frames := 7, cells := 1, slots := 6, locals := 131 } G [.ref h0, .int n0, .int n1] [(h0, .inr (11, ofL 17 Fh0)), (ap, .inr (7, ofL 5 Fap))] sz (kQi G (S := Unit) (fun r (_ : Unit) => False) (fun _ => [])) (kXC G (S := Nat) (fun E u => (u = 0 ∧ E = "java/util/NoSuchElementException" ∧ n0 < 0) ∨ (u = 1 ∧ E = "java/util/NoSuchElementException" ∧ ¬ n0 < 0)) (fun u => match u with | 0 => [(h0, .inr (11, ofL 17 Fh0)), (ap, .inr (7, ofL 5 Fap))] | _ => [(h0, .inr (11, ofL 17 Fh0)), (ap, .inr (7, ofL 5 Fap))])) := by
  refine kMX.of (by decide) (Nat.le_of_ble_eq_true rfl) ?_
  intro p e s m below meth c A ls H C hr hlk hno hP hD hS hl
  have C : kC G p s m c cX11_lesson 4 RX11 A := C
  have hx := C.1
  have hb := C.2.1
  have hl : lv_has ls 4 [(0, .ref h0), (1, .int n0), (2, .int n1)] := hl
  refine lv_aload_n hx hb dX11_lesson_0 rfl (lv_at hl 0 rfl) ?_
  refine lv_iload_n hx hb dX11_lesson_1 rfl (lv_at hl 1 rfl) ?_
  refine k_xcallVv (wr := []) (rest := []) li_X11_156 C (c_X11_needLesson l hst G H.size h0 n0 Fh0 ap Fap e_h0_3 e_ap_2) (kR rfl) hP hD hS [0, 1] [] rfl rfl rfl rfl (by decide) 0 11 rfl rfl rfl hl.1 rfl (Nat.le_of_ble_eq_true rfl) dX11_lesson_2 (fun E ce q9 uu3 H locs hw1 hP hD hS hc1 hc2 hc3 => ?_) (fun uu3 H locs hw1 hP hD hS => ?_)
  ·
    rcases hw1 with ⟨rfl, rfl, c_4⟩ | ⟨rfl, rfl, c_5⟩
    ·
      have hP : va_P G.1 vwCl [(h0, .inr (11, ofL 17 Fh0)), (ap, .inr (7, ofL 5 Fap))] H := hP
      have hD : va_D A [(h0, .inr (11, ofL 17 Fh0)), (ap, .inr (7, ofL 5 Fap))] := hD
      exact k_xout hno hlk hP hD hS hc1 hc2 hc3 0 (Or.inl ⟨rfl, rfl, c_4⟩) [0, 1] rfl rfl (Nat.le_of_ble_eq_true rfl) (Nat.le_of_ble_eq_true rfl)
    ·
      have hP : va_P G.1 vwCl [(h0, .inr (11, ofL 17 Fh0)), (ap, .inr (7, ofL 5 Fap))] H := hP
      have hD : va_D A [(h0, .inr (11, ofL 17 Fh0)), (ap, .inr (7, ofL 5 Fap))] := hD
      exact k_xout hno hlk hP hD hS hc1 hc2 hc3 1 (Or.inr (⟨rfl, rfl, c_5⟩)) [0, 1] rfl rfl (Nat.le_of_ble_eq_true rfl) (Nat.le_of_ble_eq_true rfl)
  · exact hw1.elim
set_option maxHeartbeats 4000000 in
set_option maxRecDepth 100000 in
theorem c_X11_day (l : Launch) (hst : l.stackTraces = false) (G : kG) (sz : Nat) (h0 : Nat) (n0 : Int32) (n1 : Int32) (Fh0 : Nat → Value) (ap : Nat) (Fap : Nat → Value) (e_h0_3 : Fh0 3 = .ref ap) (e_ap_2 : Fap 2 = .int 0) : kMX l yX11_day cX11_day 3 (some .int) { frames := 7, cells := 1, slots := 6, locals := 131 } G [.ref h0, .int n0, .int n1] [(h0, .inr (11, ofL 17 Fh0)), (ap, .inr (7, ofL 5 Fap))] sz (kQi G (S := Unit) (fun r (_ : Unit) => False) (fun _ => [])) (kXC G (S := Nat) (fun E u => (u = 0 ∧ E = "java/util/NoSuchElementException" ∧ n0 < 0) ∨ (u = 1 ∧ E = "java/util/NoSuchElementException" ∧ ¬ n0 < 0)) (fun u => match u with | 0 => [(h0, .inr (11, ofL 17 Fh0)), (ap, .inr (7, ofL 5 Fap))] | _ => [(h0, .inr (11, ofL 17 Fh0)), (ap, .inr (7, ofL 5 Fap))])) := by
  refine kMX.of (by decide) (Nat.le_of_ble_eq_true rfl) ?_
  intro p e s m below meth c A ls H C hr hlk hno hP hD hS hl
  have C : kC G p s m c cX11_day 3 RX11 A := C
  have hx := C.1
  have hb := C.2.1
  have hl : lv_has ls 3 [(0, .ref h0), (1, .int n0), (2, .int n1)] := hl
  refine lv_aload_n hx hb dX11_day_0 rfl (lv_at hl 0 rfl) ?_
  refine lv_iload_n hx hb dX11_day_1 rfl (lv_at hl 1 rfl) ?_
  refine k_xcallVv (wr := []) (rest := []) li_X11_156 C (c_X11_needLesson l hst G H.size h0 n0 Fh0 ap Fap e_h0_3 e_ap_2) (kR rfl) hP hD hS [0, 1] [] rfl rfl rfl rfl (by decide) 0 11 rfl rfl rfl hl.1 rfl (Nat.le_of_ble_eq_true rfl) dX11_day_2 (fun E ce q9 uu3 H locs hw1 hP hD hS hc1 hc2 hc3 => ?_) (fun uu3 H locs hw1 hP hD hS => ?_)
  ·
    rcases hw1 with ⟨rfl, rfl, c_4⟩ | ⟨rfl, rfl, c_5⟩
    ·
      have hP : va_P G.1 vwCl [(h0, .inr (11, ofL 17 Fh0)), (ap, .inr (7, ofL 5 Fap))] H := hP
      have hD : va_D A [(h0, .inr (11, ofL 17 Fh0)), (ap, .inr (7, ofL 5 Fap))] := hD
      exact k_xout hno hlk hP hD hS hc1 hc2 hc3 0 (Or.inl ⟨rfl, rfl, c_4⟩) [0, 1] rfl rfl (Nat.le_of_ble_eq_true rfl) (Nat.le_of_ble_eq_true rfl)
    ·
      have hP : va_P G.1 vwCl [(h0, .inr (11, ofL 17 Fh0)), (ap, .inr (7, ofL 5 Fap))] H := hP
      have hD : va_D A [(h0, .inr (11, ofL 17 Fh0)), (ap, .inr (7, ofL 5 Fap))] := hD
      exact k_xout hno hlk hP hD hS hc1 hc2 hc3 1 (Or.inr (⟨rfl, rfl, c_5⟩)) [0, 1] rfl rfl (Nat.le_of_ble_eq_true rfl) (Nat.le_of_ble_eq_true rfl)
  · exact hw1.elim
set_option maxHeartbeats 4000000 in
set_option maxRecDepth 100000 in
theorem c_X11_chain (l : Launch) (hst : l.stackTraces = false) (G : kG) (sz : Nat) (h0 : Nat) (n0 : Int32) (n1 : Int32) (Fh0 : Nat → Value) (ap : Nat) (Fap : Nat → Value) (e_h0_3 : Fh0 3 = .ref ap) (e_ap_2 : Fap 2 = .int 0) : kMX l yX11_chain cX11_chain 5 (some .int) { frames := 7, cells := 1, slots := 6, locals := 131 } G [.ref h0, .int n0, .int n1] [(h0, .inr (11, ofL 17 Fh0)), (ap, .inr (7, ofL 5 Fap))] sz (kQi G (S := Unit) (fun r (_ : Unit) => False) (fun _ => [])) (kXC G (S := Nat) (fun E u => (u = 0 ∧ E = "java/util/NoSuchElementException" ∧ n0 < 0) ∨ (u = 1 ∧ E = "java/util/NoSuchElementException" ∧ ¬ n0 < 0)) (fun u => match u with | 0 => [(h0, .inr (11, ofL 17 Fh0)), (ap, .inr (7, ofL 5 Fap))] | _ => [(h0, .inr (11, ofL 17 Fh0)), (ap, .inr (7, ofL 5 Fap))])) := by
  refine kMX.of (by decide) (Nat.le_of_ble_eq_true rfl) ?_
  intro p e s m below meth c A ls H C hr hlk hno hP hD hS hl
  have C : kC G p s m c cX11_chain 5 RX11 A := C
  have hx := C.1
  have hb := C.2.1
  have hl : lv_has ls 5 [(0, .ref h0), (1, .int n0), (2, .int n1)] := hl
  refine lv_aload_n hx hb dX11_chain_0 rfl (lv_at hl 0 rfl) ?_
  refine lv_iload_n hx hb dX11_chain_1 rfl (lv_at hl 1 rfl) ?_
  refine k_xcallVv (wr := []) (rest := []) li_X11_156 C (c_X11_needLesson l hst G H.size h0 n0 Fh0 ap Fap e_h0_3 e_ap_2) (kR rfl) hP hD hS [0, 1] [] rfl rfl rfl rfl (by decide) 0 11 rfl rfl rfl hl.1 rfl (Nat.le_of_ble_eq_true rfl) dX11_chain_2 (fun E ce q9 uu3 H locs hw1 hP hD hS hc1 hc2 hc3 => ?_) (fun uu3 H locs hw1 hP hD hS => ?_)
  ·
    rcases hw1 with ⟨rfl, rfl, c_4⟩ | ⟨rfl, rfl, c_5⟩
    ·
      have hP : va_P G.1 vwCl [(h0, .inr (11, ofL 17 Fh0)), (ap, .inr (7, ofL 5 Fap))] H := hP
      have hD : va_D A [(h0, .inr (11, ofL 17 Fh0)), (ap, .inr (7, ofL 5 Fap))] := hD
      exact k_xout hno hlk hP hD hS hc1 hc2 hc3 0 (Or.inl ⟨rfl, rfl, c_4⟩) [0, 1] rfl rfl (Nat.le_of_ble_eq_true rfl) (Nat.le_of_ble_eq_true rfl)
    ·
      have hP : va_P G.1 vwCl [(h0, .inr (11, ofL 17 Fh0)), (ap, .inr (7, ofL 5 Fap))] H := hP
      have hD : va_D A [(h0, .inr (11, ofL 17 Fh0)), (ap, .inr (7, ofL 5 Fap))] := hD
      exact k_xout hno hlk hP hD hS hc1 hc2 hc3 1 (Or.inr (⟨rfl, rfl, c_5⟩)) [0, 1] rfl rfl (Nat.le_of_ble_eq_true rfl) (Nat.le_of_ble_eq_true rfl)
  · exact hw1.elim
set_option maxHeartbeats 4000000 in
set_option maxRecDepth 100000 in
theorem c_X11_become (l : Launch) (hst : l.stackTraces = false) (G : kG) (sz : Nat) (h0 : Nat) (n0 : Int32) (n1 : Int32) (n2 : Int32) (Fh0 : Nat → Value) (ap : Nat) (Fap : Nat → Value) (e_h0_3 : Fh0 3 = .ref ap) (e_ap_2 : Fap 2 = .int 0) : kMX l yX11_become cX11_become 5 (some .int) { frames := 7, cells := 1, slots := 6, locals := 131 } G [.ref h0, .int n0, .int n1, .int n2] [(h0, .inr (11, ofL 17 Fh0)), (ap, .inr (7, ofL 5 Fap))] sz (kQi G (S := Unit) (fun r (_ : Unit) => False) (fun _ => [])) (kXC G (S := Nat) (fun E u => (u = 0 ∧ E = "java/util/NoSuchElementException" ∧ n0 < 0) ∨ (u = 1 ∧ E = "java/util/NoSuchElementException" ∧ ¬ n0 < 0)) (fun u => match u with | 0 => [(h0, .inr (11, ofL 17 Fh0)), (ap, .inr (7, ofL 5 Fap))] | _ => [(h0, .inr (11, ofL 17 Fh0)), (ap, .inr (7, ofL 5 Fap))])) := by
  refine kMX.of (by decide) (Nat.le_of_ble_eq_true rfl) ?_
  intro p e s m below meth c A ls H C hr hlk hno hP hD hS hl
  have C : kC G p s m c cX11_become 5 RX11 A := C
  have hx := C.1
  have hb := C.2.1
  have hl : lv_has ls 5 [(0, .ref h0), (1, .int n0), (2, .int n1), (3, .int n2)] := hl
  refine lv_aload_n hx hb dX11_become_0 rfl (lv_at hl 0 rfl) ?_
  refine lv_iload_n hx hb dX11_become_1 rfl (lv_at hl 1 rfl) ?_
  refine k_xcallVv (wr := []) (rest := []) li_X11_156 C (c_X11_needLesson l hst G H.size h0 n0 Fh0 ap Fap e_h0_3 e_ap_2) (kR rfl) hP hD hS [0, 1] [] rfl rfl rfl rfl (by decide) 0 11 rfl rfl rfl hl.1 rfl (Nat.le_of_ble_eq_true rfl) dX11_become_2 (fun E ce q9 uu3 H locs hw1 hP hD hS hc1 hc2 hc3 => ?_) (fun uu3 H locs hw1 hP hD hS => ?_)
  ·
    rcases hw1 with ⟨rfl, rfl, c_4⟩ | ⟨rfl, rfl, c_5⟩
    ·
      have hP : va_P G.1 vwCl [(h0, .inr (11, ofL 17 Fh0)), (ap, .inr (7, ofL 5 Fap))] H := hP
      have hD : va_D A [(h0, .inr (11, ofL 17 Fh0)), (ap, .inr (7, ofL 5 Fap))] := hD
      exact k_xout hno hlk hP hD hS hc1 hc2 hc3 0 (Or.inl ⟨rfl, rfl, c_4⟩) [0, 1] rfl rfl (Nat.le_of_ble_eq_true rfl) (Nat.le_of_ble_eq_true rfl)
    ·
      have hP : va_P G.1 vwCl [(h0, .inr (11, ofL 17 Fh0)), (ap, .inr (7, ofL 5 Fap))] H := hP
      have hD : va_D A [(h0, .inr (11, ofL 17 Fh0)), (ap, .inr (7, ofL 5 Fap))] := hD
      exact k_xout hno hlk hP hD hS hc1 hc2 hc3 1 (Or.inr (⟨rfl, rfl, c_5⟩)) [0, 1] rfl rfl (Nat.le_of_ble_eq_true rfl) (Nat.le_of_ble_eq_true rfl)
  · exact hw1.elim
set_option maxHeartbeats 4000000 in
set_option maxRecDepth 100000 in
theorem c_X11_far (l : Launch) (hst : l.stackTraces = false) (G : kG) (sz : Nat) (h0 : Nat) (n0 : Int32) (n1 : Int32) (n2 : Int32) (Fh0 : Nat → Value) (ap : Nat) (Fap : Nat → Value) (e_h0_3 : Fh0 3 = .ref ap) (e_ap_2 : Fap 2 = .int 0) : kMX l yX11_far cX11_far 4 (some .int) { frames := 7, cells := 1, slots := 6, locals := 131 } G [.ref h0, .int n0, .int n1, .int n2] [(h0, .inr (11, ofL 17 Fh0)), (ap, .inr (7, ofL 5 Fap))] sz (kQi G (S := Unit) (fun r (_ : Unit) => False) (fun _ => [])) (kXC G (S := Nat) (fun E u => (u = 0 ∧ E = "java/util/NoSuchElementException" ∧ n0 < 0) ∨ (u = 1 ∧ E = "java/util/NoSuchElementException" ∧ ¬ n0 < 0)) (fun u => match u with | 0 => [(h0, .inr (11, ofL 17 Fh0)), (ap, .inr (7, ofL 5 Fap))] | _ => [(h0, .inr (11, ofL 17 Fh0)), (ap, .inr (7, ofL 5 Fap))])) := by
  refine kMX.of (by decide) (Nat.le_of_ble_eq_true rfl) ?_
  intro p e s m below meth c A ls H C hr hlk hno hP hD hS hl
  have C : kC G p s m c cX11_far 4 RX11 A := C
  have hx := C.1
  have hb := C.2.1
  have hl : lv_has ls 4 [(0, .ref h0), (1, .int n0), (2, .int n1), (3, .int n2)] := hl
  refine lv_aload_n hx hb dX11_far_0 rfl (lv_at hl 0 rfl) ?_
  refine lv_iload_n hx hb dX11_far_1 rfl (lv_at hl 1 rfl) ?_
  refine k_xcallVv (wr := []) (rest := []) li_X11_156 C (c_X11_needLesson l hst G H.size h0 n0 Fh0 ap Fap e_h0_3 e_ap_2) (kR rfl) hP hD hS [0, 1] [] rfl rfl rfl rfl (by decide) 0 11 rfl rfl rfl hl.1 rfl (Nat.le_of_ble_eq_true rfl) dX11_far_2 (fun E ce q9 uu3 H locs hw1 hP hD hS hc1 hc2 hc3 => ?_) (fun uu3 H locs hw1 hP hD hS => ?_)
  ·
    rcases hw1 with ⟨rfl, rfl, c_4⟩ | ⟨rfl, rfl, c_5⟩
    ·
      have hP : va_P G.1 vwCl [(h0, .inr (11, ofL 17 Fh0)), (ap, .inr (7, ofL 5 Fap))] H := hP
      have hD : va_D A [(h0, .inr (11, ofL 17 Fh0)), (ap, .inr (7, ofL 5 Fap))] := hD
      exact k_xout hno hlk hP hD hS hc1 hc2 hc3 0 (Or.inl ⟨rfl, rfl, c_4⟩) [0, 1] rfl rfl (Nat.le_of_ble_eq_true rfl) (Nat.le_of_ble_eq_true rfl)
    ·
      have hP : va_P G.1 vwCl [(h0, .inr (11, ofL 17 Fh0)), (ap, .inr (7, ofL 5 Fap))] H := hP
      have hD : va_D A [(h0, .inr (11, ofL 17 Fh0)), (ap, .inr (7, ofL 5 Fap))] := hD
      exact k_xout hno hlk hP hD hS hc1 hc2 hc3 1 (Or.inr (⟨rfl, rfl, c_5⟩)) [0, 1] rfl rfl (Nat.le_of_ble_eq_true rfl) (Nat.le_of_ble_eq_true rfl)
  · exact hw1.elim
set_option maxHeartbeats 4000000 in
set_option maxRecDepth 100000 in
theorem c_X11_reaches (l : Launch) (hst : l.stackTraces = false) (G : kG) (sz : Nat) (h0 : Nat) (n0 : Int32) (n1 : Int32) (Fh0 : Nat → Value) (ap : Nat) (Fap : Nat → Value) (e_h0_3 : Fh0 3 = .ref ap) (e_ap_2 : Fap 2 = .int 0) : kMX l yX11_reaches cX11_reaches 3 (some .int) { frames := 7, cells := 1, slots := 6, locals := 131 } G [.ref h0, .int n0, .int n1] [(h0, .inr (11, ofL 17 Fh0)), (ap, .inr (7, ofL 5 Fap))] sz (kQi G (S := Unit) (fun r (_ : Unit) => False) (fun _ => [])) (kXC G (S := Nat) (fun E u => (u = 0 ∧ E = "java/util/NoSuchElementException" ∧ n0 < 0) ∨ (u = 1 ∧ E = "java/util/NoSuchElementException" ∧ ¬ n0 < 0)) (fun u => match u with | 0 => [(h0, .inr (11, ofL 17 Fh0)), (ap, .inr (7, ofL 5 Fap))] | _ => [(h0, .inr (11, ofL 17 Fh0)), (ap, .inr (7, ofL 5 Fap))])) := by
  refine kMX.of (by decide) (Nat.le_of_ble_eq_true rfl) ?_
  intro p e s m below meth c A ls H C hr hlk hno hP hD hS hl
  have C : kC G p s m c cX11_reaches 3 RX11 A := C
  have hx := C.1
  have hb := C.2.1
  have hl : lv_has ls 3 [(0, .ref h0), (1, .int n0), (2, .int n1)] := hl
  refine lv_aload_n hx hb dX11_reaches_0 rfl (lv_at hl 0 rfl) ?_
  refine lv_iload_n hx hb dX11_reaches_1 rfl (lv_at hl 1 rfl) ?_
  refine k_xcallVv (wr := []) (rest := []) li_X11_156 C (c_X11_needLesson l hst G H.size h0 n0 Fh0 ap Fap e_h0_3 e_ap_2) (kR rfl) hP hD hS [0, 1] [] rfl rfl rfl rfl (by decide) 0 11 rfl rfl rfl hl.1 rfl (Nat.le_of_ble_eq_true rfl) dX11_reaches_2 (fun E ce q9 uu3 H locs hw1 hP hD hS hc1 hc2 hc3 => ?_) (fun uu3 H locs hw1 hP hD hS => ?_)
  ·
    rcases hw1 with ⟨rfl, rfl, c_4⟩ | ⟨rfl, rfl, c_5⟩
    ·
      have hP : va_P G.1 vwCl [(h0, .inr (11, ofL 17 Fh0)), (ap, .inr (7, ofL 5 Fap))] H := hP
      have hD : va_D A [(h0, .inr (11, ofL 17 Fh0)), (ap, .inr (7, ofL 5 Fap))] := hD
      exact k_xout hno hlk hP hD hS hc1 hc2 hc3 0 (Or.inl ⟨rfl, rfl, c_4⟩) [0, 1] rfl rfl (Nat.le_of_ble_eq_true rfl) (Nat.le_of_ble_eq_true rfl)
    ·
      have hP : va_P G.1 vwCl [(h0, .inr (11, ofL 17 Fh0)), (ap, .inr (7, ofL 5 Fap))] H := hP
      have hD : va_D A [(h0, .inr (11, ofL 17 Fh0)), (ap, .inr (7, ofL 5 Fap))] := hD
      exact k_xout hno hlk hP hD hS hc1 hc2 hc3 1 (Or.inr (⟨rfl, rfl, c_5⟩)) [0, 1] rfl rfl (Nat.le_of_ble_eq_true rfl) (Nat.le_of_ble_eq_true rfl)
  · exact hw1.elim
set_option maxHeartbeats 4000000 in
set_option maxRecDepth 100000 in
theorem c_X11_slack (l : Launch) (hst : l.stackTraces = false) (G : kG) (sz : Nat) (h0 : Nat) (n0 : Int32) (Fh0 : Nat → Value) (ap : Nat) (Fap : Nat → Value) (e_h0_3 : Fh0 3 = .ref ap) (e_ap_2 : Fap 2 = .int 0) : kMX l yX11_slack cX11_slack 2 (some .int) { frames := 7, cells := 1, slots := 6, locals := 131 } G [.ref h0, .int n0] [(h0, .inr (11, ofL 17 Fh0)), (ap, .inr (7, ofL 5 Fap))] sz (kQi G (S := Unit) (fun r (_ : Unit) => False) (fun _ => [])) (kXC G (S := Nat) (fun E u => (u = 0 ∧ E = "java/util/NoSuchElementException" ∧ n0 < 0) ∨ (u = 1 ∧ E = "java/util/NoSuchElementException" ∧ ¬ n0 < 0)) (fun u => match u with | 0 => [(h0, .inr (11, ofL 17 Fh0)), (ap, .inr (7, ofL 5 Fap))] | _ => [(h0, .inr (11, ofL 17 Fh0)), (ap, .inr (7, ofL 5 Fap))])) := by
  refine kMX.of (by decide) (Nat.le_of_ble_eq_true rfl) ?_
  intro p e s m below meth c A ls H C hr hlk hno hP hD hS hl
  have C : kC G p s m c cX11_slack 2 RX11 A := C
  have hx := C.1
  have hb := C.2.1
  have hl : lv_has ls 2 [(0, .ref h0), (1, .int n0)] := hl
  refine lv_aload_n hx hb dX11_slack_0 rfl (lv_at hl 0 rfl) ?_
  refine lv_iload_n hx hb dX11_slack_1 rfl (lv_at hl 1 rfl) ?_
  refine k_xcallVv (wr := []) (rest := []) li_X11_156 C (c_X11_needLesson l hst G H.size h0 n0 Fh0 ap Fap e_h0_3 e_ap_2) (kR rfl) hP hD hS [0, 1] [] rfl rfl rfl rfl (by decide) 0 11 rfl rfl rfl hl.1 rfl (Nat.le_of_ble_eq_true rfl) dX11_slack_2 (fun E ce q9 uu3 H locs hw1 hP hD hS hc1 hc2 hc3 => ?_) (fun uu3 H locs hw1 hP hD hS => ?_)
  ·
    rcases hw1 with ⟨rfl, rfl, c_4⟩ | ⟨rfl, rfl, c_5⟩
    ·
      have hP : va_P G.1 vwCl [(h0, .inr (11, ofL 17 Fh0)), (ap, .inr (7, ofL 5 Fap))] H := hP
      have hD : va_D A [(h0, .inr (11, ofL 17 Fh0)), (ap, .inr (7, ofL 5 Fap))] := hD
      exact k_xout hno hlk hP hD hS hc1 hc2 hc3 0 (Or.inl ⟨rfl, rfl, c_4⟩) [0, 1] rfl rfl (Nat.le_of_ble_eq_true rfl) (Nat.le_of_ble_eq_true rfl)
    ·
      have hP : va_P G.1 vwCl [(h0, .inr (11, ofL 17 Fh0)), (ap, .inr (7, ofL 5 Fap))] H := hP
      have hD : va_D A [(h0, .inr (11, ofL 17 Fh0)), (ap, .inr (7, ofL 5 Fap))] := hD
      exact k_xout hno hlk hP hD hS hc1 hc2 hc3 1 (Or.inr (⟨rfl, rfl, c_5⟩)) [0, 1] rfl rfl (Nat.le_of_ble_eq_true rfl) (Nat.le_of_ble_eq_true rfl)
  · exact hw1.elim
set_option maxHeartbeats 4000000 in
set_option maxRecDepth 100000 in
theorem c_X11_gaps (l : Launch) (hst : l.stackTraces = false) (G : kG) (sz : Nat) (h0 : Nat) (n0 : Int32) (n1 : Int32) (n2 : Int32) (Fh0 : Nat → Value) (ap : Nat) (Fap : Nat → Value) (e_h0_3 : Fh0 3 = .ref ap) (e_ap_2 : Fap 2 = .int 0) : kMX l yX11_gaps cX11_gaps 5 (some .int) { frames := 7, cells := 1, slots := 6, locals := 131 } G [.ref h0, .int n0, .int n1, .int n2] [(h0, .inr (11, ofL 17 Fh0)), (ap, .inr (7, ofL 5 Fap))] sz (kQi G (S := Unit) (fun r (_ : Unit) => False) (fun _ => [])) (kXC G (S := Nat) (fun E u => (u = 0 ∧ E = "java/util/NoSuchElementException" ∧ n1 < 0) ∨ (u = 1 ∧ E = "java/util/NoSuchElementException" ∧ ¬ n1 < 0)) (fun u => match u with | 0 => [(h0, .inr (11, ofL 17 Fh0)), (ap, .inr (7, ofL 5 Fap))] | _ => [(h0, .inr (11, ofL 17 Fh0)), (ap, .inr (7, ofL 5 Fap))])) := by
  refine kMX.of (by decide) (Nat.le_of_ble_eq_true rfl) ?_
  intro p e s m below meth c A ls H C hr hlk hno hP hD hS hl
  have C : kC G p s m c cX11_gaps 5 RX11 A := C
  have hx := C.1
  have hb := C.2.1
  have hl : lv_has ls 5 [(0, .ref h0), (1, .int n0), (2, .int n1), (3, .int n2)] := hl
  refine lv_aload_n hx hb dX11_gaps_0 rfl (lv_at hl 0 rfl) ?_
  refine lv_iload_n hx hb dX11_gaps_1 rfl (lv_at hl 2 rfl) ?_
  refine k_xcallVv (wr := []) (rest := []) li_X11_156 C (c_X11_needLesson l hst G H.size h0 n1 Fh0 ap Fap e_h0_3 e_ap_2) (kR rfl) hP hD hS [0, 1] [] rfl rfl rfl rfl (by decide) 0 11 rfl rfl rfl hl.1 rfl (Nat.le_of_ble_eq_true rfl) dX11_gaps_2 (fun E ce q9 uu3 H locs hw1 hP hD hS hc1 hc2 hc3 => ?_) (fun uu3 H locs hw1 hP hD hS => ?_)
  ·
    rcases hw1 with ⟨rfl, rfl, c_4⟩ | ⟨rfl, rfl, c_5⟩
    ·
      have hP : va_P G.1 vwCl [(h0, .inr (11, ofL 17 Fh0)), (ap, .inr (7, ofL 5 Fap))] H := hP
      have hD : va_D A [(h0, .inr (11, ofL 17 Fh0)), (ap, .inr (7, ofL 5 Fap))] := hD
      exact k_xout hno hlk hP hD hS hc1 hc2 hc3 0 (Or.inl ⟨rfl, rfl, c_4⟩) [0, 1] rfl rfl (Nat.le_of_ble_eq_true rfl) (Nat.le_of_ble_eq_true rfl)
    ·
      have hP : va_P G.1 vwCl [(h0, .inr (11, ofL 17 Fh0)), (ap, .inr (7, ofL 5 Fap))] H := hP
      have hD : va_D A [(h0, .inr (11, ofL 17 Fh0)), (ap, .inr (7, ofL 5 Fap))] := hD
      exact k_xout hno hlk hP hD hS hc1 hc2 hc3 1 (Or.inr (⟨rfl, rfl, c_5⟩)) [0, 1] rfl rfl (Nat.le_of_ble_eq_true rfl) (Nat.le_of_ble_eq_true rfl)
  · exact hw1.elim
set_option maxHeartbeats 4000000 in
set_option maxRecDepth 100000 in
theorem c_X11_gap (l : Launch) (hst : l.stackTraces = false) (G : kG) (sz : Nat) (h0 : Nat) (n0 : Int32) (Fh0 : Nat → Value) (ap : Nat) (Fap : Nat → Value) (e_h0_3 : Fh0 3 = .ref ap) (e_ap_2 : Fap 2 = .int 0) : kMX l yX11_gap cX11_gap 2 (some .int) { frames := 7, cells := 1, slots := 6, locals := 131 } G [.ref h0, .int n0] [(h0, .inr (11, ofL 17 Fh0)), (ap, .inr (7, ofL 5 Fap))] sz (kQi G (S := Unit) (fun r (_ : Unit) => False) (fun _ => [])) (kXC G (S := Nat) (fun E u => (u = 0 ∧ E = "java/util/NoSuchElementException" ∧ n0 < 0) ∨ (u = 1 ∧ E = "java/util/NoSuchElementException" ∧ ¬ n0 < 0)) (fun u => match u with | 0 => [(h0, .inr (11, ofL 17 Fh0)), (ap, .inr (7, ofL 5 Fap))] | _ => [(h0, .inr (11, ofL 17 Fh0)), (ap, .inr (7, ofL 5 Fap))])) := by
  refine kMX.of (by decide) (Nat.le_of_ble_eq_true rfl) ?_
  intro p e s m below meth c A ls H C hr hlk hno hP hD hS hl
  have C : kC G p s m c cX11_gap 2 RX11 A := C
  have hx := C.1
  have hb := C.2.1
  have hl : lv_has ls 2 [(0, .ref h0), (1, .int n0)] := hl
  refine lv_aload_n hx hb dX11_gap_0 rfl (lv_at hl 0 rfl) ?_
  refine lv_iload_n hx hb dX11_gap_1 rfl (lv_at hl 1 rfl) ?_
  refine k_xcallVv (wr := []) (rest := []) li_X11_156 C (c_X11_needLesson l hst G H.size h0 n0 Fh0 ap Fap e_h0_3 e_ap_2) (kR rfl) hP hD hS [0, 1] [] rfl rfl rfl rfl (by decide) 0 11 rfl rfl rfl hl.1 rfl (Nat.le_of_ble_eq_true rfl) dX11_gap_2 (fun E ce q9 uu3 H locs hw1 hP hD hS hc1 hc2 hc3 => ?_) (fun uu3 H locs hw1 hP hD hS => ?_)
  ·
    rcases hw1 with ⟨rfl, rfl, c_4⟩ | ⟨rfl, rfl, c_5⟩
    ·
      have hP : va_P G.1 vwCl [(h0, .inr (11, ofL 17 Fh0)), (ap, .inr (7, ofL 5 Fap))] H := hP
      have hD : va_D A [(h0, .inr (11, ofL 17 Fh0)), (ap, .inr (7, ofL 5 Fap))] := hD
      exact k_xout hno hlk hP hD hS hc1 hc2 hc3 0 (Or.inl ⟨rfl, rfl, c_4⟩) [0, 1] rfl rfl (Nat.le_of_ble_eq_true rfl) (Nat.le_of_ble_eq_true rfl)
    ·
      have hP : va_P G.1 vwCl [(h0, .inr (11, ofL 17 Fh0)), (ap, .inr (7, ofL 5 Fap))] H := hP
      have hD : va_D A [(h0, .inr (11, ofL 17 Fh0)), (ap, .inr (7, ofL 5 Fap))] := hD
      exact k_xout hno hlk hP hD hS hc1 hc2 hc3 1 (Or.inr (⟨rfl, rfl, c_5⟩)) [0, 1] rfl rfl (Nat.le_of_ble_eq_true rfl) (Nat.le_of_ble_eq_true rfl)
  · exact hw1.elim
set_option maxHeartbeats 4000000 in
set_option maxRecDepth 100000 in
theorem c_X11_chance (l : Launch) (hst : l.stackTraces = false) (G : kG) (sz : Nat) (h0 : Nat) (n0 : Int32) (n1 : Int32) (n2 : Int32) (Fh0 : Nat → Value) (ap : Nat) (Fap : Nat → Value) (e_h0_3 : Fh0 3 = .ref ap) (e_ap_2 : Fap 2 = .int 0) : kMX l yX11_chance cX11_chance 4 (some .long) { frames := 7, cells := 1, slots := 6, locals := 131 } G [.ref h0, .int n0, .int n1, .int n2] [(h0, .inr (11, ofL 17 Fh0)), (ap, .inr (7, ofL 5 Fap))] sz (kQl G (S := Unit) (fun r (_ : Unit) => False) (fun _ => [])) (kXC G (S := Nat) (fun E u => (u = 0 ∧ E = "java/util/NoSuchElementException" ∧ n0 < 0) ∨ (u = 1 ∧ E = "java/util/NoSuchElementException" ∧ ¬ n0 < 0)) (fun u => match u with | 0 => [(h0, .inr (11, ofL 17 Fh0)), (ap, .inr (7, ofL 5 Fap))] | _ => [(h0, .inr (11, ofL 17 Fh0)), (ap, .inr (7, ofL 5 Fap))])) := by
  refine kMX.of (by decide) (Nat.le_of_ble_eq_true rfl) ?_
  intro p e s m below meth c A ls H C hr hlk hno hP hD hS hl
  have C : kC G p s m c cX11_chance 4 RX11 A := C
  have hx := C.1
  have hb := C.2.1
  have hl : lv_has ls 4 [(0, .ref h0), (1, .int n0), (2, .int n1), (3, .int n2)] := hl
  refine lv_aload_n hx hb dX11_chance_0 rfl (lv_at hl 0 rfl) ?_
  refine lv_iload_n hx hb dX11_chance_1 rfl (lv_at hl 1 rfl) ?_
  refine k_xcallVv (wr := []) (rest := []) li_X11_156 C (c_X11_needLesson l hst G H.size h0 n0 Fh0 ap Fap e_h0_3 e_ap_2) (kR rfl) hP hD hS [0, 1] [] rfl rfl rfl rfl (by decide) 0 11 rfl rfl rfl hl.1 rfl (Nat.le_of_ble_eq_true rfl) dX11_chance_2 (fun E ce q9 uu3 H locs hw1 hP hD hS hc1 hc2 hc3 => ?_) (fun uu3 H locs hw1 hP hD hS => ?_)
  ·
    rcases hw1 with ⟨rfl, rfl, c_4⟩ | ⟨rfl, rfl, c_5⟩
    ·
      have hP : va_P G.1 vwCl [(h0, .inr (11, ofL 17 Fh0)), (ap, .inr (7, ofL 5 Fap))] H := hP
      have hD : va_D A [(h0, .inr (11, ofL 17 Fh0)), (ap, .inr (7, ofL 5 Fap))] := hD
      exact k_xout hno hlk hP hD hS hc1 hc2 hc3 0 (Or.inl ⟨rfl, rfl, c_4⟩) [0, 1] rfl rfl (Nat.le_of_ble_eq_true rfl) (Nat.le_of_ble_eq_true rfl)
    ·
      have hP : va_P G.1 vwCl [(h0, .inr (11, ofL 17 Fh0)), (ap, .inr (7, ofL 5 Fap))] H := hP
      have hD : va_D A [(h0, .inr (11, ofL 17 Fh0)), (ap, .inr (7, ofL 5 Fap))] := hD
      exact k_xout hno hlk hP hD hS hc1 hc2 hc3 1 (Or.inr (⟨rfl, rfl, c_5⟩)) [0, 1] rfl rfl (Nat.le_of_ble_eq_true rfl) (Nat.le_of_ble_eq_true rfl)
  · exact hw1.elim
set_option maxHeartbeats 4000000 in
set_option maxRecDepth 100000 in
theorem c_X11_mean (l : Launch) (hst : l.stackTraces = false) (G : kG) (sz : Nat) (h0 : Nat) (n0 : Int32) (n1 : Int32) (Fh0 : Nat → Value) (ap : Nat) (Fap : Nat → Value) (e_h0_3 : Fh0 3 = .ref ap) (e_ap_2 : Fap 2 = .int 0) : kMX l yX11_mean cX11_mean 3 (some .long) { frames := 7, cells := 1, slots := 6, locals := 131 } G [.ref h0, .int n0, .int n1] [(h0, .inr (11, ofL 17 Fh0)), (ap, .inr (7, ofL 5 Fap))] sz (kQl G (S := Unit) (fun r (_ : Unit) => False) (fun _ => [])) (kXC G (S := Nat) (fun E u => (u = 0 ∧ E = "java/util/NoSuchElementException" ∧ n0 < 0) ∨ (u = 1 ∧ E = "java/util/NoSuchElementException" ∧ ¬ n0 < 0)) (fun u => match u with | 0 => [(h0, .inr (11, ofL 17 Fh0)), (ap, .inr (7, ofL 5 Fap))] | _ => [(h0, .inr (11, ofL 17 Fh0)), (ap, .inr (7, ofL 5 Fap))])) := by
  refine kMX.of (by decide) (Nat.le_of_ble_eq_true rfl) ?_
  intro p e s m below meth c A ls H C hr hlk hno hP hD hS hl
  have C : kC G p s m c cX11_mean 3 RX11 A := C
  have hx := C.1
  have hb := C.2.1
  have hl : lv_has ls 3 [(0, .ref h0), (1, .int n0), (2, .int n1)] := hl
  refine lv_aload_n hx hb dX11_mean_0 rfl (lv_at hl 0 rfl) ?_
  refine lv_iload_n hx hb dX11_mean_1 rfl (lv_at hl 1 rfl) ?_
  refine k_xcallVv (wr := []) (rest := []) li_X11_156 C (c_X11_needLesson l hst G H.size h0 n0 Fh0 ap Fap e_h0_3 e_ap_2) (kR rfl) hP hD hS [0, 1] [] rfl rfl rfl rfl (by decide) 0 11 rfl rfl rfl hl.1 rfl (Nat.le_of_ble_eq_true rfl) dX11_mean_2 (fun E ce q9 uu3 H locs hw1 hP hD hS hc1 hc2 hc3 => ?_) (fun uu3 H locs hw1 hP hD hS => ?_)
  ·
    rcases hw1 with ⟨rfl, rfl, c_4⟩ | ⟨rfl, rfl, c_5⟩
    ·
      have hP : va_P G.1 vwCl [(h0, .inr (11, ofL 17 Fh0)), (ap, .inr (7, ofL 5 Fap))] H := hP
      have hD : va_D A [(h0, .inr (11, ofL 17 Fh0)), (ap, .inr (7, ofL 5 Fap))] := hD
      exact k_xout hno hlk hP hD hS hc1 hc2 hc3 0 (Or.inl ⟨rfl, rfl, c_4⟩) [0, 1] rfl rfl (Nat.le_of_ble_eq_true rfl) (Nat.le_of_ble_eq_true rfl)
    ·
      have hP : va_P G.1 vwCl [(h0, .inr (11, ofL 17 Fh0)), (ap, .inr (7, ofL 5 Fap))] H := hP
      have hD : va_D A [(h0, .inr (11, ofL 17 Fh0)), (ap, .inr (7, ofL 5 Fap))] := hD
      exact k_xout hno hlk hP hD hS hc1 hc2 hc3 1 (Or.inr (⟨rfl, rfl, c_5⟩)) [0, 1] rfl rfl (Nat.le_of_ble_eq_true rfl) (Nat.le_of_ble_eq_true rfl)
  · exact hw1.elim
set_option maxHeartbeats 4000000 in
set_option maxRecDepth 100000 in
theorem c_X11_room (l : Launch) (hst : l.stackTraces = false) (G : kG) (sz : Nat) (h0 : Nat) (n0 : Int32) (n1 : Int32) (Fh0 : Nat → Value) (ap : Nat) (Fap : Nat → Value) (e_h0_3 : Fh0 3 = .ref ap) (e_ap_2 : Fap 2 = .int 0) : kMX l yX11_room cX11_room 3 (some .int) { frames := 7, cells := 1, slots := 6, locals := 131 } G [.ref h0, .int n0, .int n1] [(h0, .inr (11, ofL 17 Fh0)), (ap, .inr (7, ofL 5 Fap))] sz (kQi G (S := Unit) (fun r (_ : Unit) => False) (fun _ => [])) (kXC G (S := Nat) (fun E u => (u = 0 ∧ E = "java/util/NoSuchElementException" ∧ n0 < 0) ∨ (u = 1 ∧ E = "java/util/NoSuchElementException" ∧ ¬ n0 < 0)) (fun u => match u with | 0 => [(h0, .inr (11, ofL 17 Fh0)), (ap, .inr (7, ofL 5 Fap))] | _ => [(h0, .inr (11, ofL 17 Fh0)), (ap, .inr (7, ofL 5 Fap))])) := by
  refine kMX.of (by decide) (Nat.le_of_ble_eq_true rfl) ?_
  intro p e s m below meth c A ls H C hr hlk hno hP hD hS hl
  have C : kC G p s m c cX11_room 3 RX11 A := C
  have hx := C.1
  have hb := C.2.1
  have hl : lv_has ls 3 [(0, .ref h0), (1, .int n0), (2, .int n1)] := hl
  refine lv_aload_n hx hb dX11_room_0 rfl (lv_at hl 0 rfl) ?_
  refine lv_iload_n hx hb dX11_room_1 rfl (lv_at hl 1 rfl) ?_
  refine k_xcallVv (wr := []) (rest := []) li_X11_156 C (c_X11_needLesson l hst G H.size h0 n0 Fh0 ap Fap e_h0_3 e_ap_2) (kR rfl) hP hD hS [0, 1] [] rfl rfl rfl rfl (by decide) 0 11 rfl rfl rfl hl.1 rfl (Nat.le_of_ble_eq_true rfl) dX11_room_2 (fun E ce q9 uu3 H locs hw1 hP hD hS hc1 hc2 hc3 => ?_) (fun uu3 H locs hw1 hP hD hS => ?_)
  ·
    rcases hw1 with ⟨rfl, rfl, c_4⟩ | ⟨rfl, rfl, c_5⟩
    ·
      have hP : va_P G.1 vwCl [(h0, .inr (11, ofL 17 Fh0)), (ap, .inr (7, ofL 5 Fap))] H := hP
      have hD : va_D A [(h0, .inr (11, ofL 17 Fh0)), (ap, .inr (7, ofL 5 Fap))] := hD
      exact k_xout hno hlk hP hD hS hc1 hc2 hc3 0 (Or.inl ⟨rfl, rfl, c_4⟩) [0, 1] rfl rfl (Nat.le_of_ble_eq_true rfl) (Nat.le_of_ble_eq_true rfl)
    ·
      have hP : va_P G.1 vwCl [(h0, .inr (11, ofL 17 Fh0)), (ap, .inr (7, ofL 5 Fap))] H := hP
      have hD : va_D A [(h0, .inr (11, ofL 17 Fh0)), (ap, .inr (7, ofL 5 Fap))] := hD
      exact k_xout hno hlk hP hD hS hc1 hc2 hc3 1 (Or.inr (⟨rfl, rfl, c_5⟩)) [0, 1] rfl rfl (Nat.le_of_ble_eq_true rfl) (Nat.le_of_ble_eq_true rfl)
  · exact hw1.elim
set_option maxHeartbeats 4000000 in
set_option maxRecDepth 100000 in
theorem c_X11_limit (l : Launch) (hst : l.stackTraces = false) (G : kG) (sz : Nat) (h0 : Nat) (n0 : Int32) (n1 : Int32) (Fh0 : Nat → Value) (ap : Nat) (Fap : Nat → Value) (e_h0_3 : Fh0 3 = .ref ap) (e_ap_2 : Fap 2 = .int 0) : kMX l yX11_limit cX11_limit 3 (some .int) { frames := 7, cells := 1, slots := 6, locals := 131 } G [.ref h0, .int n0, .int n1] [(h0, .inr (11, ofL 17 Fh0)), (ap, .inr (7, ofL 5 Fap))] sz (kQi G (S := Unit) (fun r (_ : Unit) => False) (fun _ => [])) (kXC G (S := Nat) (fun E u => (u = 0 ∧ E = "java/util/NoSuchElementException" ∧ n0 < 0) ∨ (u = 1 ∧ E = "java/util/NoSuchElementException" ∧ ¬ n0 < 0)) (fun u => match u with | 0 => [(h0, .inr (11, ofL 17 Fh0)), (ap, .inr (7, ofL 5 Fap))] | _ => [(h0, .inr (11, ofL 17 Fh0)), (ap, .inr (7, ofL 5 Fap))])) := by
  refine kMX.of (by decide) (Nat.le_of_ble_eq_true rfl) ?_
  intro p e s m below meth c A ls H C hr hlk hno hP hD hS hl
  have C : kC G p s m c cX11_limit 3 RX11 A := C
  have hx := C.1
  have hb := C.2.1
  have hl : lv_has ls 3 [(0, .ref h0), (1, .int n0), (2, .int n1)] := hl
  refine lv_aload_n hx hb dX11_limit_0 rfl (lv_at hl 0 rfl) ?_
  refine lv_iload_n hx hb dX11_limit_1 rfl (lv_at hl 1 rfl) ?_
  refine k_xcallVv (wr := []) (rest := []) li_X11_156 C (c_X11_needLesson l hst G H.size h0 n0 Fh0 ap Fap e_h0_3 e_ap_2) (kR rfl) hP hD hS [0, 1] [] rfl rfl rfl rfl (by decide) 0 11 rfl rfl rfl hl.1 rfl (Nat.le_of_ble_eq_true rfl) dX11_limit_2 (fun E ce q9 uu3 H locs hw1 hP hD hS hc1 hc2 hc3 => ?_) (fun uu3 H locs hw1 hP hD hS => ?_)
  ·
    rcases hw1 with ⟨rfl, rfl, c_4⟩ | ⟨rfl, rfl, c_5⟩
    ·
      have hP : va_P G.1 vwCl [(h0, .inr (11, ofL 17 Fh0)), (ap, .inr (7, ofL 5 Fap))] H := hP
      have hD : va_D A [(h0, .inr (11, ofL 17 Fh0)), (ap, .inr (7, ofL 5 Fap))] := hD
      exact k_xout hno hlk hP hD hS hc1 hc2 hc3 0 (Or.inl ⟨rfl, rfl, c_4⟩) [0, 1] rfl rfl (Nat.le_of_ble_eq_true rfl) (Nat.le_of_ble_eq_true rfl)
    ·
      have hP : va_P G.1 vwCl [(h0, .inr (11, ofL 17 Fh0)), (ap, .inr (7, ofL 5 Fap))] H := hP
      have hD : va_D A [(h0, .inr (11, ofL 17 Fh0)), (ap, .inr (7, ofL 5 Fap))] := hD
      exact k_xout hno hlk hP hD hS hc1 hc2 hc3 1 (Or.inr (⟨rfl, rfl, c_5⟩)) [0, 1] rfl rfl (Nat.le_of_ble_eq_true rfl) (Nat.le_of_ble_eq_true rfl)
  · exact hw1.elim
set_option maxHeartbeats 4000000 in
set_option maxRecDepth 100000 in
theorem c_X11_see (l : Launch) (hst : l.stackTraces = false) (G : kG) (sz : Nat) (h0 : Nat) (n0 : Int32) (n1 : Int32) (Fh0 : Nat → Value) (ap : Nat) (Fap : Nat → Value) (e_h0_3 : Fh0 3 = .ref ap) (e_ap_2 : Fap 2 = .int 0) : kMX l yX11_see cX11_see 3 (some .int) { frames := 7, cells := 1, slots := 6, locals := 131 } G [.ref h0, .int n0, .int n1] [(h0, .inr (11, ofL 17 Fh0)), (ap, .inr (7, ofL 5 Fap))] sz (kQi G (S := Unit) (fun r (_ : Unit) => False) (fun _ => [])) (kXC G (S := Nat) (fun E u => (u = 0 ∧ E = "java/util/NoSuchElementException" ∧ n0 < 0) ∨ (u = 1 ∧ E = "java/util/NoSuchElementException" ∧ ¬ n0 < 0)) (fun u => match u with | 0 => [(h0, .inr (11, ofL 17 Fh0)), (ap, .inr (7, ofL 5 Fap))] | _ => [(h0, .inr (11, ofL 17 Fh0)), (ap, .inr (7, ofL 5 Fap))])) := by
  refine kMX.of (by decide) (Nat.le_of_ble_eq_true rfl) ?_
  intro p e s m below meth c A ls H C hr hlk hno hP hD hS hl
  have C : kC G p s m c cX11_see 3 RX11 A := C
  have hx := C.1
  have hb := C.2.1
  have hl : lv_has ls 3 [(0, .ref h0), (1, .int n0), (2, .int n1)] := hl
  refine lv_aload_n hx hb dX11_see_0 rfl (lv_at hl 0 rfl) ?_
  refine lv_iload_n hx hb dX11_see_1 rfl (lv_at hl 1 rfl) ?_
  refine k_xcallVv (wr := []) (rest := []) li_X11_156 C (c_X11_needLesson l hst G H.size h0 n0 Fh0 ap Fap e_h0_3 e_ap_2) (kR rfl) hP hD hS [0, 1] [] rfl rfl rfl rfl (by decide) 0 11 rfl rfl rfl hl.1 rfl (Nat.le_of_ble_eq_true rfl) dX11_see_2 (fun E ce q9 uu3 H locs hw1 hP hD hS hc1 hc2 hc3 => ?_) (fun uu3 H locs hw1 hP hD hS => ?_)
  ·
    rcases hw1 with ⟨rfl, rfl, c_4⟩ | ⟨rfl, rfl, c_5⟩
    ·
      have hP : va_P G.1 vwCl [(h0, .inr (11, ofL 17 Fh0)), (ap, .inr (7, ofL 5 Fap))] H := hP
      have hD : va_D A [(h0, .inr (11, ofL 17 Fh0)), (ap, .inr (7, ofL 5 Fap))] := hD
      exact k_xout hno hlk hP hD hS hc1 hc2 hc3 0 (Or.inl ⟨rfl, rfl, c_4⟩) [0, 1] rfl rfl (Nat.le_of_ble_eq_true rfl) (Nat.le_of_ble_eq_true rfl)
    ·
      have hP : va_P G.1 vwCl [(h0, .inr (11, ofL 17 Fh0)), (ap, .inr (7, ofL 5 Fap))] H := hP
      have hD : va_D A [(h0, .inr (11, ofL 17 Fh0)), (ap, .inr (7, ofL 5 Fap))] := hD
      exact k_xout hno hlk hP hD hS hc1 hc2 hc3 1 (Or.inr (⟨rfl, rfl, c_5⟩)) [0, 1] rfl rfl (Nat.le_of_ble_eq_true rfl) (Nat.le_of_ble_eq_true rfl)
  · exact hw1.elim
set_option maxHeartbeats 4000000 in
set_option maxRecDepth 100000 in
theorem c_X11_term (l : Launch) (hst : l.stackTraces = false) (G : kG) (sz : Nat) (h0 : Nat) (n0 : Int32) (n1 : Int32) (n2 : Int32) (n3 : Int32) (Fh0 : Nat → Value) (ap : Nat) (Fap : Nat → Value) (e_h0_3 : Fh0 3 = .ref ap) (e_ap_2 : Fap 2 = .int 0) : kMX l yX11_term cX11_term 5 (some .int) { frames := 7, cells := 1, slots := 6, locals := 131 } G [.ref h0, .int n0, .int n1, .int n2, .int n3] [(h0, .inr (11, ofL 17 Fh0)), (ap, .inr (7, ofL 5 Fap))] sz (kQi G (S := Unit) (fun r (_ : Unit) => False) (fun _ => [])) (kXC G (S := Nat) (fun E u => (u = 0 ∧ E = "java/util/NoSuchElementException" ∧ n2 < 0) ∨ (u = 1 ∧ E = "java/util/NoSuchElementException" ∧ ¬ n2 < 0)) (fun u => match u with | 0 => [(h0, .inr (11, ofL 17 Fh0)), (ap, .inr (7, ofL 5 Fap))] | _ => [(h0, .inr (11, ofL 17 Fh0)), (ap, .inr (7, ofL 5 Fap))])) := by
  refine kMX.of (by decide) (Nat.le_of_ble_eq_true rfl) ?_
  intro p e s m below meth c A ls H C hr hlk hno hP hD hS hl
  have C : kC G p s m c cX11_term 5 RX11 A := C
  have hx := C.1
  have hb := C.2.1
  have hl : lv_has ls 5 [(0, .ref h0), (1, .int n0), (2, .int n1), (3, .int n2), (4, .int n3)] := hl
  refine lv_aload_n hx hb dX11_term_0 rfl (lv_at hl 0 rfl) ?_
  refine lv_iload_n hx hb dX11_term_1 rfl (lv_at hl 3 rfl) ?_
  refine k_xcallVv (wr := []) (rest := []) li_X11_156 C (c_X11_needLesson l hst G H.size h0 n2 Fh0 ap Fap e_h0_3 e_ap_2) (kR rfl) hP hD hS [0, 1] [] rfl rfl rfl rfl (by decide) 0 11 rfl rfl rfl hl.1 rfl (Nat.le_of_ble_eq_true rfl) dX11_term_2 (fun E ce q9 uu3 H locs hw1 hP hD hS hc1 hc2 hc3 => ?_) (fun uu3 H locs hw1 hP hD hS => ?_)
  ·
    rcases hw1 with ⟨rfl, rfl, c_4⟩ | ⟨rfl, rfl, c_5⟩
    ·
      have hP : va_P G.1 vwCl [(h0, .inr (11, ofL 17 Fh0)), (ap, .inr (7, ofL 5 Fap))] H := hP
      have hD : va_D A [(h0, .inr (11, ofL 17 Fh0)), (ap, .inr (7, ofL 5 Fap))] := hD
      exact k_xout hno hlk hP hD hS hc1 hc2 hc3 0 (Or.inl ⟨rfl, rfl, c_4⟩) [0, 1] rfl rfl (Nat.le_of_ble_eq_true rfl) (Nat.le_of_ble_eq_true rfl)
    ·
      have hP : va_P G.1 vwCl [(h0, .inr (11, ofL 17 Fh0)), (ap, .inr (7, ofL 5 Fap))] H := hP
      have hD : va_D A [(h0, .inr (11, ofL 17 Fh0)), (ap, .inr (7, ofL 5 Fap))] := hD
      exact k_xout hno hlk hP hD hS hc1 hc2 hc3 1 (Or.inr (⟨rfl, rfl, c_5⟩)) [0, 1] rfl rfl (Nat.le_of_ble_eq_true rfl) (Nat.le_of_ble_eq_true rfl)
  · exact hw1.elim
set_option maxHeartbeats 4000000 in
set_option maxRecDepth 100000 in
theorem c_X11_shift (l : Launch) (hst : l.stackTraces = false) (G : kG) (sz : Nat) (h0 : Nat) (n0 : Int32) (n1 : Int32) (Fh0 : Nat → Value) (ap : Nat) (Fap : Nat → Value) (e_h0_3 : Fh0 3 = .ref ap) (e_ap_2 : Fap 2 = .int 0) : kMX l yX11_shift cX11_shift 3 (some .int) { frames := 7, cells := 1, slots := 6, locals := 131 } G [.ref h0, .int n0, .int n1] [(h0, .inr (11, ofL 17 Fh0)), (ap, .inr (7, ofL 5 Fap))] sz (kQi G (S := Unit) (fun r (_ : Unit) => False) (fun _ => [])) (kXC G (S := Nat) (fun E u => (u = 0 ∧ E = "java/util/NoSuchElementException" ∧ n0 < 0) ∨ (u = 1 ∧ E = "java/util/NoSuchElementException" ∧ ¬ n0 < 0)) (fun u => match u with | 0 => [(h0, .inr (11, ofL 17 Fh0)), (ap, .inr (7, ofL 5 Fap))] | _ => [(h0, .inr (11, ofL 17 Fh0)), (ap, .inr (7, ofL 5 Fap))])) := by
  refine kMX.of (by decide) (Nat.le_of_ble_eq_true rfl) ?_
  intro p e s m below meth c A ls H C hr hlk hno hP hD hS hl
  have C : kC G p s m c cX11_shift 3 RX11 A := C
  have hx := C.1
  have hb := C.2.1
  have hl : lv_has ls 3 [(0, .ref h0), (1, .int n0), (2, .int n1)] := hl
  refine lv_aload_n hx hb dX11_shift_0 rfl (lv_at hl 0 rfl) ?_
  refine lv_iload_n hx hb dX11_shift_1 rfl (lv_at hl 1 rfl) ?_
  refine k_xcallVv (wr := []) (rest := []) li_X11_156 C (c_X11_needLesson l hst G H.size h0 n0 Fh0 ap Fap e_h0_3 e_ap_2) (kR rfl) hP hD hS [0, 1] [] rfl rfl rfl rfl (by decide) 0 11 rfl rfl rfl hl.1 rfl (Nat.le_of_ble_eq_true rfl) dX11_shift_2 (fun E ce q9 uu3 H locs hw1 hP hD hS hc1 hc2 hc3 => ?_) (fun uu3 H locs hw1 hP hD hS => ?_)
  ·
    rcases hw1 with ⟨rfl, rfl, c_4⟩ | ⟨rfl, rfl, c_5⟩
    ·
      have hP : va_P G.1 vwCl [(h0, .inr (11, ofL 17 Fh0)), (ap, .inr (7, ofL 5 Fap))] H := hP
      have hD : va_D A [(h0, .inr (11, ofL 17 Fh0)), (ap, .inr (7, ofL 5 Fap))] := hD
      exact k_xout hno hlk hP hD hS hc1 hc2 hc3 0 (Or.inl ⟨rfl, rfl, c_4⟩) [0, 1] rfl rfl (Nat.le_of_ble_eq_true rfl) (Nat.le_of_ble_eq_true rfl)
    ·
      have hP : va_P G.1 vwCl [(h0, .inr (11, ofL 17 Fh0)), (ap, .inr (7, ofL 5 Fap))] H := hP
      have hD : va_D A [(h0, .inr (11, ofL 17 Fh0)), (ap, .inr (7, ofL 5 Fap))] := hD
      exact k_xout hno hlk hP hD hS hc1 hc2 hc3 1 (Or.inr (⟨rfl, rfl, c_5⟩)) [0, 1] rfl rfl (Nat.le_of_ble_eq_true rfl) (Nat.le_of_ble_eq_true rfl)
  · exact hw1.elim
set_option maxHeartbeats 4000000 in
set_option maxRecDepth 100000 in
theorem c_X11_harm (l : Launch) (hst : l.stackTraces = false) (G : kG) (sz : Nat) (h0 : Nat) (n0 : Int32) (n1 : Int32) (Fh0 : Nat → Value) (ap : Nat) (Fap : Nat → Value) (e_h0_3 : Fh0 3 = .ref ap) (e_ap_2 : Fap 2 = .int 0) : kMX l yX11_harm cX11_harm 3 (some .int) { frames := 7, cells := 1, slots := 6, locals := 131 } G [.ref h0, .int n0, .int n1] [(h0, .inr (11, ofL 17 Fh0)), (ap, .inr (7, ofL 5 Fap))] sz (kQi G (S := Unit) (fun r (_ : Unit) => False) (fun _ => [])) (kXC G (S := Nat) (fun E u => (u = 0 ∧ E = "java/util/NoSuchElementException" ∧ n0 < 0) ∨ (u = 1 ∧ E = "java/util/NoSuchElementException" ∧ ¬ n0 < 0)) (fun u => match u with | 0 => [(h0, .inr (11, ofL 17 Fh0)), (ap, .inr (7, ofL 5 Fap))] | _ => [(h0, .inr (11, ofL 17 Fh0)), (ap, .inr (7, ofL 5 Fap))])) := by
  refine kMX.of (by decide) (Nat.le_of_ble_eq_true rfl) ?_
  intro p e s m below meth c A ls H C hr hlk hno hP hD hS hl
  have C : kC G p s m c cX11_harm 3 RX11 A := C
  have hx := C.1
  have hb := C.2.1
  have hl : lv_has ls 3 [(0, .ref h0), (1, .int n0), (2, .int n1)] := hl
  refine lv_aload_n hx hb dX11_harm_0 rfl (lv_at hl 0 rfl) ?_
  refine lv_iload_n hx hb dX11_harm_1 rfl (lv_at hl 1 rfl) ?_
  refine k_xcallVv (wr := []) (rest := []) li_X11_156 C (c_X11_needLesson l hst G H.size h0 n0 Fh0 ap Fap e_h0_3 e_ap_2) (kR rfl) hP hD hS [0, 1] [] rfl rfl rfl rfl (by decide) 0 11 rfl rfl rfl hl.1 rfl (Nat.le_of_ble_eq_true rfl) dX11_harm_2 (fun E ce q9 uu3 H locs hw1 hP hD hS hc1 hc2 hc3 => ?_) (fun uu3 H locs hw1 hP hD hS => ?_)
  ·
    rcases hw1 with ⟨rfl, rfl, c_4⟩ | ⟨rfl, rfl, c_5⟩
    ·
      have hP : va_P G.1 vwCl [(h0, .inr (11, ofL 17 Fh0)), (ap, .inr (7, ofL 5 Fap))] H := hP
      have hD : va_D A [(h0, .inr (11, ofL 17 Fh0)), (ap, .inr (7, ofL 5 Fap))] := hD
      exact k_xout hno hlk hP hD hS hc1 hc2 hc3 0 (Or.inl ⟨rfl, rfl, c_4⟩) [0, 1] rfl rfl (Nat.le_of_ble_eq_true rfl) (Nat.le_of_ble_eq_true rfl)
    ·
      have hP : va_P G.1 vwCl [(h0, .inr (11, ofL 17 Fh0)), (ap, .inr (7, ofL 5 Fap))] H := hP
      have hD : va_D A [(h0, .inr (11, ofL 17 Fh0)), (ap, .inr (7, ofL 5 Fap))] := hD
      exact k_xout hno hlk hP hD hS hc1 hc2 hc3 1 (Or.inr (⟨rfl, rfl, c_5⟩)) [0, 1] rfl rfl (Nat.le_of_ble_eq_true rfl) (Nat.le_of_ble_eq_true rfl)
  · exact hw1.elim
set_option maxHeartbeats 4000000 in
set_option maxRecDepth 100000 in
theorem c_X11_obey (l : Launch) (G : kG) (sz : Nat) (h0 : Nat) (n0 : Int32) (Fh0 : Nat → Value) (arf : Nat) (ap : Nat) (ah : Nat) (Fap : Nat → Value) (ar : Nat) (Far : Nat → Value) (Fah : Nat → Value) (a4 : Nat) (a5 : Nat) (a6 : Nat) (n9 : Int32) (f3 : Nat → Int32) (f4 : Nat → Int32) (f5 : Nat → Int32) (f6 : Nat → Int32) (e_h0_1 : Fh0 1 = .ref arf) (e_h0_3 : Fh0 3 = .ref ap) (e_h0_6 : Fh0 6 = .ref ah) (e_ap_1 : Fap 1 = .ref ar) (e_ar_3 : Far 3 = .int 0) (e_ah_9 : Fah 9 = .int 0) (e_ah_11 : Fah 11 = .int n9) (e_ah_4 : Fah 4 = .ref a4) (e_ah_5 : Fah 5 = .ref a5) (e_ah_6 : Fah 6 = .ref a6) : kM l yX11_obey cX11_obey 2 (some .boolean) { frames := 7, cells := 0, slots := 0, locals := 133 } G [.ref h0, .int n0] [(h0, .inr (11, ofL 17 Fh0)), (ap, .inr (7, ofL 5 Fap)), (ar, .inr (8, ofL 5 Far)), (ah, .inr (3, ofL 12 Fah)), (arf, .inl (G.2.1, 3, .inl f3)), (a4, .inl (G.2.1, 40, .inl f4)), (a5, .inl (G.2.1, 40, .inl f5)), (a6, .inl (G.2.1, 40, .inl f6))] sz (kQi G (S := Nat) (fun r u => (u = 0 ∧ r = 0 ∧ n0 < (-1)) ∨ (u = 1 ∧ r = 0 ∧ ¬ n0 < (-1) ∧ 0 ≤ n0) ∨ (u = 2 ∧ r = 1 ∧ ¬ n0 < (-1) ∧ ¬ 0 ≤ n0)) (fun u => match u with | 0 => [(ah, .inr (3, ofL 12 Fah)), (arf, .inl (G.2.1, 3, .inl (upd f3 1 ((f3 1) + 1)))), (a4, .inl (G.2.1, 40, .inl f4)), (a5, .inl (G.2.1, 40, .inl f5)), (a6, .inl (G.2.1, 40, .inl f6)), (h0, .inr (11, ofL 17 Fh0)), (ap, .inr (7, ofL 5 Fap)), (ar, .inr (8, ofL 5 Far))] | 1 => [(ah, .inr (3, ofL 12 Fah)), (arf, .inl (G.2.1, 3, .inl (upd f3 1 ((f3 1) + 1)))), (a4, .inl (G.2.1, 40, .inl f4)), (a5, .inl (G.2.1, 40, .inl f5)), (a6, .inl (G.2.1, 40, .inl f6)), (h0, .inr (11, ofL 17 Fh0)), (ap, .inr (7, ofL 5 Fap)), (ar, .inr (8, ofL 5 Far))] | _ => [(arf, .inl (G.2.1, 3, .inl f3)), (h0, .inr (11, ofL 17 Fh0)), (ap, .inr (7, ofL 5 Fap)), (ar, .inr (8, ofL 5 Far)), (ah, .inr (3, ofL 12 (updV (updV Fah 9 (.int 1)) 11 (.int n0)))), (a4, .inl (G.2.1, 40, .inl (upd f4 0 4))), (a5, .inl (G.2.1, 40, .inl (upd f5 0 0))), (a6, .inl (G.2.1, 40, .inl (upd f6 0 n9)))])) := by
  refine kM.of (by decide) (Nat.le_of_ble_eq_true rfl) ?_
  intro p e s m below meth c A ls H C hr hlk hnm hP hD hS hl
  have C : kC G p s m c cX11_obey 2 RX11 A := C
  have hx := C.1
  have hb := C.2.1
  have hl : lv_has ls 2 [(0, .ref h0), (1, .int n0)] := hl
  refine lv_aload_n hx hb dX11_obey_0 rfl (lv_at hl 0 rfl) ?_
  refine lv_iload_n hx hb dX11_obey_1 rfl (lv_at hl 1 rfl) ?_
  refine k_callVi (wr := [(ah, .inr (3, ofL 12 Fah)), (arf, .inl (G.2.1, 3, .inl f3)), (a4, .inl (G.2.1, 40, .inl f4)), (a5, .inl (G.2.1, 40, .inl f5)), (a6, .inl (G.2.1, 40, .inl f6))]) (rest := []) li_X11_235 C (c_X11_isRuleOrNone l G H.size h0 n0 Fh0 ap Fap ar Far e_h0_3 e_ap_1 e_ar_3) (kR rfl) hP hD hS [0, 1, 2] [3, 4, 5, 6, 7] rfl rfl rfl rfl (by decide) 0 11 rfl rfl rfl hl.1 rfl (Nat.le_of_ble_eq_true rfl) dX11_obey_2 (fun rr2 uu3 H locs hw1 hP hD hS => ?_)
  rcases hw1 with ⟨rfl, rfl, c_4⟩ | ⟨rfl, rfl, c_5, c_6⟩ | ⟨rfl, rfl, c_7, c_8⟩
  ·
    have hP : va_P G.1 vwCl [(ah, .inr (3, ofL 12 Fah)), (arf, .inl (G.2.1, 3, .inl f3)), (a4, .inl (G.2.1, 40, .inl f4)), (a5, .inl (G.2.1, 40, .inl f5)), (a6, .inl (G.2.1, 40, .inl f6)), (h0, .inr (11, ofL 17 Fh0)), (ap, .inr (7, ofL 5 Fap)), (ar, .inr (8, ofL 5 Far))] H := hP
    have hD : va_D A [(ah, .inr (3, ofL 12 Fah)), (arf, .inl (G.2.1, 3, .inl f3)), (a4, .inl (G.2.1, 40, .inl f4)), (a5, .inl (G.2.1, 40, .inl f5)), (a6, .inl (G.2.1, 40, .inl f6)), (h0, .inr (11, ofL 17 Fh0)), (ap, .inr (7, ofL 5 Fap)), (ar, .inr (8, ofL 5 Far))] := hD
    refine lv_if_ne (x := 0) (tgt := 20) hx hb dX11_obey_5 (by decide) (fun c_9 => ?_) (fun c_9 => ?_)
    · exact absurd (by decide) c_9
    refine lv_aload_n hx hb dX11_obey_8 rfl (lv_at hl 0 rfl) ?_
    refine k_get (v := .ref arf) fl_X11_13 C hP 5 rfl e_h0_1 dX11_obey_9 ?_
    refine lv_iconst (v := 1) hx hb dX11_obey_12 (by decide) ?_
    refine lv_dup2_11 hx hb dX11_obey_13 rfl rfl ?_
    refine k_iald C hP 1 rfl (k_in (by decide)) dX11_obey_14 ?_
    refine k_eqi (y := f3 1) rfl ?_
    refine lv_iconst (v := 1) hx hb dX11_obey_15 (by decide) ?_
    refine lv_iadd hx hb dX11_obey_16 ?_
    refine k_iast C hP hD hS 1 rfl (k_in (by decide)) dX11_obey_17 (fun H locs hP hD hS => ?_)
    have hP : va_P G.1 vwCl [(ah, .inr (3, ofL 12 Fah)), (arf, .inl (G.2.1, 3, .inl (upd f3 1 ((f3 1) + 1)))), (a4, .inl (G.2.1, 40, .inl f4)), (a5, .inl (G.2.1, 40, .inl f5)), (a6, .inl (G.2.1, 40, .inl f6)), (h0, .inr (11, ofL 17 Fh0)), (ap, .inr (7, ofL 5 Fap)), (ar, .inr (8, ofL 5 Far))] H := hP
    have hD : va_D A [(ah, .inr (3, ofL 12 Fah)), (arf, .inl (G.2.1, 3, .inl (upd f3 1 ((f3 1) + 1)))), (a4, .inl (G.2.1, 40, .inl f4)), (a5, .inl (G.2.1, 40, .inl f5)), (a6, .inl (G.2.1, 40, .inl f6)), (h0, .inr (11, ofL 17 Fh0)), (ap, .inr (7, ofL 5 Fap)), (ar, .inr (8, ofL 5 Far))] := hD
    refine lv_iconst (v := 0) hx hb dX11_obey_18 (by decide) ?_
    exact k_zret C hr hlk rfl hP hD hS 0 (Or.inl ⟨rfl, rfl, c_4⟩) [0, 1, 2, 3, 4, 5, 6, 7] rfl rfl (Nat.le_of_ble_eq_true rfl) (Nat.le_of_ble_eq_true rfl) dX11_obey_19
  ·
    have hP : va_P G.1 vwCl [(ah, .inr (3, ofL 12 Fah)), (arf, .inl (G.2.1, 3, .inl f3)), (a4, .inl (G.2.1, 40, .inl f4)), (a5, .inl (G.2.1, 40, .inl f5)), (a6, .inl (G.2.1, 40, .inl f6)), (h0, .inr (11, ofL 17 Fh0)), (ap, .inr (7, ofL 5 Fap)), (ar, .inr (8, ofL 5 Far))] H := hP
    have hD : va_D A [(ah, .inr (3, ofL 12 Fah)), (arf, .inl (G.2.1, 3, .inl f3)), (a4, .inl (G.2.1, 40, .inl f4)), (a5, .inl (G.2.1, 40, .inl f5)), (a6, .inl (G.2.1, 40, .inl f6)), (h0, .inr (11, ofL 17 Fh0)), (ap, .inr (7, ofL 5 Fap)), (ar, .inr (8, ofL 5 Far))] := hD
    refine lv_if_ne (x := 0) (tgt := 20) hx hb dX11_obey_5 (by decide) (fun c_10 => ?_) (fun c_10 => ?_)
    · exact absurd (by decide) c_10
    refine lv_aload_n hx hb dX11_obey_8 rfl (lv_at hl 0 rfl) ?_
    refine k_get (v := .ref arf) fl_X11_13 C hP 5 rfl e_h0_1 dX11_obey_9 ?_
    refine lv_iconst (v := 1) hx hb dX11_obey_12 (by decide) ?_
    refine lv_dup2_11 hx hb dX11_obey_13 rfl rfl ?_
    refine k_iald C hP 1 rfl (k_in (by decide)) dX11_obey_14 ?_
    refine k_eqi (y := f3 1) rfl ?_
    refine lv_iconst (v := 1) hx hb dX11_obey_15 (by decide) ?_
    refine lv_iadd hx hb dX11_obey_16 ?_
    refine k_iast C hP hD hS 1 rfl (k_in (by decide)) dX11_obey_17 (fun H locs hP hD hS => ?_)
    have hP : va_P G.1 vwCl [(ah, .inr (3, ofL 12 Fah)), (arf, .inl (G.2.1, 3, .inl (upd f3 1 ((f3 1) + 1)))), (a4, .inl (G.2.1, 40, .inl f4)), (a5, .inl (G.2.1, 40, .inl f5)), (a6, .inl (G.2.1, 40, .inl f6)), (h0, .inr (11, ofL 17 Fh0)), (ap, .inr (7, ofL 5 Fap)), (ar, .inr (8, ofL 5 Far))] H := hP
    have hD : va_D A [(ah, .inr (3, ofL 12 Fah)), (arf, .inl (G.2.1, 3, .inl (upd f3 1 ((f3 1) + 1)))), (a4, .inl (G.2.1, 40, .inl f4)), (a5, .inl (G.2.1, 40, .inl f5)), (a6, .inl (G.2.1, 40, .inl f6)), (h0, .inr (11, ofL 17 Fh0)), (ap, .inr (7, ofL 5 Fap)), (ar, .inr (8, ofL 5 Far))] := hD
    refine lv_iconst (v := 0) hx hb dX11_obey_18 (by decide) ?_
    exact k_zret C hr hlk rfl hP hD hS 1 (Or.inr (Or.inl ⟨rfl, rfl, c_5, c_6⟩)) [0, 1, 2, 3, 4, 5, 6, 7] rfl rfl (Nat.le_of_ble_eq_true rfl) (Nat.le_of_ble_eq_true rfl) dX11_obey_19
  ·
    have hP : va_P G.1 vwCl [(ah, .inr (3, ofL 12 Fah)), (arf, .inl (G.2.1, 3, .inl f3)), (a4, .inl (G.2.1, 40, .inl f4)), (a5, .inl (G.2.1, 40, .inl f5)), (a6, .inl (G.2.1, 40, .inl f6)), (h0, .inr (11, ofL 17 Fh0)), (ap, .inr (7, ofL 5 Fap)), (ar, .inr (8, ofL 5 Far))] H := hP
    have hD : va_D A [(ah, .inr (3, ofL 12 Fah)), (arf, .inl (G.2.1, 3, .inl f3)), (a4, .inl (G.2.1, 40, .inl f4)), (a5, .inl (G.2.1, 40, .inl f5)), (a6, .inl (G.2.1, 40, .inl f6)), (h0, .inr (11, ofL 17 Fh0)), (ap, .inr (7, ofL 5 Fap)), (ar, .inr (8, ofL 5 Far))] := hD
    refine lv_if_ne (x := 1) (tgt := 20) hx hb dX11_obey_5 (by decide) (fun c_11 => ?_) (fun c_11 => ?_)
    rotate_left
    · exact absurd c_11 (by decide)
    refine lv_aload_n hx hb dX11_obey_20 rfl (lv_at hl 0 rfl) ?_
    refine k_get (v := .ref ah) fl_X11_41 C hP 5 rfl e_h0_6 dX11_obey_21 ?_
    refine lv_iconst (v := 4) hx hb dX11_obey_24 (by decide) ?_
    refine lv_iconst (v := 0) hx hb dX11_obey_25 (by decide) ?_
    refine lv_aload_n hx hb dX11_obey_26 rfl (lv_at hl 0 rfl) ?_
    refine k_get (v := .ref ah) fl_X11_41 C hP 5 rfl e_h0_6 dX11_obey_27 ?_
    refine k_getN (v := .int n9) fl_X11_137 C hP 0 rfl e_ah_11 dX11_obey_30 ?_
    refine k_callNv (wr := [(arf, .inl (G.2.1, 3, .inl f3)), (h0, .inr (11, ofL 17 Fh0)), (ap, .inr (7, ofL 5 Fap)), (ar, .inr (8, ofL 5 Far))]) (rest := []) li_X11_229 C (c_X3_keepAct l G H.size ah 4 0 n9 Fah a4 a5 a6 f4 f5 f6 e_ah_9 e_ah_4 e_ah_5 e_ah_6) (kR rfl) hP hD hS [0, 2, 3, 4] [1, 5, 6, 7] rfl rfl rfl rfl (by decide) 0 3 rfl rfl rfl hl.1 rfl (Nat.le_of_ble_eq_true rfl) dX11_obey_33 (fun uu14 H locs hw12 hP hD hS => ?_)
    have hP : va_P G.1 vwCl [(arf, .inl (G.2.1, 3, .inl f3)), (h0, .inr (11, ofL 17 Fh0)), (ap, .inr (7, ofL 5 Fap)), (ar, .inr (8, ofL 5 Far)), (ah, .inr (3, ofL 12 (updV Fah 9 (.int 1)))), (a4, .inl (G.2.1, 40, .inl (upd f4 0 4))), (a5, .inl (G.2.1, 40, .inl (upd f5 0 0))), (a6, .inl (G.2.1, 40, .inl (upd f6 0 n9)))] H := hP
    have hD : va_D A [(arf, .inl (G.2.1, 3, .inl f3)), (h0, .inr (11, ofL 17 Fh0)), (ap, .inr (7, ofL 5 Fap)), (ar, .inr (8, ofL 5 Far)), (ah, .inr (3, ofL 12 (updV Fah 9 (.int 1)))), (a4, .inl (G.2.1, 40, .inl (upd f4 0 4))), (a5, .inl (G.2.1, 40, .inl (upd f5 0 0))), (a6, .inl (G.2.1, 40, .inl (upd f6 0 n9)))] := hD
    refine lv_aload_n hx hb dX11_obey_36 rfl (lv_at hl 0 rfl) ?_
    refine k_get (v := .ref ah) fl_X11_41 C hP 1 rfl e_h0_6 dX11_obey_37 ?_
    refine lv_iload_n hx hb dX11_obey_40 rfl (lv_at hl 1 rfl) ?_
    refine k_putN fl_X11_137 ft_X3_11 C hP hD hS 4 rfl rfl rfl dX11_obey_41 (fun H locs hP hD hS => ?_)
    have hP : va_P G.1 vwCl [(arf, .inl (G.2.1, 3, .inl f3)), (h0, .inr (11, ofL 17 Fh0)), (ap, .inr (7, ofL 5 Fap)), (ar, .inr (8, ofL 5 Far)), (ah, .inr (3, ofL 12 (updV (updV Fah 9 (.int 1)) 11 (.int n0)))), (a4, .inl (G.2.1, 40, .inl (upd f4 0 4))), (a5, .inl (G.2.1, 40, .inl (upd f5 0 0))), (a6, .inl (G.2.1, 40, .inl (upd f6 0 n9)))] H := hP
    have hD : va_D A [(arf, .inl (G.2.1, 3, .inl f3)), (h0, .inr (11, ofL 17 Fh0)), (ap, .inr (7, ofL 5 Fap)), (ar, .inr (8, ofL 5 Far)), (ah, .inr (3, ofL 12 (updV (updV Fah 9 (.int 1)) 11 (.int n0)))), (a4, .inl (G.2.1, 40, .inl (upd f4 0 4))), (a5, .inl (G.2.1, 40, .inl (upd f5 0 0))), (a6, .inl (G.2.1, 40, .inl (upd f6 0 n9)))] := hD
    refine lv_iconst (v := 1) hx hb dX11_obey_44 (by decide) ?_
    exact k_zret C hr hlk rfl hP hD hS 2 (Or.inr (Or.inr (⟨rfl, rfl, c_7, c_8⟩))) [0, 1, 2, 3, 4, 5, 6, 7] rfl rfl (Nat.le_of_ble_eq_true rfl) (Nat.le_of_ble_eq_true rfl) dX11_obey_45
set_option maxHeartbeats 4000000 in
set_option maxRecDepth 100000 in
theorem c_X11_undo (l : Launch) (G : kG) (sz : Nat) (h0 : Nat) (Fh0 : Nat → Value) (ah : Nat) (Fah : Nat → Value) (e_h0_6 : Fh0 6 = .ref ah) (e_ah_9 : Fah 9 = .int 0) : kM l yX11_undo cX11_undo 1 (some .int) { frames := 7, cells := 0, slots := 0, locals := 130 } G [.ref h0] [(h0, .inr (11, ofL 17 Fh0)), (ah, .inr (3, ofL 12 Fah))] sz (kQi G (S := Unit) (fun r (_ : Unit) => r = -1) (fun _ => [(h0, .inr (11, ofL 17 Fh0)), (ah, .inr (3, ofL 12 Fah))])) := by
  refine kM.of (by decide) (Nat.le_of_ble_eq_true rfl) ?_
  intro p e s m below meth c A ls H C hr hlk hnm hP hD hS hl
  have C : kC G p s m c cX11_undo 1 RX11 A := C
  have hx := C.1
  have hb := C.2.1
  have hl : lv_has ls 1 [(0, .ref h0)] := hl
  refine lv_aload_n hx hb dX11_undo_0 rfl (lv_at hl 0 rfl) ?_
  refine k_get (v := .ref ah) fl_X11_41 C hP 0 rfl e_h0_6 dX11_undo_1 ?_
  refine k_callNi (wr := [(h0, .inr (11, ofL 17 Fh0))]) (rest := []) li_X11_239 C (c_X3_takeBackAct l G H.size ah Fah e_ah_9) (kR rfl) hP hD hS [1] [0] rfl rfl rfl rfl (by decide) 0 3 rfl rfl rfl hl.1 rfl (Nat.le_of_ble_eq_true rfl) dX11_undo_4 (fun rr2 uu3 H locs hw1 hP hD hS => ?_)
  obtain rfl : rr2 = -1 := hw1
  have hP : va_P G.1 vwCl [(h0, .inr (11, ofL 17 Fh0)), (ah, .inr (3, ofL 12 Fah))] H := hP
  have hD : va_D A [(h0, .inr (11, ofL 17 Fh0)), (ah, .inr (3, ofL 12 Fah))] := hD
  exact k_iret C hr hlk hP hD hS () (rfl) [0, 1] rfl rfl (Nat.le_of_ble_eq_true rfl) (Nat.le_of_ble_eq_true rfl) dX11_undo_7
set_option maxHeartbeats 4000000 in
set_option maxRecDepth 100000 in
theorem c_X11_swap (l : Launch) (hst : l.stackTraces = false) (G : kG) (sz : Nat) (h0 : Nat) (n0 : Int32) (Fh0 : Nat → Value) (atr : Nat) (Fatr : Nat → Value) (ad : Nat) (al : Nat) (Fad : Nat → Value) (ap : Nat) (Fap : Nat → Value) (Fal : Nat → Value) (e_h0_9 : Fh0 9 = .ref atr) (e_atr_0 : Fatr 0 = .ref ad) (e_atr_2 : Fatr 2 = .ref al) (e_ad_7 : Fad 7 = .ref ap) (e_ap_2 : Fap 2 = .int 0) : kMX l yX11_swap cX11_swap 2 (some .int) { frames := 9, cells := 1, slots := 6, locals := 178 } G [.ref h0, .int n0] [(h0, .inr (11, ofL 17 Fh0)), (atr, .inr (10, ofL 7 Fatr)), (ad, .inr (1, ofL 10 Fad)), (ap, .inr (7, ofL 5 Fap)), (al, .inr (4, ofL 3 Fal))] sz (kQi G (S := Unit) (fun r (_ : Unit) => r = -1 ∧ ¬ n0 < 0 ∧ n0 < 2) (fun _ => [(h0, .inr (11, ofL 17 Fh0)), (al, .inr (4, ofL 3 (updV Fal 0 (.int 0)))), (atr, .inr (10, ofL 7 Fatr)), (ad, .inr (1, ofL 10 Fad)), (ap, .inr (7, ofL 5 Fap))])) (kXC G (S := Nat) (fun E u => (u = 0 ∧ E = "java/util/NoSuchElementException" ∧ n0 < 0) ∨ (u = 1 ∧ E = "java/util/NoSuchElementException" ∧ ¬ n0 < 0 ∧ ¬ n0 < 2)) (fun u => match u with | 0 => [(h0, .inr (11, ofL 17 Fh0)), (atr, .inr (10, ofL 7 Fatr)), (ad, .inr (1, ofL 10 Fad)), (ap, .inr (7, ofL 5 Fap)), (al, .inr (4, ofL 3 Fal))] | _ => [(h0, .inr (11, ofL 17 Fh0)), (atr, .inr (10, ofL 7 Fatr)), (ad, .inr (1, ofL 10 Fad)), (ap, .inr (7, ofL 5 Fap)), (al, .inr (4, ofL 3 Fal))])) := by
  refine kMX.of (by decide) (Nat.le_of_ble_eq_true rfl) ?_
  intro p e s m below meth c A ls H C hr hlk hno hP hD hS hl
  have C : kC G p s m c cX11_swap 2 RX11 A := C
  have hx := C.1
  have hb := C.2.1
  have hl : lv_has ls 2 [(0, .ref h0), (1, .int n0)] := hl
  refine lv_iload_n hx hb dX11_swap_0 rfl (lv_at hl 1 rfl) ?_
  refine lv_iconst (v := 2) hx hb dX11_swap_1 (by decide) ?_
  refine k_xcallSv (wr := [(h0, .inr (11, ofL 17 Fh0)), (atr, .inr (10, ofL 7 Fatr)), (ad, .inr (1, ofL 10 Fad)), (ap, .inr (7, ofL 5 Fap)), (al, .inr (4, ofL 3 Fal))]) (rest := []) li_X11_121 C (c_X11_needWhat l hst G H.size n0 2) (kR rfl) hP hD hS [] [0, 1, 2, 3, 4] rfl rfl rfl rfl (by decide) rfl hl.1 rfl (Nat.le_of_ble_eq_true rfl) dX11_swap_2 (fun E ce q9 uu3 H locs hw1 hP hD hS hc1 hc2 hc3 => ?_) (fun uu3 H locs hw1 hP hD hS => ?_)
  ·
    rcases hw1 with ⟨rfl, rfl, c_4⟩ | ⟨rfl, rfl, c_5, c_6⟩
    ·
      have hP : va_P G.1 vwCl [(h0, .inr (11, ofL 17 Fh0)), (atr, .inr (10, ofL 7 Fatr)), (ad, .inr (1, ofL 10 Fad)), (ap, .inr (7, ofL 5 Fap)), (al, .inr (4, ofL 3 Fal))] H := hP
      have hD : va_D A [(h0, .inr (11, ofL 17 Fh0)), (atr, .inr (10, ofL 7 Fatr)), (ad, .inr (1, ofL 10 Fad)), (ap, .inr (7, ofL 5 Fap)), (al, .inr (4, ofL 3 Fal))] := hD
      exact k_xout hno hlk hP hD hS hc1 hc2 hc3 0 (Or.inl ⟨rfl, rfl, c_4⟩) [0, 1, 2, 3, 4] rfl rfl (Nat.le_of_ble_eq_true rfl) (Nat.le_of_ble_eq_true rfl)
    ·
      have hP : va_P G.1 vwCl [(h0, .inr (11, ofL 17 Fh0)), (atr, .inr (10, ofL 7 Fatr)), (ad, .inr (1, ofL 10 Fad)), (ap, .inr (7, ofL 5 Fap)), (al, .inr (4, ofL 3 Fal))] H := hP
      have hD : va_D A [(h0, .inr (11, ofL 17 Fh0)), (atr, .inr (10, ofL 7 Fatr)), (ad, .inr (1, ofL 10 Fad)), (ap, .inr (7, ofL 5 Fap)), (al, .inr (4, ofL 3 Fal))] := hD
      exact k_xout hno hlk hP hD hS hc1 hc2 hc3 1 (Or.inr (⟨rfl, rfl, c_5, c_6⟩)) [0, 1, 2, 3, 4] rfl rfl (Nat.le_of_ble_eq_true rfl) (Nat.le_of_ble_eq_true rfl)
  obtain ⟨c_7, c_8⟩ := hw1
  have hP : va_P G.1 vwCl [(h0, .inr (11, ofL 17 Fh0)), (atr, .inr (10, ofL 7 Fatr)), (ad, .inr (1, ofL 10 Fad)), (ap, .inr (7, ofL 5 Fap)), (al, .inr (4, ofL 3 Fal))] H := hP
  have hD : va_D A [(h0, .inr (11, ofL 17 Fh0)), (atr, .inr (10, ofL 7 Fatr)), (ad, .inr (1, ofL 10 Fad)), (ap, .inr (7, ofL 5 Fap)), (al, .inr (4, ofL 3 Fal))] := hD
  refine lv_aload_n hx hb dX11_swap_5 rfl (lv_at hl 0 rfl) ?_
  refine k_get (v := .ref atr) fl_X11_62 C hP 0 rfl e_h0_9 dX11_swap_6 ?_
  refine lv_iload_n hx hb dX11_swap_9 rfl (lv_at hl 1 rfl) ?_
  refine k_callNi (wr := [(h0, .inr (11, ofL 17 Fh0))]) (rest := []) li_X11_295 C (c_X10_swapped l G H.size atr n0 Fatr ad al Fad ap Fap Fal e_atr_0 e_atr_2 e_ad_7 e_ap_2) (kR rfl) hP hD hS [1, 2, 3, 4] [0] rfl rfl rfl rfl (by decide) 0 10 rfl rfl rfl hl.1 rfl (Nat.le_of_ble_eq_true rfl) dX11_swap_10 (fun rr10 uu11 H locs hw9 hP hD hS => ?_)
  obtain rfl : rr10 = -1 := hw9
  have hP : va_P G.1 vwCl [(h0, .inr (11, ofL 17 Fh0)), (al, .inr (4, ofL 3 (updV Fal 0 (.int 0)))), (atr, .inr (10, ofL 7 Fatr)), (ad, .inr (1, ofL 10 Fad)), (ap, .inr (7, ofL 5 Fap))] H := hP
  have hD : va_D A [(h0, .inr (11, ofL 17 Fh0)), (al, .inr (4, ofL 3 (updV Fal 0 (.int 0)))), (atr, .inr (10, ofL 7 Fatr)), (ad, .inr (1, ofL 10 Fad)), (ap, .inr (7, ofL 5 Fap))] := hD
  exact vx_ret (k_iret C hr hlk hP hD hS () (⟨rfl, c_7, c_8⟩) [0, 1, 2, 3, 4] rfl rfl (Nat.le_of_ble_eq_true rfl) (Nat.le_of_ble_eq_true rfl) dX11_swap_13)
set_option maxHeartbeats 4000000 in
set_option maxRecDepth 100000 in
theorem c_X11_last (l : Launch) (G : kG) (sz : Nat) (h0 : Nat) (Fh0 : Nat → Value) (atr : Nat) (Fatr : Nat → Value) (ad : Nat) (al : Nat) (Fad : Nat → Value) (ap : Nat) (Fap : Nat → Value) (Fal : Nat → Value) (e_h0_9 : Fh0 9 = .ref atr) (e_atr_0 : Fatr 0 = .ref ad) (e_atr_2 : Fatr 2 = .ref al) (e_ad_7 : Fad 7 = .ref ap) (e_ap_2 : Fap 2 = .int 0) : kM l yX11_last cX11_last 1 (some .int) { frames := 8, cells := 0, slots := 0, locals := 152 } G [.ref h0] [(h0, .inr (11, ofL 17 Fh0)), (atr, .inr (10, ofL 7 Fatr)), (ad, .inr (1, ofL 10 Fad)), (ap, .inr (7, ofL 5 Fap)), (al, .inr (4, ofL 3 Fal))] sz (kQi G (S := Unit) (fun r (_ : Unit) => r = -1) (fun _ => [(h0, .inr (11, ofL 17 Fh0)), (atr, .inr (10, ofL 7 Fatr)), (ad, .inr (1, ofL 10 Fad)), (ap, .inr (7, ofL 5 Fap)), (al, .inr (4, ofL 3 (updV Fal 0 (.int 0))))])) := by
  refine kM.of (by decide) (Nat.le_of_ble_eq_true rfl) ?_
  intro p e s m below meth c A ls H C hr hlk hnm hP hD hS hl
  have C : kC G p s m c cX11_last 1 RX11 A := C
  have hx := C.1
  have hb := C.2.1
  have hl : lv_has ls 1 [(0, .ref h0)] := hl
  refine lv_aload_n hx hb dX11_last_0 rfl (lv_at hl 0 rfl) ?_
  refine k_get (v := .ref atr) fl_X11_62 C hP 0 rfl e_h0_9 dX11_last_1 ?_
  refine k_callNi (wr := [(h0, .inr (11, ofL 17 Fh0))]) (rest := []) li_X11_301 C (c_X10_withoutOne l G H.size atr Fatr ad al Fad ap Fap Fal e_atr_0 e_atr_2 e_ad_7 e_ap_2) (kR rfl) hP hD hS [1, 2, 3, 4] [0] rfl rfl rfl rfl (by decide) 0 10 rfl rfl rfl hl.1 rfl (Nat.le_of_ble_eq_true rfl) dX11_last_4 (fun rr2 uu3 H locs hw1 hP hD hS => ?_)
  obtain rfl : rr2 = -1 := hw1
  have hP : va_P G.1 vwCl [(h0, .inr (11, ofL 17 Fh0)), (atr, .inr (10, ofL 7 Fatr)), (ad, .inr (1, ofL 10 Fad)), (ap, .inr (7, ofL 5 Fap)), (al, .inr (4, ofL 3 (updV Fal 0 (.int 0))))] H := hP
  have hD : va_D A [(h0, .inr (11, ofL 17 Fh0)), (atr, .inr (10, ofL 7 Fatr)), (ad, .inr (1, ofL 10 Fad)), (ap, .inr (7, ofL 5 Fap)), (al, .inr (4, ofL 3 (updV Fal 0 (.int 0))))] := hD
  exact k_iret C hr hlk hP hD hS () (rfl) [0, 1, 2, 3, 4] rfl rfl (Nat.le_of_ble_eq_true rfl) (Nat.le_of_ble_eq_true rfl) dX11_last_7
set_option maxHeartbeats 4000000 in
set_option maxRecDepth 100000 in
theorem c_X11_pair (l : Launch) (hst : l.stackTraces = false) (G : kG) (sz : Nat) (h0 : Nat) (n0 : Int32) (Fh0 : Nat → Value) (atr : Nat) (Fatr : Nat → Value) (ad : Nat) (al : Nat) (Fad : Nat → Value) (ap : Nat) (Fap : Nat → Value) (Fal : Nat → Value) (e_h0_9 : Fh0 9 = .ref atr) (e_atr_0 : Fatr 0 = .ref ad) (e_atr_2 : Fatr 2 = .ref al) (e_ad_7 : Fad 7 = .ref ap) (e_ap_2 : Fap 2 = .int 0) : kMX l yX11_pair cX11_pair 2 (some .int) { frames := 8, cells := 1, slots := 6, locals := 154 } G [.ref h0, .int n0] [(h0, .inr (11, ofL 17 Fh0)), (atr, .inr (10, ofL 7 Fatr)), (ad, .inr (1, ofL 10 Fad)), (ap, .inr (7, ofL 5 Fap)), (al, .inr (4, ofL 3 Fal))] sz (kQi G (S := Unit) (fun r (_ : Unit) => r = -1 ∧ ¬ n0 < 0 ∧ n0 < 2) (fun _ => [(h0, .inr (11, ofL 17 Fh0)), (atr, .inr (10, ofL 7 Fatr)), (ad, .inr (1, ofL 10 Fad)), (ap, .inr (7, ofL 5 Fap)), (al, .inr (4, ofL 3 (updV Fal 0 (.int 0))))])) (kXC G (S := Nat) (fun E u => (u = 0 ∧ E = "java/util/NoSuchElementException" ∧ n0 < 0) ∨ (u = 1 ∧ E = "java/util/NoSuchElementException" ∧ ¬ n0 < 0 ∧ ¬ n0 < 2)) (fun u => match u with | 0 => [(h0, .inr (11, ofL 17 Fh0)), (atr, .inr (10, ofL 7 Fatr)), (ad, .inr (1, ofL 10 Fad)), (ap, .inr (7, ofL 5 Fap)), (al, .inr (4, ofL 3 Fal))] | _ => [(h0, .inr (11, ofL 17 Fh0)), (atr, .inr (10, ofL 7 Fatr)), (ad, .inr (1, ofL 10 Fad)), (ap, .inr (7, ofL 5 Fap)), (al, .inr (4, ofL 3 Fal))])) := by
  refine kMX.of (by decide) (Nat.le_of_ble_eq_true rfl) ?_
  intro p e s m below meth c A ls H C hr hlk hno hP hD hS hl
  have C : kC G p s m c cX11_pair 2 RX11 A := C
  have hx := C.1
  have hb := C.2.1
  have hl : lv_has ls 2 [(0, .ref h0), (1, .int n0)] := hl
  refine lv_iload_n hx hb dX11_pair_0 rfl (lv_at hl 1 rfl) ?_
  refine lv_iconst (v := 2) hx hb dX11_pair_1 (by decide) ?_
  refine k_xcallSv (wr := [(h0, .inr (11, ofL 17 Fh0)), (atr, .inr (10, ofL 7 Fatr)), (ad, .inr (1, ofL 10 Fad)), (ap, .inr (7, ofL 5 Fap)), (al, .inr (4, ofL 3 Fal))]) (rest := []) li_X11_121 C (c_X11_needWhat l hst G H.size n0 2) (kR rfl) hP hD hS [] [0, 1, 2, 3, 4] rfl rfl rfl rfl (by decide) rfl hl.1 rfl (Nat.le_of_ble_eq_true rfl) dX11_pair_2 (fun E ce q9 uu3 H locs hw1 hP hD hS hc1 hc2 hc3 => ?_) (fun uu3 H locs hw1 hP hD hS => ?_)
  ·
    rcases hw1 with ⟨rfl, rfl, c_4⟩ | ⟨rfl, rfl, c_5, c_6⟩
    ·
      have hP : va_P G.1 vwCl [(h0, .inr (11, ofL 17 Fh0)), (atr, .inr (10, ofL 7 Fatr)), (ad, .inr (1, ofL 10 Fad)), (ap, .inr (7, ofL 5 Fap)), (al, .inr (4, ofL 3 Fal))] H := hP
      have hD : va_D A [(h0, .inr (11, ofL 17 Fh0)), (atr, .inr (10, ofL 7 Fatr)), (ad, .inr (1, ofL 10 Fad)), (ap, .inr (7, ofL 5 Fap)), (al, .inr (4, ofL 3 Fal))] := hD
      exact k_xout hno hlk hP hD hS hc1 hc2 hc3 0 (Or.inl ⟨rfl, rfl, c_4⟩) [0, 1, 2, 3, 4] rfl rfl (Nat.le_of_ble_eq_true rfl) (Nat.le_of_ble_eq_true rfl)
    ·
      have hP : va_P G.1 vwCl [(h0, .inr (11, ofL 17 Fh0)), (atr, .inr (10, ofL 7 Fatr)), (ad, .inr (1, ofL 10 Fad)), (ap, .inr (7, ofL 5 Fap)), (al, .inr (4, ofL 3 Fal))] H := hP
      have hD : va_D A [(h0, .inr (11, ofL 17 Fh0)), (atr, .inr (10, ofL 7 Fatr)), (ad, .inr (1, ofL 10 Fad)), (ap, .inr (7, ofL 5 Fap)), (al, .inr (4, ofL 3 Fal))] := hD
      exact k_xout hno hlk hP hD hS hc1 hc2 hc3 1 (Or.inr (⟨rfl, rfl, c_5, c_6⟩)) [0, 1, 2, 3, 4] rfl rfl (Nat.le_of_ble_eq_true rfl) (Nat.le_of_ble_eq_true rfl)
  obtain ⟨c_7, c_8⟩ := hw1
  have hP : va_P G.1 vwCl [(h0, .inr (11, ofL 17 Fh0)), (atr, .inr (10, ofL 7 Fatr)), (ad, .inr (1, ofL 10 Fad)), (ap, .inr (7, ofL 5 Fap)), (al, .inr (4, ofL 3 Fal))] H := hP
  have hD : va_D A [(h0, .inr (11, ofL 17 Fh0)), (atr, .inr (10, ofL 7 Fatr)), (ad, .inr (1, ofL 10 Fad)), (ap, .inr (7, ofL 5 Fap)), (al, .inr (4, ofL 3 Fal))] := hD
  refine lv_aload_n hx hb dX11_pair_5 rfl (lv_at hl 0 rfl) ?_
  refine k_get (v := .ref atr) fl_X11_62 C hP 0 rfl e_h0_9 dX11_pair_6 ?_
  refine lv_iload_n hx hb dX11_pair_9 rfl (lv_at hl 1 rfl) ?_
  refine k_callNi (wr := [(h0, .inr (11, ofL 17 Fh0))]) (rest := []) li_X11_362 C (c_X10_withoutTwo l G H.size atr n0 Fatr ad al Fad ap Fap Fal e_atr_0 e_atr_2 e_ad_7 e_ap_2) (kR rfl) hP hD hS [1, 2, 3, 4] [0] rfl rfl rfl rfl (by decide) 0 10 rfl rfl rfl hl.1 rfl (Nat.le_of_ble_eq_true rfl) dX11_pair_10 (fun rr10 uu11 H locs hw9 hP hD hS => ?_)
  obtain rfl : rr10 = -1 := hw9
  have hP : va_P G.1 vwCl [(h0, .inr (11, ofL 17 Fh0)), (atr, .inr (10, ofL 7 Fatr)), (ad, .inr (1, ofL 10 Fad)), (ap, .inr (7, ofL 5 Fap)), (al, .inr (4, ofL 3 (updV Fal 0 (.int 0))))] H := hP
  have hD : va_D A [(h0, .inr (11, ofL 17 Fh0)), (atr, .inr (10, ofL 7 Fatr)), (ad, .inr (1, ofL 10 Fad)), (ap, .inr (7, ofL 5 Fap)), (al, .inr (4, ofL 3 (updV Fal 0 (.int 0))))] := hD
  exact vx_ret (k_iret C hr hlk hP hD hS () (⟨rfl, c_7, c_8⟩) [0, 1, 2, 3, 4] rfl rfl (Nat.le_of_ble_eq_true rfl) (Nat.le_of_ble_eq_true rfl) dX11_pair_13)
set_option maxHeartbeats 4000000 in
set_option maxRecDepth 100000 in
theorem c_X11_pause (l : Launch) (hst : l.stackTraces = false) (G : kG) (sz : Nat) (h0 : Nat) (n0 : Int32) (n1 : Int32) (Fh0 : Nat → Value) (atr : Nat) (Fatr : Nat → Value) (ad : Nat) (al : Nat) (Fad : Nat → Value) (ap : Nat) (Fap : Nat → Value) (Fal : Nat → Value) (e_h0_9 : Fh0 9 = .ref atr) (e_atr_0 : Fatr 0 = .ref ad) (e_atr_2 : Fatr 2 = .ref al) (e_ad_7 : Fad 7 = .ref ap) (e_ap_2 : Fap 2 = .int 0) : kMX l yX11_pause cX11_pause 3 (some .int) { frames := 8, cells := 2, slots := 12, locals := 155 } G [.ref h0, .int n0, .int n1] [(h0, .inr (11, ofL 17 Fh0)), (atr, .inr (10, ofL 7 Fatr)), (ad, .inr (1, ofL 10 Fad)), (ap, .inr (7, ofL 5 Fap)), (al, .inr (4, ofL 3 Fal))] sz (kQi G (S := Unit) (fun r (_ : Unit) => r = -1 ∧ ¬ n1 < 0 ∧ n1 < 2 ∧ ¬ n0 < 1 ∧ n0 ≤ 30) (fun _ => [(h0, .inr (11, ofL 17 Fh0)), (atr, .inr (10, ofL 7 Fatr)), (ad, .inr (1, ofL 10 Fad)), (ap, .inr (7, ofL 5 Fap)), (al, .inr (4, ofL 3 (updV Fal 0 (.int 0))))])) (kXC G (S := Nat) (fun E u => (u = 0 ∧ E = "java/util/NoSuchElementException" ∧ n1 < 0) ∨ (u = 1 ∧ E = "java/util/NoSuchElementException" ∧ ¬ n1 < 0 ∧ ¬ n1 < 2) ∨ (u = 2 ∧ E = "java/lang/IllegalArgumentException" ∧ ¬ n1 < 0 ∧ n1 < 2 ∧ n0 < 1) ∨ (u = 3 ∧ E = "java/lang/IllegalArgumentException" ∧ ¬ n1 < 0 ∧ n1 < 2 ∧ ¬ n0 < 1 ∧ ¬ n0 ≤ 30)) (fun u => match u with | 0 => [(h0, .inr (11, ofL 17 Fh0)), (atr, .inr (10, ofL 7 Fatr)), (ad, .inr (1, ofL 10 Fad)), (ap, .inr (7, ofL 5 Fap)), (al, .inr (4, ofL 3 Fal))] | 1 => [(h0, .inr (11, ofL 17 Fh0)), (atr, .inr (10, ofL 7 Fatr)), (ad, .inr (1, ofL 10 Fad)), (ap, .inr (7, ofL 5 Fap)), (al, .inr (4, ofL 3 Fal))] | 2 => [(h0, .inr (11, ofL 17 Fh0)), (atr, .inr (10, ofL 7 Fatr)), (ad, .inr (1, ofL 10 Fad)), (ap, .inr (7, ofL 5 Fap)), (al, .inr (4, ofL 3 Fal))] | _ => [(h0, .inr (11, ofL 17 Fh0)), (atr, .inr (10, ofL 7 Fatr)), (ad, .inr (1, ofL 10 Fad)), (ap, .inr (7, ofL 5 Fap)), (al, .inr (4, ofL 3 Fal))])) := by
  refine kMX.of (by decide) (Nat.le_of_ble_eq_true rfl) ?_
  intro p e s m below meth c A ls H C hr hlk hno hP hD hS hl
  have C : kC G p s m c cX11_pause 3 RX11 A := C
  have hx := C.1
  have hb := C.2.1
  have hl : lv_has ls 3 [(0, .ref h0), (1, .int n0), (2, .int n1)] := hl
  refine lv_iload_n hx hb dX11_pause_0 rfl (lv_at hl 2 rfl) ?_
  refine lv_iconst (v := 2) hx hb dX11_pause_1 (by decide) ?_
  refine k_xcallSv (wr := [(h0, .inr (11, ofL 17 Fh0)), (atr, .inr (10, ofL 7 Fatr)), (ad, .inr (1, ofL 10 Fad)), (ap, .inr (7, ofL 5 Fap)), (al, .inr (4, ofL 3 Fal))]) (rest := []) li_X11_121 C (c_X11_needWhat l hst G H.size n1 2) (kR rfl) hP hD hS [] [0, 1, 2, 3, 4] rfl rfl rfl rfl (by decide) rfl hl.1 rfl (Nat.le_of_ble_eq_true rfl) dX11_pause_2 (fun E ce q9 uu3 H locs hw1 hP hD hS hc1 hc2 hc3 => ?_) (fun uu3 H locs hw1 hP hD hS => ?_)
  ·
    rcases hw1 with ⟨rfl, rfl, c_4⟩ | ⟨rfl, rfl, c_5, c_6⟩
    ·
      have hP : va_P G.1 vwCl [(h0, .inr (11, ofL 17 Fh0)), (atr, .inr (10, ofL 7 Fatr)), (ad, .inr (1, ofL 10 Fad)), (ap, .inr (7, ofL 5 Fap)), (al, .inr (4, ofL 3 Fal))] H := hP
      have hD : va_D A [(h0, .inr (11, ofL 17 Fh0)), (atr, .inr (10, ofL 7 Fatr)), (ad, .inr (1, ofL 10 Fad)), (ap, .inr (7, ofL 5 Fap)), (al, .inr (4, ofL 3 Fal))] := hD
      exact k_xout hno hlk hP hD hS hc1 hc2 hc3 0 (Or.inl ⟨rfl, rfl, c_4⟩) [0, 1, 2, 3, 4] rfl rfl (Nat.le_of_ble_eq_true rfl) (Nat.le_of_ble_eq_true rfl)
    ·
      have hP : va_P G.1 vwCl [(h0, .inr (11, ofL 17 Fh0)), (atr, .inr (10, ofL 7 Fatr)), (ad, .inr (1, ofL 10 Fad)), (ap, .inr (7, ofL 5 Fap)), (al, .inr (4, ofL 3 Fal))] H := hP
      have hD : va_D A [(h0, .inr (11, ofL 17 Fh0)), (atr, .inr (10, ofL 7 Fatr)), (ad, .inr (1, ofL 10 Fad)), (ap, .inr (7, ofL 5 Fap)), (al, .inr (4, ofL 3 Fal))] := hD
      exact k_xout hno hlk hP hD hS hc1 hc2 hc3 1 (Or.inr (Or.inl ⟨rfl, rfl, c_5, c_6⟩)) [0, 1, 2, 3, 4] rfl rfl (Nat.le_of_ble_eq_true rfl) (Nat.le_of_ble_eq_true rfl)
  obtain ⟨c_7, c_8⟩ := hw1
  have hP : va_P G.1 vwCl [(h0, .inr (11, ofL 17 Fh0)), (atr, .inr (10, ofL 7 Fatr)), (ad, .inr (1, ofL 10 Fad)), (ap, .inr (7, ofL 5 Fap)), (al, .inr (4, ofL 3 Fal))] H := hP
  have hD : va_D A [(h0, .inr (11, ofL 17 Fh0)), (atr, .inr (10, ofL 7 Fatr)), (ad, .inr (1, ofL 10 Fad)), (ap, .inr (7, ofL 5 Fap)), (al, .inr (4, ofL 3 Fal))] := hD
  refine lv_iload_n hx hb dX11_pause_5 rfl (lv_at hl 1 rfl) ?_
  refine lv_iconst (v := 1) hx hb dX11_pause_6 (by decide) ?_
  refine lv_bipush (v := 30) hx hb dX11_pause_7 (by decide) ?_
  refine k_xcallSv (wr := [(h0, .inr (11, ofL 17 Fh0)), (atr, .inr (10, ofL 7 Fatr)), (ad, .inr (1, ofL 10 Fad)), (ap, .inr (7, ofL 5 Fap)), (al, .inr (4, ofL 3 Fal))]) (rest := []) li_X11_243 C (c_X11_needWithin l hst G H.size n0 1 30) (kR rfl) hP hD hS [] [0, 1, 2, 3, 4] rfl rfl rfl rfl (by decide) rfl hl.1 rfl (Nat.le_of_ble_eq_true rfl) dX11_pause_9 (fun E ce q9 uu11 H locs hw9 hP hD hS hc1 hc2 hc3 => ?_) (fun uu11 H locs hw9 hP hD hS => ?_)
  ·
    rcases hw9 with ⟨rfl, rfl, c_12⟩ | ⟨rfl, rfl, c_13, c_14⟩
    ·
      have hP : va_P G.1 vwCl [(h0, .inr (11, ofL 17 Fh0)), (atr, .inr (10, ofL 7 Fatr)), (ad, .inr (1, ofL 10 Fad)), (ap, .inr (7, ofL 5 Fap)), (al, .inr (4, ofL 3 Fal))] H := hP
      have hD : va_D A [(h0, .inr (11, ofL 17 Fh0)), (atr, .inr (10, ofL 7 Fatr)), (ad, .inr (1, ofL 10 Fad)), (ap, .inr (7, ofL 5 Fap)), (al, .inr (4, ofL 3 Fal))] := hD
      exact k_xout hno hlk hP hD hS hc1 hc2 hc3 2 (Or.inr (Or.inr (Or.inl ⟨rfl, rfl, c_7, c_8, c_12⟩))) [0, 1, 2, 3, 4] rfl rfl (Nat.le_of_ble_eq_true rfl) (Nat.le_of_ble_eq_true rfl)
    ·
      have hP : va_P G.1 vwCl [(h0, .inr (11, ofL 17 Fh0)), (atr, .inr (10, ofL 7 Fatr)), (ad, .inr (1, ofL 10 Fad)), (ap, .inr (7, ofL 5 Fap)), (al, .inr (4, ofL 3 Fal))] H := hP
      have hD : va_D A [(h0, .inr (11, ofL 17 Fh0)), (atr, .inr (10, ofL 7 Fatr)), (ad, .inr (1, ofL 10 Fad)), (ap, .inr (7, ofL 5 Fap)), (al, .inr (4, ofL 3 Fal))] := hD
      exact k_xout hno hlk hP hD hS hc1 hc2 hc3 3 (Or.inr (Or.inr (Or.inr (⟨rfl, rfl, c_7, c_8, c_13, c_14⟩)))) [0, 1, 2, 3, 4] rfl rfl (Nat.le_of_ble_eq_true rfl) (Nat.le_of_ble_eq_true rfl)
  obtain ⟨c_15, c_16⟩ := hw9
  have hP : va_P G.1 vwCl [(h0, .inr (11, ofL 17 Fh0)), (atr, .inr (10, ofL 7 Fatr)), (ad, .inr (1, ofL 10 Fad)), (ap, .inr (7, ofL 5 Fap)), (al, .inr (4, ofL 3 Fal))] H := hP
  have hD : va_D A [(h0, .inr (11, ofL 17 Fh0)), (atr, .inr (10, ofL 7 Fatr)), (ad, .inr (1, ofL 10 Fad)), (ap, .inr (7, ofL 5 Fap)), (al, .inr (4, ofL 3 Fal))] := hD
  refine lv_aload_n hx hb dX11_pause_12 rfl (lv_at hl 0 rfl) ?_
  refine k_get (v := .ref atr) fl_X11_62 C hP 0 rfl e_h0_9 dX11_pause_13 ?_
  refine lv_iload_n hx hb dX11_pause_16 rfl (lv_at hl 1 rfl) ?_
  refine lv_iload_n hx hb dX11_pause_17 rfl (lv_at hl 2 rfl) ?_
  refine k_callNi (wr := [(h0, .inr (11, ofL 17 Fh0))]) (rest := []) li_X11_365 C (c_X10_leastByPause l G H.size atr n0 n1 Fatr ad al Fad ap Fap Fal e_atr_0 e_atr_2 e_ad_7 e_ap_2) (kR rfl) hP hD hS [1, 2, 3, 4] [0] rfl rfl rfl rfl (by decide) 0 10 rfl rfl rfl hl.1 rfl (Nat.le_of_ble_eq_true rfl) dX11_pause_18 (fun rr18 uu19 H locs hw17 hP hD hS => ?_)
  obtain rfl : rr18 = -1 := hw17
  have hP : va_P G.1 vwCl [(h0, .inr (11, ofL 17 Fh0)), (atr, .inr (10, ofL 7 Fatr)), (ad, .inr (1, ofL 10 Fad)), (ap, .inr (7, ofL 5 Fap)), (al, .inr (4, ofL 3 (updV Fal 0 (.int 0))))] H := hP
  have hD : va_D A [(h0, .inr (11, ofL 17 Fh0)), (atr, .inr (10, ofL 7 Fatr)), (ad, .inr (1, ofL 10 Fad)), (ap, .inr (7, ofL 5 Fap)), (al, .inr (4, ofL 3 (updV Fal 0 (.int 0))))] := hD
  exact vx_ret (k_iret C hr hlk hP hD hS () (⟨rfl, c_7, c_8, c_15, c_16⟩) [0, 1, 2, 3, 4] rfl rfl (Nat.le_of_ble_eq_true rfl) (Nat.le_of_ble_eq_true rfl) dX11_pause_21)
set_option maxHeartbeats 4000000 in
set_option maxRecDepth 100000 in
theorem c_X11_compare (l : Launch) (hst : l.stackTraces = false) (G : kG) (sz : Nat) (h0 : Nat) (n0 : Int32) (Fh0 : Nat → Value) (ap : Nat) (atr : Nat) (Fatr : Nat → Value) (ad : Nat) (ah : Nat) (al : Nat) (Fad : Nat → Value) (Fap : Nat → Value) (ar : Nat) (Fah : Nat → Value) (n9 : Int32) (Fal : Nat → Value) (Far : Nat → Value) (e_h0_3 : Fh0 3 = .ref ap) (e_h0_9 : Fh0 9 = .ref atr) (e_atr_0 : Fatr 0 = .ref ad) (e_atr_1 : Fatr 1 = .ref ah) (e_atr_2 : Fatr 2 = .ref al) (e_ad_7 : Fad 7 = .ref ap) (e_ap_1 : Fap 1 = .ref ar) (e_ap_2 : Fap 2 = .int 0) (e_ah_11 : Fah 11 = .int n9) (e_ar_3 : Far 3 = .int 0) : kMX l yX11_compare cX11_compare 2 (some .int) { frames := 9, cells := 1, slots := 6, locals := 177 } G [.ref h0, .int n0] [(h0, .inr (11, ofL 17 Fh0)), (atr, .inr (10, ofL 7 Fatr)), (ad, .inr (1, ofL 10 Fad)), (ap, .inr (7, ofL 5 Fap)), (ah, .inr (3, ofL 12 Fah)), (al, .inr (4, ofL 3 Fal)), (ar, .inr (8, ofL 5 Far))] sz (kQi G (S := Unit) (fun r (_ : Unit) => r = 0 ∧ ¬ n0 < (-1) ∧ ¬ 0 ≤ n0) (fun _ => [(al, .inr (4, ofL 3 Fal)), (h0, .inr (11, ofL 17 Fh0)), (ar, .inr (8, ofL 5 Far)), (atr, .inr (10, ofL 7 Fatr)), (ah, .inr (3, ofL 12 (updV (updV Fah 11 (.int n0)) 11 (.int n9)))), (ad, .inr (1, ofL 10 Fad)), (ap, .inr (7, ofL 5 Fap))])) (kXC G (S := Nat) (fun E u => (u = 0 ∧ E = "java/util/NoSuchElementException" ∧ n0 < (-1)) ∨ (u = 1 ∧ E = "java/util/NoSuchElementException" ∧ ¬ n0 < (-1) ∧ 0 ≤ n0)) (fun u => match u with | 0 => [(atr, .inr (10, ofL 7 Fatr)), (ad, .inr (1, ofL 10 Fad)), (ah, .inr (3, ofL 12 Fah)), (al, .inr (4, ofL 3 Fal)), (h0, .inr (11, ofL 17 Fh0)), (ap, .inr (7, ofL 5 Fap)), (ar, .inr (8, ofL 5 Far))] | _ => [(atr, .inr (10, ofL 7 Fatr)), (ad, .inr (1, ofL 10 Fad)), (ah, .inr (3, ofL 12 Fah)), (al, .inr (4, ofL 3 Fal)), (h0, .inr (11, ofL 17 Fh0)), (ap, .inr (7, ofL 5 Fap)), (ar, .inr (8, ofL 5 Far))])) := by
  refine kMX.of (by decide) (Nat.le_of_ble_eq_true rfl) ?_
  intro p e s m below meth c A ls H C hr hlk hno hP hD hS hl
  have C : kC G p s m c cX11_compare 2 RX11 A := C
  have hx := C.1
  have hb := C.2.1
  have hl : lv_has ls 2 [(0, .ref h0), (1, .int n0)] := hl
  refine lv_aload_n hx hb dX11_compare_0 rfl (lv_at hl 0 rfl) ?_
  refine lv_iload_n hx hb dX11_compare_1 rfl (lv_at hl 1 rfl) ?_
  refine k_callVi (wr := [(atr, .inr (10, ofL 7 Fatr)), (ad, .inr (1, ofL 10 Fad)), (ah, .inr (3, ofL 12 Fah)), (al, .inr (4, ofL 3 Fal))]) (rest := []) li_X11_235 C (c_X11_isRuleOrNone l G H.size h0 n0 Fh0 ap Fap ar Far e_h0_3 e_ap_1 e_ar_3) (kR rfl) hP hD hS [0, 3, 6] [1, 2, 4, 5] rfl rfl rfl rfl (by decide) 0 11 rfl rfl rfl hl.1 rfl (Nat.le_of_ble_eq_true rfl) dX11_compare_2 (fun rr2 uu3 H locs hw1 hP hD hS => ?_)
  rcases hw1 with ⟨rfl, rfl, c_4⟩ | ⟨rfl, rfl, c_5, c_6⟩ | ⟨rfl, rfl, c_7, c_8⟩
  ·
    have hP : va_P G.1 vwCl [(atr, .inr (10, ofL 7 Fatr)), (ad, .inr (1, ofL 10 Fad)), (ah, .inr (3, ofL 12 Fah)), (al, .inr (4, ofL 3 Fal)), (h0, .inr (11, ofL 17 Fh0)), (ap, .inr (7, ofL 5 Fap)), (ar, .inr (8, ofL 5 Far))] H := hP
    have hD : va_D A [(atr, .inr (10, ofL 7 Fatr)), (ad, .inr (1, ofL 10 Fad)), (ah, .inr (3, ofL 12 Fah)), (al, .inr (4, ofL 3 Fal)), (h0, .inr (11, ofL 17 Fh0)), (ap, .inr (7, ofL 5 Fap)), (ar, .inr (8, ofL 5 Far))] := hD
    refine lv_if_ne (x := 0) (tgt := 16) hx hb dX11_compare_5 (by decide) (fun c_9 => ?_) (fun c_9 => ?_)
    · exact absurd (by decide) c_9
    exact k_throw hst ⟨by decide +kernel, by decide +kernel⟩ th_X11_219_221 hno hlk C hl.1 hP hD hS dX11_compare_8 dX11_compare_11 dX11_compare_12 dX11_compare_15 (Nat.lt_of_lt_of_le (by decide) (Nat.le_of_ble_eq_true rfl : 6 ≤ _)) (Nat.le_of_ble_eq_true rfl) ⟨Nat.le_of_ble_eq_true rfl, Nat.le_of_ble_eq_true rfl⟩ 0 (Or.inl ⟨rfl, rfl, c_4⟩) [0, 1, 2, 3, 4, 5, 6] rfl rfl (Nat.le_of_ble_eq_true rfl) (Nat.le_of_ble_eq_true rfl)
  ·
    have hP : va_P G.1 vwCl [(atr, .inr (10, ofL 7 Fatr)), (ad, .inr (1, ofL 10 Fad)), (ah, .inr (3, ofL 12 Fah)), (al, .inr (4, ofL 3 Fal)), (h0, .inr (11, ofL 17 Fh0)), (ap, .inr (7, ofL 5 Fap)), (ar, .inr (8, ofL 5 Far))] H := hP
    have hD : va_D A [(atr, .inr (10, ofL 7 Fatr)), (ad, .inr (1, ofL 10 Fad)), (ah, .inr (3, ofL 12 Fah)), (al, .inr (4, ofL 3 Fal)), (h0, .inr (11, ofL 17 Fh0)), (ap, .inr (7, ofL 5 Fap)), (ar, .inr (8, ofL 5 Far))] := hD
    refine lv_if_ne (x := 0) (tgt := 16) hx hb dX11_compare_5 (by decide) (fun c_10 => ?_) (fun c_10 => ?_)
    · exact absurd (by decide) c_10
    exact k_throw hst ⟨by decide +kernel, by decide +kernel⟩ th_X11_219_221 hno hlk C hl.1 hP hD hS dX11_compare_8 dX11_compare_11 dX11_compare_12 dX11_compare_15 (Nat.lt_of_lt_of_le (by decide) (Nat.le_of_ble_eq_true rfl : 6 ≤ _)) (Nat.le_of_ble_eq_true rfl) ⟨Nat.le_of_ble_eq_true rfl, Nat.le_of_ble_eq_true rfl⟩ 1 (Or.inr (⟨rfl, rfl, c_5, c_6⟩)) [0, 1, 2, 3, 4, 5, 6] rfl rfl (Nat.le_of_ble_eq_true rfl) (Nat.le_of_ble_eq_true rfl)
  ·
    have hP : va_P G.1 vwCl [(atr, .inr (10, ofL 7 Fatr)), (ad, .inr (1, ofL 10 Fad)), (ah, .inr (3, ofL 12 Fah)), (al, .inr (4, ofL 3 Fal)), (h0, .inr (11, ofL 17 Fh0)), (ap, .inr (7, ofL 5 Fap)), (ar, .inr (8, ofL 5 Far))] H := hP
    have hD : va_D A [(atr, .inr (10, ofL 7 Fatr)), (ad, .inr (1, ofL 10 Fad)), (ah, .inr (3, ofL 12 Fah)), (al, .inr (4, ofL 3 Fal)), (h0, .inr (11, ofL 17 Fh0)), (ap, .inr (7, ofL 5 Fap)), (ar, .inr (8, ofL 5 Far))] := hD
    refine lv_if_ne (x := 1) (tgt := 16) hx hb dX11_compare_5 (by decide) (fun c_11 => ?_) (fun c_11 => ?_)
    rotate_left
    · exact absurd c_11 (by decide)
    refine lv_aload_n hx hb dX11_compare_16 rfl (lv_at hl 0 rfl) ?_
    refine k_get (v := .ref atr) fl_X11_62 C hP 4 rfl e_h0_9 dX11_compare_17 ?_
    refine lv_iload_n hx hb dX11_compare_20 rfl (lv_at hl 1 rfl) ?_
    refine k_callNi (wr := [(al, .inr (4, ofL 3 Fal)), (h0, .inr (11, ofL 17 Fh0)), (ar, .inr (8, ofL 5 Far))]) (rest := []) li_X11_304 C (c_X10_lostByRule l G H.size atr n0 Fatr ad ah Fad ap Fap Fah n9 e_atr_0 e_atr_1 e_ad_7 e_ap_2 e_ah_11) (kR rfl) hP hD hS [0, 1, 5, 2] [3, 4, 6] rfl rfl rfl rfl (by decide) 0 10 rfl rfl rfl hl.1 rfl (Nat.le_of_ble_eq_true rfl) dX11_compare_21 (fun rr13 uu14 H locs hw12 hP hD hS => ?_)
    obtain rfl : rr13 = 0 := hw12
    have hP : va_P G.1 vwCl [(al, .inr (4, ofL 3 Fal)), (h0, .inr (11, ofL 17 Fh0)), (ar, .inr (8, ofL 5 Far)), (atr, .inr (10, ofL 7 Fatr)), (ah, .inr (3, ofL 12 (updV (updV Fah 11 (.int n0)) 11 (.int n9)))), (ad, .inr (1, ofL 10 Fad)), (ap, .inr (7, ofL 5 Fap))] H := hP
    have hD : va_D A [(al, .inr (4, ofL 3 Fal)), (h0, .inr (11, ofL 17 Fh0)), (ar, .inr (8, ofL 5 Far)), (atr, .inr (10, ofL 7 Fatr)), (ah, .inr (3, ofL 12 (updV (updV Fah 11 (.int n0)) 11 (.int n9)))), (ad, .inr (1, ofL 10 Fad)), (ap, .inr (7, ofL 5 Fap))] := hD
    exact vx_ret (k_iret C hr hlk hP hD hS () (⟨rfl, c_7, c_8⟩) [0, 1, 2, 3, 4, 5, 6] rfl rfl (Nat.le_of_ble_eq_true rfl) (Nat.le_of_ble_eq_true rfl) dX11_compare_24)
set_option maxHeartbeats 4000000 in
set_option maxRecDepth 100000 in
theorem c_X11_best (l : Launch) (G : kG) (sz : Nat) (h0 : Nat) (Fh0 : Nat → Value) (ap : Nat) (atr : Nat) (Fatr : Nat → Value) (ad : Nat) (ah : Nat) (al : Nat) (Fad : Nat → Value) (Fap : Nat → Value) (ar : Nat) (Fah : Nat → Value) (n9 : Int32) (Fal : Nat → Value) (Far : Nat → Value) (e_h0_3 : Fh0 3 = .ref ap) (e_h0_9 : Fh0 9 = .ref atr) (e_atr_0 : Fatr 0 = .ref ad) (e_atr_1 : Fatr 1 = .ref ah) (e_atr_2 : Fatr 2 = .ref al) (e_ad_7 : Fad 7 = .ref ap) (e_ap_1 : Fap 1 = .ref ar) (e_ap_2 : Fap 2 = .int 0) (e_ah_11 : Fah 11 = .int n9) (e_ar_3 : Far 3 = .int 0) : kM l yX11_best cX11_best 1 (some .int) { frames := 10, cells := 0, slots := 0, locals := 198 } G [.ref h0] [(h0, .inr (11, ofL 17 Fh0)), (atr, .inr (10, ofL 7 Fatr)), (ad, .inr (1, ofL 10 Fad)), (ap, .inr (7, ofL 5 Fap)), (ah, .inr (3, ofL 12 Fah)), (al, .inr (4, ofL 3 Fal)), (ar, .inr (8, ofL 5 Far))] sz (kQi G (S := Unit) (fun r (_ : Unit) => r = -1) (fun _ => [(h0, .inr (11, ofL 17 Fh0)), (ar, .inr (8, ofL 5 Far)), (atr, .inr (10, ofL 7 Fatr)), (ah, .inr (3, ofL 12 (updV (updV Fah 11 (.int (-1))) 11 (.int n9)))), (ad, .inr (1, ofL 10 Fad)), (ap, .inr (7, ofL 5 Fap)), (al, .inr (4, ofL 3 (updV (updV (updV (updV Fal 0 (.int 0)) 0 (.int 1)) 1 (.int (-1))) 2 (.int 0))))])) := by
  refine kM.of (by decide) (Nat.le_of_ble_eq_true rfl) ?_
  intro p e s m below meth c A ls H C hr hlk hnm hP hD hS hl
  have C : kC G p s m c cX11_best 1 RX11 A := C
  have hx := C.1
  have hb := C.2.1
  have hl : lv_has ls 1 [(0, .ref h0)] := hl
  refine lv_aload_n hx hb dX11_best_0 rfl (lv_at hl 0 rfl) ?_
  refine k_get (v := .ref atr) fl_X11_62 C hP 0 rfl e_h0_9 dX11_best_1 ?_
  refine k_callNi (wr := [(h0, .inr (11, ofL 17 Fh0))]) (rest := []) li_X11_307 C (c_X10_bestRule l G H.size atr Fatr ad ah al Fad ap Fap ar Fah n9 Fal Far e_atr_0 e_atr_1 e_atr_2 e_ad_7 e_ap_1 e_ap_2 e_ah_11 e_ar_3) (kR rfl) hP hD hS [1, 2, 3, 4, 5, 6] [0] rfl rfl rfl rfl (by decide) 0 10 rfl rfl rfl hl.1 rfl (Nat.le_of_ble_eq_true rfl) dX11_best_4 (fun rr2 uu3 H locs hw1 hP hD hS => ?_)
  obtain rfl : rr2 = -1 := hw1
  have hP : va_P G.1 vwCl [(h0, .inr (11, ofL 17 Fh0)), (ar, .inr (8, ofL 5 Far)), (atr, .inr (10, ofL 7 Fatr)), (ah, .inr (3, ofL 12 (updV (updV Fah 11 (.int (-1))) 11 (.int n9)))), (ad, .inr (1, ofL 10 Fad)), (ap, .inr (7, ofL 5 Fap)), (al, .inr (4, ofL 3 (updV (updV (updV (updV Fal 0 (.int 0)) 0 (.int 1)) 1 (.int (-1))) 2 (.int 0))))] H := hP
  have hD : va_D A [(h0, .inr (11, ofL 17 Fh0)), (ar, .inr (8, ofL 5 Far)), (atr, .inr (10, ofL 7 Fatr)), (ah, .inr (3, ofL 12 (updV (updV Fah 11 (.int (-1))) 11 (.int n9)))), (ad, .inr (1, ofL 10 Fad)), (ap, .inr (7, ofL 5 Fap)), (al, .inr (4, ofL 3 (updV (updV (updV (updV Fal 0 (.int 0)) 0 (.int 1)) 1 (.int (-1))) 2 (.int 0))))] := hD
  exact k_iret C hr hlk hP hD hS () (rfl) [0, 1, 2, 3, 4, 5, 6] rfl rfl (Nat.le_of_ble_eq_true rfl) (Nat.le_of_ble_eq_true rfl) dX11_best_7
set_option maxHeartbeats 4000000 in
set_option maxRecDepth 100000 in
theorem c_X11_bell (l : Launch) (hst : l.stackTraces = false) (G : kG) (sz : Nat) (h0 : Nat) (n0 : Int32) (Fh0 : Nat → Value) (atr : Nat) (Fatr : Nat → Value) (ad : Nat) (ah : Nat) (asv : Nat) (Fad : Nat → Value) (ap : Nat) (Fap : Nat → Value) (Fah : Nat → Value) (ao : Nat) (f0 : Nat → Int32) (f1 : Nat → Int32) (e_h0_9 : Fh0 9 = .ref atr) (e_atr_0 : Fatr 0 = .ref ad) (e_atr_1 : Fatr 1 = .ref ah) (e_atr_3 : Fatr 3 = .ref asv) (e_ad_7 : Fad 7 = .ref ap) (e_ap_2 : Fap 2 = .int 0) (e_ah_0 : Fah 0 = .ref ao) : kMX l yX11_bell cX11_bell 2 (some .int) { frames := 9, cells := 1, slots := 6, locals := 177 } G [.ref h0, .int n0] [(h0, .inr (11, ofL 17 Fh0)), (atr, .inr (10, ofL 7 Fatr)), (ad, .inr (1, ofL 10 Fad)), (ap, .inr (7, ofL 5 Fap)), (ah, .inr (3, ofL 12 Fah)), (ao, .inl (G.2.1, 12, .inl f0)), (asv, .inl (G.2.1, 12, .inl f1))] sz (kQi G (S := Unit) (fun r (_ : Unit) => r = 0 ∧ ¬ n0 < 0 ∧ n0 ≤ 60) (fun _ => [(h0, .inr (11, ofL 17 Fh0)), (ah, .inr (3, ofL 12 Fah)), (ao, .inl (G.2.1, 12, .inl (va_cpy (va_cpy f0 f1 0 0 12) f0 0 0 12))), (asv, .inl (G.2.1, 12, .inl (va_cpy f0 f1 0 0 12))), (atr, .inr (10, ofL 7 Fatr)), (ad, .inr (1, ofL 10 Fad)), (ap, .inr (7, ofL 5 Fap))])) (kXC G (S := Nat) (fun E u => (u = 0 ∧ E = "java/lang/IllegalArgumentException" ∧ n0 < 0) ∨ (u = 1 ∧ E = "java/lang/IllegalArgumentException" ∧ ¬ n0 < 0 ∧ ¬ n0 ≤ 60)) (fun u => match u with | 0 => [(h0, .inr (11, ofL 17 Fh0)), (atr, .inr (10, ofL 7 Fatr)), (ad, .inr (1, ofL 10 Fad)), (ap, .inr (7, ofL 5 Fap)), (ah, .inr (3, ofL 12 Fah)), (ao, .inl (G.2.1, 12, .inl f0)), (asv, .inl (G.2.1, 12, .inl f1))] | _ => [(h0, .inr (11, ofL 17 Fh0)), (atr, .inr (10, ofL 7 Fatr)), (ad, .inr (1, ofL 10 Fad)), (ap, .inr (7, ofL 5 Fap)), (ah, .inr (3, ofL 12 Fah)), (ao, .inl (G.2.1, 12, .inl f0)), (asv, .inl (G.2.1, 12, .inl f1))])) := by
  refine kMX.of (by decide) (Nat.le_of_ble_eq_true rfl) ?_
  intro p e s m below meth c A ls H C hr hlk hno hP hD hS hl
  have C : kC G p s m c cX11_bell 2 RX11 A := C
  have hx := C.1
  have hb := C.2.1
  have hl : lv_has ls 2 [(0, .ref h0), (1, .int n0)] := hl
  refine lv_iload_n hx hb dX11_bell_0 rfl (lv_at hl 1 rfl) ?_
  refine lv_iconst (v := 0) hx hb dX11_bell_1 (by decide) ?_
  refine lv_bipush (v := 60) hx hb dX11_bell_2 (by decide) ?_
  refine k_xcallSv (wr := [(h0, .inr (11, ofL 17 Fh0)), (atr, .inr (10, ofL 7 Fatr)), (ad, .inr (1, ofL 10 Fad)), (ap, .inr (7, ofL 5 Fap)), (ah, .inr (3, ofL 12 Fah)), (ao, .inl (G.2.1, 12, .inl f0)), (asv, .inl (G.2.1, 12, .inl f1))]) (rest := []) li_X11_243 C (c_X11_needWithin l hst G H.size n0 0 60) (kR rfl) hP hD hS [] [0, 1, 2, 3, 4, 5, 6] rfl rfl rfl rfl (by decide) rfl hl.1 rfl (Nat.le_of_ble_eq_true rfl) dX11_bell_4 (fun E ce q9 uu3 H locs hw1 hP hD hS hc1 hc2 hc3 => ?_) (fun uu3 H locs hw1 hP hD hS => ?_)
  ·
    rcases hw1 with ⟨rfl, rfl, c_4⟩ | ⟨rfl, rfl, c_5, c_6⟩
    ·
      have hP : va_P G.1 vwCl [(h0, .inr (11, ofL 17 Fh0)), (atr, .inr (10, ofL 7 Fatr)), (ad, .inr (1, ofL 10 Fad)), (ap, .inr (7, ofL 5 Fap)), (ah, .inr (3, ofL 12 Fah)), (ao, .inl (G.2.1, 12, .inl f0)), (asv, .inl (G.2.1, 12, .inl f1))] H := hP
      have hD : va_D A [(h0, .inr (11, ofL 17 Fh0)), (atr, .inr (10, ofL 7 Fatr)), (ad, .inr (1, ofL 10 Fad)), (ap, .inr (7, ofL 5 Fap)), (ah, .inr (3, ofL 12 Fah)), (ao, .inl (G.2.1, 12, .inl f0)), (asv, .inl (G.2.1, 12, .inl f1))] := hD
      exact k_xout hno hlk hP hD hS hc1 hc2 hc3 0 (Or.inl ⟨rfl, rfl, c_4⟩) [0, 1, 2, 3, 4, 5, 6] rfl rfl (Nat.le_of_ble_eq_true rfl) (Nat.le_of_ble_eq_true rfl)
    ·
      have hP : va_P G.1 vwCl [(h0, .inr (11, ofL 17 Fh0)), (atr, .inr (10, ofL 7 Fatr)), (ad, .inr (1, ofL 10 Fad)), (ap, .inr (7, ofL 5 Fap)), (ah, .inr (3, ofL 12 Fah)), (ao, .inl (G.2.1, 12, .inl f0)), (asv, .inl (G.2.1, 12, .inl f1))] H := hP
      have hD : va_D A [(h0, .inr (11, ofL 17 Fh0)), (atr, .inr (10, ofL 7 Fatr)), (ad, .inr (1, ofL 10 Fad)), (ap, .inr (7, ofL 5 Fap)), (ah, .inr (3, ofL 12 Fah)), (ao, .inl (G.2.1, 12, .inl f0)), (asv, .inl (G.2.1, 12, .inl f1))] := hD
      exact k_xout hno hlk hP hD hS hc1 hc2 hc3 1 (Or.inr (⟨rfl, rfl, c_5, c_6⟩)) [0, 1, 2, 3, 4, 5, 6] rfl rfl (Nat.le_of_ble_eq_true rfl) (Nat.le_of_ble_eq_true rfl)
  obtain ⟨c_7, c_8⟩ := hw1
  have hP : va_P G.1 vwCl [(h0, .inr (11, ofL 17 Fh0)), (atr, .inr (10, ofL 7 Fatr)), (ad, .inr (1, ofL 10 Fad)), (ap, .inr (7, ofL 5 Fap)), (ah, .inr (3, ofL 12 Fah)), (ao, .inl (G.2.1, 12, .inl f0)), (asv, .inl (G.2.1, 12, .inl f1))] H := hP
  have hD : va_D A [(h0, .inr (11, ofL 17 Fh0)), (atr, .inr (10, ofL 7 Fatr)), (ad, .inr (1, ofL 10 Fad)), (ap, .inr (7, ofL 5 Fap)), (ah, .inr (3, ofL 12 Fah)), (ao, .inl (G.2.1, 12, .inl f0)), (asv, .inl (G.2.1, 12, .inl f1))] := hD
  refine lv_aload_n hx hb dX11_bell_7 rfl (lv_at hl 0 rfl) ?_
  refine k_get (v := .ref atr) fl_X11_62 C hP 0 rfl e_h0_9 dX11_bell_8 ?_
  refine lv_iload_n hx hb dX11_bell_11 rfl (lv_at hl 1 rfl) ?_
  refine k_callNi (wr := [(h0, .inr (11, ofL 17 Fh0))]) (rest := []) li_X11_310 C (c_X10_worthOfBell l G H.size atr n0 Fatr ad ah asv Fad ap Fap Fah ao f0 f1 e_atr_0 e_atr_1 e_atr_3 e_ad_7 e_ap_2 e_ah_0) (kR rfl) hP hD hS [1, 2, 3, 4, 5, 6] [0] rfl rfl rfl rfl (by decide) 0 10 rfl rfl rfl hl.1 rfl (Nat.le_of_ble_eq_true rfl) dX11_bell_12 (fun rr10 uu11 H locs hw9 hP hD hS => ?_)
  obtain rfl : rr10 = 0 := hw9
  have hP : va_P G.1 vwCl [(h0, .inr (11, ofL 17 Fh0)), (ah, .inr (3, ofL 12 Fah)), (ao, .inl (G.2.1, 12, .inl (va_cpy (va_cpy f0 f1 0 0 12) f0 0 0 12))), (asv, .inl (G.2.1, 12, .inl (va_cpy f0 f1 0 0 12))), (atr, .inr (10, ofL 7 Fatr)), (ad, .inr (1, ofL 10 Fad)), (ap, .inr (7, ofL 5 Fap))] H := hP
  have hD : va_D A [(h0, .inr (11, ofL 17 Fh0)), (ah, .inr (3, ofL 12 Fah)), (ao, .inl (G.2.1, 12, .inl (va_cpy (va_cpy f0 f1 0 0 12) f0 0 0 12))), (asv, .inl (G.2.1, 12, .inl (va_cpy f0 f1 0 0 12))), (atr, .inr (10, ofL 7 Fatr)), (ad, .inr (1, ofL 10 Fad)), (ap, .inr (7, ofL 5 Fap))] := hD
  exact vx_ret (k_iret C hr hlk hP hD hS () (⟨rfl, c_7, c_8⟩) [0, 1, 2, 3, 4, 5, 6] rfl rfl (Nat.le_of_ble_eq_true rfl) (Nat.le_of_ble_eq_true rfl) dX11_bell_15)
set_option maxHeartbeats 4000000 in
set_option maxRecDepth 100000 in
theorem c_X11_forget (l : Launch) (G : kG) (sz : Nat) (h0 : Nat) (Fh0 : Nat → Value) (ah : Nat) (Fah : Nat → Value) (e_h0_6 : Fh0 6 = .ref ah) : kM l yX11_forget cX11_forget 1 none { frames := 6, cells := 0, slots := 0, locals := 110 } G [.ref h0] [(h0, .inr (11, ofL 17 Fh0)), (ah, .inr (3, ofL 12 Fah))] sz (kQv G (S := Unit) (fun (_ : Unit) => True) (fun _ => [(h0, .inr (11, ofL 17 Fh0)), (ah, .inr (3, ofL 12 (updV Fah 10 (.int 0))))])) := by
  refine kM.of (by decide) (Nat.le_of_ble_eq_true rfl) ?_
  intro p e s m below meth c A ls H C hr hlk hnm hP hD hS hl
  have C : kC G p s m c cX11_forget 1 RX11 A := C
  have hx := C.1
  have hb := C.2.1
  have hl : lv_has ls 1 [(0, .ref h0)] := hl
  refine lv_aload_n hx hb dX11_forget_0 rfl (lv_at hl 0 rfl) ?_
  refine k_get (v := .ref ah) fl_X11_41 C hP 0 rfl e_h0_6 dX11_forget_1 ?_
  refine lv_iconst (v := 0) hx hb dX11_forget_4 (by decide) ?_
  refine k_putN fl_X11_149 ft_X3_10 C hP hD hS 1 rfl rfl rfl dX11_forget_5 (fun H locs hP hD hS => ?_)
  have hP : va_P G.1 vwCl [(h0, .inr (11, ofL 17 Fh0)), (ah, .inr (3, ofL 12 (updV Fah 10 (.int 0))))] H := hP
  have hD : va_D A [(h0, .inr (11, ofL 17 Fh0)), (ah, .inr (3, ofL 12 (updV Fah 10 (.int 0))))] := hD
  exact k_vret C hr hlk hP hD hS () (trivial) [0, 1] rfl rfl (Nat.le_of_ble_eq_true rfl) (Nat.le_of_ble_eq_true rfl) dX11_forget_8
set_option maxHeartbeats 4000000 in
set_option maxRecDepth 100000 in
theorem c_X11_fits (l : Launch) (hst : l.stackTraces = false) (G : kG) (sz : Nat) (h0 : Nat) (n0 : Int32) (Fh0 : Nat → Value) (atr : Nat) (Fatr : Nat → Value) (ad : Nat) (Fad : Nat → Value) (ap : Nat) (Fap : Nat → Value) (e_h0_9 : Fh0 9 = .ref atr) (e_atr_0 : Fatr 0 = .ref ad) (e_ad_7 : Fad 7 = .ref ap) (e_ap_2 : Fap 2 = .int 0) : kMX l yX11_fits cX11_fits 2 (some .int) { frames := 8, cells := 1, slots := 6, locals := 153 } G [.ref h0, .int n0] [(h0, .inr (11, ofL 17 Fh0)), (atr, .inr (10, ofL 7 Fatr)), (ad, .inr (1, ofL 10 Fad)), (ap, .inr (7, ofL 5 Fap))] sz (kQi G (S := Nat) (fun r u => (u = 0 ∧ r = 0 ∧ ¬ n0 < 0 ∧ n0 < 3 ∧ n0 = 0) ∨ (u = 1 ∧ r = -1 ∧ ¬ n0 < 0 ∧ n0 < 3 ∧ n0 = 1) ∨ (u = 2 ∧ r = -1 ∧ ¬ n0 < 0 ∧ n0 < 3 ∧ n0 = 2)) (fun u => match u with | 0 => [(h0, .inr (11, ofL 17 Fh0)), (atr, .inr (10, ofL 7 (updV (updV (updV Fatr 4 (.int 0)) 5 (.int (-1))) 6 (.int (-1))))), (ad, .inr (1, ofL 10 Fad)), (ap, .inr (7, ofL 5 Fap))] | 1 => [(h0, .inr (11, ofL 17 Fh0)), (atr, .inr (10, ofL 7 (updV (updV (updV Fatr 4 (.int 0)) 5 (.int (-1))) 6 (.int (-1))))), (ad, .inr (1, ofL 10 Fad)), (ap, .inr (7, ofL 5 Fap))] | _ => [(h0, .inr (11, ofL 17 Fh0)), (atr, .inr (10, ofL 7 (updV (updV (updV Fatr 4 (.int 0)) 5 (.int (-1))) 6 (.int (-1))))), (ad, .inr (1, ofL 10 Fad)), (ap, .inr (7, ofL 5 Fap))])) (kXC G (S := Nat) (fun E u => (u = 0 ∧ E = "java/util/NoSuchElementException" ∧ n0 < 0) ∨ (u = 1 ∧ E = "java/util/NoSuchElementException" ∧ ¬ n0 < 0 ∧ ¬ n0 < 3)) (fun u => match u with | 0 => [(h0, .inr (11, ofL 17 Fh0)), (atr, .inr (10, ofL 7 Fatr)), (ad, .inr (1, ofL 10 Fad)), (ap, .inr (7, ofL 5 Fap))] | _ => [(h0, .inr (11, ofL 17 Fh0)), (atr, .inr (10, ofL 7 Fatr)), (ad, .inr (1, ofL 10 Fad)), (ap, .inr (7, ofL 5 Fap))])) := by
  refine kMX.of (by decide) (Nat.le_of_ble_eq_true rfl) ?_
  intro p e s m below meth c A ls H C hr hlk hno hP hD hS hl
  have C : kC G p s m c cX11_fits 2 RX11 A := C
  have hx := C.1
  have hb := C.2.1
  have hl : lv_has ls 2 [(0, .ref h0), (1, .int n0)] := hl
  refine lv_iload_n hx hb dX11_fits_0 rfl (lv_at hl 1 rfl) ?_
  refine lv_iconst (v := 3) hx hb dX11_fits_1 (by decide) ?_
  refine k_xcallSv (wr := [(h0, .inr (11, ofL 17 Fh0)), (atr, .inr (10, ofL 7 Fatr)), (ad, .inr (1, ofL 10 Fad)), (ap, .inr (7, ofL 5 Fap))]) (rest := []) li_X11_121 C (c_X11_needWhat l hst G H.size n0 3) (kR rfl) hP hD hS [] [0, 1, 2, 3] rfl rfl rfl rfl (by decide) rfl hl.1 rfl (Nat.le_of_ble_eq_true rfl) dX11_fits_2 (fun E ce q9 uu3 H locs hw1 hP hD hS hc1 hc2 hc3 => ?_) (fun uu3 H locs hw1 hP hD hS => ?_)
  ·
    rcases hw1 with ⟨rfl, rfl, c_4⟩ | ⟨rfl, rfl, c_5, c_6⟩
    ·
      have hP : va_P G.1 vwCl [(h0, .inr (11, ofL 17 Fh0)), (atr, .inr (10, ofL 7 Fatr)), (ad, .inr (1, ofL 10 Fad)), (ap, .inr (7, ofL 5 Fap))] H := hP
      have hD : va_D A [(h0, .inr (11, ofL 17 Fh0)), (atr, .inr (10, ofL 7 Fatr)), (ad, .inr (1, ofL 10 Fad)), (ap, .inr (7, ofL 5 Fap))] := hD
      exact k_xout hno hlk hP hD hS hc1 hc2 hc3 0 (Or.inl ⟨rfl, rfl, c_4⟩) [0, 1, 2, 3] rfl rfl (Nat.le_of_ble_eq_true rfl) (Nat.le_of_ble_eq_true rfl)
    ·
      have hP : va_P G.1 vwCl [(h0, .inr (11, ofL 17 Fh0)), (atr, .inr (10, ofL 7 Fatr)), (ad, .inr (1, ofL 10 Fad)), (ap, .inr (7, ofL 5 Fap))] H := hP
      have hD : va_D A [(h0, .inr (11, ofL 17 Fh0)), (atr, .inr (10, ofL 7 Fatr)), (ad, .inr (1, ofL 10 Fad)), (ap, .inr (7, ofL 5 Fap))] := hD
      exact k_xout hno hlk hP hD hS hc1 hc2 hc3 1 (Or.inr (⟨rfl, rfl, c_5, c_6⟩)) [0, 1, 2, 3] rfl rfl (Nat.le_of_ble_eq_true rfl) (Nat.le_of_ble_eq_true rfl)
  obtain ⟨c_7, c_8⟩ := hw1
  have hP : va_P G.1 vwCl [(h0, .inr (11, ofL 17 Fh0)), (atr, .inr (10, ofL 7 Fatr)), (ad, .inr (1, ofL 10 Fad)), (ap, .inr (7, ofL 5 Fap))] H := hP
  have hD : va_D A [(h0, .inr (11, ofL 17 Fh0)), (atr, .inr (10, ofL 7 Fatr)), (ad, .inr (1, ofL 10 Fad)), (ap, .inr (7, ofL 5 Fap))] := hD
  refine lv_aload_n hx hb dX11_fits_5 rfl (lv_at hl 0 rfl) ?_
  refine k_get (v := .ref atr) fl_X11_62 C hP 0 rfl e_h0_9 dX11_fits_6 ?_
  refine k_callNv (wr := [(h0, .inr (11, ofL 17 Fh0))]) (rest := []) li_X11_316 C (c_X10_findBeginners l G H.size atr Fatr ad Fad ap Fap e_atr_0 e_ad_7 e_ap_2) (kR rfl) hP hD hS [1, 2, 3] [0] rfl rfl rfl rfl (by decide) 0 10 rfl rfl rfl hl.1 rfl (Nat.le_of_ble_eq_true rfl) dX11_fits_9 (fun uu11 H locs hw9 hP hD hS => ?_)
  have hP : va_P G.1 vwCl [(h0, .inr (11, ofL 17 Fh0)), (atr, .inr (10, ofL 7 (updV (updV (updV Fatr 4 (.int 0)) 5 (.int (-1))) 6 (.int (-1))))), (ad, .inr (1, ofL 10 Fad)), (ap, .inr (7, ofL 5 Fap))] H := hP
  have hD : va_D A [(h0, .inr (11, ofL 17 Fh0)), (atr, .inr (10, ofL 7 (updV (updV (updV Fatr 4 (.int 0)) 5 (.int (-1))) 6 (.int (-1))))), (ad, .inr (1, ofL 10 Fad)), (ap, .inr (7, ofL 5 Fap))] := hD
  refine lv_iload_n hx hb dX11_fits_12 rfl (lv_at hl 1 rfl) ?_
  rcases k_rng3 c_7 c_8 with rfl | rfl | rfl
  ·
    refine lv_lookup (off := 27) (tgt := 40) hx hb dX11_fits_13 (by decide) (by decide) (by decide) ?_
    refine lv_aload_n hx hb dX11_fits_40 rfl (lv_at hl 0 rfl) ?_
    refine k_get (v := .ref atr) fl_X11_62 C hP 0 rfl e_h0_9 dX11_fits_41 ?_
    refine k_getN (v := .int 0) fl_X11_319 C hP 1 rfl rfl dX11_fits_44 ?_
    exact vx_ret (k_iret C hr hlk hP hD hS 0 (Or.inl ⟨rfl, rfl, c_7, c_8, rfl⟩) [0, 1, 2, 3] rfl rfl (Nat.le_of_ble_eq_true rfl) (Nat.le_of_ble_eq_true rfl) dX11_fits_47)
  ·
    refine lv_lookup (off := 35) (tgt := 48) hx hb dX11_fits_13 (by decide) (by decide) (by decide) ?_
    refine lv_aload_n hx hb dX11_fits_48 rfl (lv_at hl 0 rfl) ?_
    refine k_get (v := .ref atr) fl_X11_62 C hP 0 rfl e_h0_9 dX11_fits_49 ?_
    refine k_getN (v := .int (-1)) fl_X11_322 C hP 1 rfl rfl dX11_fits_52 ?_
    exact vx_ret (k_iret C hr hlk hP hD hS 1 (Or.inr (Or.inl ⟨rfl, rfl, c_7, c_8, rfl⟩)) [0, 1, 2, 3] rfl rfl (Nat.le_of_ble_eq_true rfl) (Nat.le_of_ble_eq_true rfl) dX11_fits_55)
  ·
    refine lv_lookup (off := 43) (tgt := 56) hx hb dX11_fits_13 (by decide) (by decide) (by decide) ?_
    refine lv_aload_n hx hb dX11_fits_56 rfl (lv_at hl 0 rfl) ?_
    refine k_get (v := .ref atr) fl_X11_62 C hP 0 rfl e_h0_9 dX11_fits_57 ?_
    refine k_getN (v := .int (-1)) fl_X11_325 C hP 1 rfl rfl dX11_fits_60 ?_
    exact vx_ret (k_iret C hr hlk hP hD hS 2 (Or.inr (Or.inr (⟨rfl, rfl, c_7, c_8, rfl⟩))) [0, 1, 2, 3] rfl rfl (Nat.le_of_ble_eq_true rfl) (Nat.le_of_ble_eq_true rfl) dX11_fits_63)
set_option maxHeartbeats 4000000 in
set_option maxRecDepth 100000 in
theorem c_X11_streams (l : Launch) (G : kG) (sz : Nat) (h0 : Nat) (Fh0 : Nat → Value) (ad : Nat) (ast : Nat) (Fast : Nat → Value) (Fad : Nat → Value) (ap : Nat) (Fap : Nat → Value) (e_h0_12 : Fh0 12 = .ref ast) (e_h0_8 : Fh0 8 = .ref ad) (e_ast_0 : Fast 0 = .ref ad) (e_ad_7 : Fad 7 = .ref ap) (e_ap_2 : Fap 2 = .int 0) : kM l yX11_streams cX11_streams 1 (some .int) { frames := 8, cells := 0, slots := 0, locals := 156 } G [.ref h0] [(h0, .inr (11, ofL 17 Fh0)), (ast, .inr (9, ofL 6 Fast)), (ad, .inr (1, ofL 10 Fad)), (ap, .inr (7, ofL 5 Fap))] sz (kQi G (S := Unit) (fun r (_ : Unit) => r = 0) (fun _ => [(h0, .inr (11, ofL 17 Fh0)), (ad, .inr (1, ofL 10 Fad)), (ap, .inr (7, ofL 5 Fap)), (ast, .inr (9, ofL 6 (updV Fast 5 (.int 0))))])) := by
  refine kM.of (by decide) (Nat.le_of_ble_eq_true rfl) ?_
  intro p e s m below meth c A ls H C hr hlk hnm hP hD hS hl
  have C : kC G p s m c cX11_streams 1 RX11 A := C
  have hx := C.1
  have hb := C.2.1
  have hl : lv_has ls 1 [(0, .ref h0)] := hl
  refine lv_aload_n hx hb dX11_streams_0 rfl (lv_at hl 0 rfl) ?_
  refine k_get (v := .ref ast) fl_X11_83 C hP 0 rfl e_h0_12 dX11_streams_1 ?_
  refine k_callNv (wr := [(h0, .inr (11, ofL 17 Fh0))]) (rest := []) li_X11_328 C (c_X9_gather l G H.size ast Fast ad Fad ap Fap e_ast_0 e_ad_7 e_ap_2) (kR rfl) hP hD hS [1, 2, 3] [0] rfl rfl rfl rfl (by decide) 0 9 rfl rfl rfl hl.1 rfl (Nat.le_of_ble_eq_true rfl) dX11_streams_4 (fun uu3 H locs hw1 hP hD hS => ?_)
  have hP : va_P G.1 vwCl [(h0, .inr (11, ofL 17 Fh0)), (ast, .inr (9, ofL 6 (updV Fast 5 (.int 0)))), (ad, .inr (1, ofL 10 Fad)), (ap, .inr (7, ofL 5 Fap))] H := hP
  have hD : va_D A [(h0, .inr (11, ofL 17 Fh0)), (ast, .inr (9, ofL 6 (updV Fast 5 (.int 0)))), (ad, .inr (1, ofL 10 Fad)), (ap, .inr (7, ofL 5 Fap))] := hD
  refine lv_aload_n hx hb dX11_streams_7 rfl (lv_at hl 0 rfl) ?_
  refine k_get (v := .ref ast) fl_X11_83 C hP 0 rfl e_h0_12 dX11_streams_8 ?_
  refine k_callNi (wr := [(h0, .inr (11, ofL 17 Fh0)), (ad, .inr (1, ofL 10 Fad)), (ap, .inr (7, ofL 5 Fap))]) (rest := []) li_X11_331 C (c_X9_crossings l G H.size ast (updV Fast 5 (.int 0)) rfl) (kR rfl) hP hD hS [1] [0, 2, 3] rfl rfl rfl rfl (by decide) 0 9 rfl rfl rfl hl.1 rfl (Nat.le_of_ble_eq_true rfl) dX11_streams_11 (fun rr5 uu6 H locs hw4 hP hD hS => ?_)
  obtain rfl : rr5 = 0 := hw4
  have hP : va_P G.1 vwCl [(h0, .inr (11, ofL 17 Fh0)), (ad, .inr (1, ofL 10 Fad)), (ap, .inr (7, ofL 5 Fap)), (ast, .inr (9, ofL 6 (updV Fast 5 (.int 0))))] H := hP
  have hD : va_D A [(h0, .inr (11, ofL 17 Fh0)), (ad, .inr (1, ofL 10 Fad)), (ap, .inr (7, ofL 5 Fap)), (ast, .inr (9, ofL 6 (updV Fast 5 (.int 0))))] := hD
  exact k_iret C hr hlk hP hD hS () (rfl) [0, 1, 2, 3] rfl rfl (Nat.le_of_ble_eq_true rfl) (Nat.le_of_ble_eq_true rfl) dX11_streams_14
set_option maxHeartbeats 4000000 in
set_option maxRecDepth 100000 in
theorem c_X11_on (l : Launch) (hst : l.stackTraces = false) (G : kG) (sz : Nat) (h0 : Nat) (n0 : Int32) (n1 : Int32) (Fh0 : Nat → Value) (ad : Nat) (ast : Nat) (Fast : Nat → Value) (Fad : Nat → Value) (ap : Nat) (Fap : Nat → Value) (e_h0_12 : Fh0 12 = .ref ast) (e_h0_8 : Fh0 8 = .ref ad) (e_ast_0 : Fast 0 = .ref ad) (e_ad_7 : Fad 7 = .ref ap) (e_ap_2 : Fap 2 = .int 0) : kMX l yX11_on cX11_on 3 (some .int) { frames := 8, cells := 2, slots := 12, locals := 156 } G [.ref h0, .int n0, .int n1] [(h0, .inr (11, ofL 17 Fh0)), (ast, .inr (9, ofL 6 Fast)), (ad, .inr (1, ofL 10 Fad)), (ap, .inr (7, ofL 5 Fap))] sz (kQi G (S := Nat) (fun r u => (u = 0 ∧ r = 0 ∧ ¬ n1 < 0 ∧ n1 < 2 ∧ ¬ n0 < 0 ∧ n0 ≤ 4000 ∧ ¬ n1 = 0) ∨ (u = 1 ∧ r = 0 ∧ ¬ n1 < 0 ∧ n1 < 2 ∧ ¬ n0 < 0 ∧ n0 ≤ 4000 ∧ n1 = 0)) (fun u => match u with | 0 => [(h0, .inr (11, ofL 17 Fh0)), (ad, .inr (1, ofL 10 Fad)), (ap, .inr (7, ofL 5 Fap)), (ast, .inr (9, ofL 6 (updV Fast 5 (.int 0))))] | _ => [(h0, .inr (11, ofL 17 Fh0)), (ast, .inr (9, ofL 6 (updV Fast 5 (.int 0)))), (ad, .inr (1, ofL 10 Fad)), (ap, .inr (7, ofL 5 Fap))])) (kXC G (S := Nat) (fun E u => (u = 0 ∧ E = "java/util/NoSuchElementException" ∧ n1 < 0) ∨ (u = 1 ∧ E = "java/util/NoSuchElementException" ∧ ¬ n1 < 0 ∧ ¬ n1 < 2) ∨ (u = 2 ∧ E = "java/lang/IllegalArgumentException" ∧ ¬ n1 < 0 ∧ n1 < 2 ∧ n0 < 0) ∨ (u = 3 ∧ E = "java/lang/IllegalArgumentException" ∧ ¬ n1 < 0 ∧ n1 < 2 ∧ ¬ n0 < 0 ∧ ¬ n0 ≤ 4000)) (fun u => match u with | 0 => [(h0, .inr (11, ofL 17 Fh0)), (ast, .inr (9, ofL 6 Fast)), (ad, .inr (1, ofL 10 Fad)), (ap, .inr (7, ofL 5 Fap))] | 1 => [(h0, .inr (11, ofL 17 Fh0)), (ast, .inr (9, ofL 6 Fast)), (ad, .inr (1, ofL 10 Fad)), (ap, .inr (7, ofL 5 Fap))] | 2 => [(h0, .inr (11, ofL 17 Fh0)), (ast, .inr (9, ofL 6 Fast)), (ad, .inr (1, ofL 10 Fad)), (ap, .inr (7, ofL 5 Fap))] | _ => [(h0, .inr (11, ofL 17 Fh0)), (ast, .inr (9, ofL 6 Fast)), (ad, .inr (1, ofL 10 Fad)), (ap, .inr (7, ofL 5 Fap))])) := by
  refine kMX.of (by decide) (Nat.le_of_ble_eq_true rfl) ?_
  intro p e s m below meth c A ls H C hr hlk hno hP hD hS hl
  have C : kC G p s m c cX11_on 3 RX11 A := C
  have hx := C.1
  have hb := C.2.1
  have hl : lv_has ls 3 [(0, .ref h0), (1, .int n0), (2, .int n1)] := hl
  refine lv_iload_n hx hb dX11_on_0 rfl (lv_at hl 2 rfl) ?_
  refine lv_iconst (v := 2) hx hb dX11_on_1 (by decide) ?_
  refine k_xcallSv (wr := [(h0, .inr (11, ofL 17 Fh0)), (ast, .inr (9, ofL 6 Fast)), (ad, .inr (1, ofL 10 Fad)), (ap, .inr (7, ofL 5 Fap))]) (rest := []) li_X11_121 C (c_X11_needWhat l hst G H.size n1 2) (kR rfl) hP hD hS [] [0, 1, 2, 3] rfl rfl rfl rfl (by decide) rfl hl.1 rfl (Nat.le_of_ble_eq_true rfl) dX11_on_2 (fun E ce q9 uu3 H locs hw1 hP hD hS hc1 hc2 hc3 => ?_) (fun uu3 H locs hw1 hP hD hS => ?_)
  ·
    rcases hw1 with ⟨rfl, rfl, c_4⟩ | ⟨rfl, rfl, c_5, c_6⟩
    ·
      have hP : va_P G.1 vwCl [(h0, .inr (11, ofL 17 Fh0)), (ast, .inr (9, ofL 6 Fast)), (ad, .inr (1, ofL 10 Fad)), (ap, .inr (7, ofL 5 Fap))] H := hP
      have hD : va_D A [(h0, .inr (11, ofL 17 Fh0)), (ast, .inr (9, ofL 6 Fast)), (ad, .inr (1, ofL 10 Fad)), (ap, .inr (7, ofL 5 Fap))] := hD
      exact k_xout hno hlk hP hD hS hc1 hc2 hc3 0 (Or.inl ⟨rfl, rfl, c_4⟩) [0, 1, 2, 3] rfl rfl (Nat.le_of_ble_eq_true rfl) (Nat.le_of_ble_eq_true rfl)
    ·
      have hP : va_P G.1 vwCl [(h0, .inr (11, ofL 17 Fh0)), (ast, .inr (9, ofL 6 Fast)), (ad, .inr (1, ofL 10 Fad)), (ap, .inr (7, ofL 5 Fap))] H := hP
      have hD : va_D A [(h0, .inr (11, ofL 17 Fh0)), (ast, .inr (9, ofL 6 Fast)), (ad, .inr (1, ofL 10 Fad)), (ap, .inr (7, ofL 5 Fap))] := hD
      exact k_xout hno hlk hP hD hS hc1 hc2 hc3 1 (Or.inr (Or.inl ⟨rfl, rfl, c_5, c_6⟩)) [0, 1, 2, 3] rfl rfl (Nat.le_of_ble_eq_true rfl) (Nat.le_of_ble_eq_true rfl)
  obtain ⟨c_7, c_8⟩ := hw1
  have hP : va_P G.1 vwCl [(h0, .inr (11, ofL 17 Fh0)), (ast, .inr (9, ofL 6 Fast)), (ad, .inr (1, ofL 10 Fad)), (ap, .inr (7, ofL 5 Fap))] H := hP
  have hD : va_D A [(h0, .inr (11, ofL 17 Fh0)), (ast, .inr (9, ofL 6 Fast)), (ad, .inr (1, ofL 10 Fad)), (ap, .inr (7, ofL 5 Fap))] := hD
  refine lv_iload_n hx hb dX11_on_5 rfl (lv_at hl 1 rfl) ?_
  refine lv_iconst (v := 0) hx hb dX11_on_6 (by decide) ?_
  refine lv_sipush (v := 4000) hx hb dX11_on_7 (by decide) ?_
  refine k_xcallSv (wr := [(h0, .inr (11, ofL 17 Fh0)), (ast, .inr (9, ofL 6 Fast)), (ad, .inr (1, ofL 10 Fad)), (ap, .inr (7, ofL 5 Fap))]) (rest := []) li_X11_243 C (c_X11_needWithin l hst G H.size n0 0 4000) (kR rfl) hP hD hS [] [0, 1, 2, 3] rfl rfl rfl rfl (by decide) rfl hl.1 rfl (Nat.le_of_ble_eq_true rfl) dX11_on_10 (fun E ce q9 uu11 H locs hw9 hP hD hS hc1 hc2 hc3 => ?_) (fun uu11 H locs hw9 hP hD hS => ?_)
  ·
    rcases hw9 with ⟨rfl, rfl, c_12⟩ | ⟨rfl, rfl, c_13, c_14⟩
    ·
      have hP : va_P G.1 vwCl [(h0, .inr (11, ofL 17 Fh0)), (ast, .inr (9, ofL 6 Fast)), (ad, .inr (1, ofL 10 Fad)), (ap, .inr (7, ofL 5 Fap))] H := hP
      have hD : va_D A [(h0, .inr (11, ofL 17 Fh0)), (ast, .inr (9, ofL 6 Fast)), (ad, .inr (1, ofL 10 Fad)), (ap, .inr (7, ofL 5 Fap))] := hD
      exact k_xout hno hlk hP hD hS hc1 hc2 hc3 2 (Or.inr (Or.inr (Or.inl ⟨rfl, rfl, c_7, c_8, c_12⟩))) [0, 1, 2, 3] rfl rfl (Nat.le_of_ble_eq_true rfl) (Nat.le_of_ble_eq_true rfl)
    ·
      have hP : va_P G.1 vwCl [(h0, .inr (11, ofL 17 Fh0)), (ast, .inr (9, ofL 6 Fast)), (ad, .inr (1, ofL 10 Fad)), (ap, .inr (7, ofL 5 Fap))] H := hP
      have hD : va_D A [(h0, .inr (11, ofL 17 Fh0)), (ast, .inr (9, ofL 6 Fast)), (ad, .inr (1, ofL 10 Fad)), (ap, .inr (7, ofL 5 Fap))] := hD
      exact k_xout hno hlk hP hD hS hc1 hc2 hc3 3 (Or.inr (Or.inr (Or.inr (⟨rfl, rfl, c_7, c_8, c_13, c_14⟩)))) [0, 1, 2, 3] rfl rfl (Nat.le_of_ble_eq_true rfl) (Nat.le_of_ble_eq_true rfl)
  obtain ⟨c_15, c_16⟩ := hw9
  have hP : va_P G.1 vwCl [(h0, .inr (11, ofL 17 Fh0)), (ast, .inr (9, ofL 6 Fast)), (ad, .inr (1, ofL 10 Fad)), (ap, .inr (7, ofL 5 Fap))] H := hP
  have hD : va_D A [(h0, .inr (11, ofL 17 Fh0)), (ast, .inr (9, ofL 6 Fast)), (ad, .inr (1, ofL 10 Fad)), (ap, .inr (7, ofL 5 Fap))] := hD
  refine lv_aload_n hx hb dX11_on_13 rfl (lv_at hl 0 rfl) ?_
  refine k_get (v := .ref ast) fl_X11_83 C hP 0 rfl e_h0_12 dX11_on_14 ?_
  refine k_callNv (wr := [(h0, .inr (11, ofL 17 Fh0))]) (rest := []) li_X11_328 C (c_X9_gather l G H.size ast Fast ad Fad ap Fap e_ast_0 e_ad_7 e_ap_2) (kR rfl) hP hD hS [1, 2, 3] [0] rfl rfl rfl rfl (by decide) 0 9 rfl rfl rfl hl.1 rfl (Nat.le_of_ble_eq_true rfl) dX11_on_17 (fun uu19 H locs hw17 hP hD hS => ?_)
  have hP : va_P G.1 vwCl [(h0, .inr (11, ofL 17 Fh0)), (ast, .inr (9, ofL 6 (updV Fast 5 (.int 0)))), (ad, .inr (1, ofL 10 Fad)), (ap, .inr (7, ofL 5 Fap))] H := hP
  have hD : va_D A [(h0, .inr (11, ofL 17 Fh0)), (ast, .inr (9, ofL 6 (updV Fast 5 (.int 0)))), (ad, .inr (1, ofL 10 Fad)), (ap, .inr (7, ofL 5 Fap))] := hD
  refine lv_iload_n hx hb dX11_on_20 rfl (lv_at hl 2 rfl) ?_
  refine lv_if_ne (x := n1) (tgt := 35) hx hb dX11_on_21 (by decide) (fun c_20 => ?_) (fun c_20 => ?_)
  ·
    refine lv_aload_n hx hb dX11_on_35 rfl (lv_at hl 0 rfl) ?_
    refine k_get (v := .ref ast) fl_X11_83 C hP 0 rfl e_h0_12 dX11_on_36 ?_
    refine lv_iload_n hx hb dX11_on_39 rfl (lv_at hl 1 rfl) ?_
    refine k_callNi (wr := [(h0, .inr (11, ofL 17 Fh0)), (ad, .inr (1, ofL 10 Fad)), (ap, .inr (7, ofL 5 Fap))]) (rest := []) li_X11_341 C (c_X9_peopleIn l G H.size ast n0 (updV Fast 5 (.int 0)) rfl) (kR rfl) hP hD hS [1] [0, 2, 3] rfl rfl rfl rfl (by decide) 0 9 rfl rfl rfl hl.1 rfl (Nat.le_of_ble_eq_true rfl) dX11_on_40 (fun rr22 uu23 H locs hw21 hP hD hS => ?_)
    obtain rfl : rr22 = 0 := hw21
    have hP : va_P G.1 vwCl [(h0, .inr (11, ofL 17 Fh0)), (ad, .inr (1, ofL 10 Fad)), (ap, .inr (7, ofL 5 Fap)), (ast, .inr (9, ofL 6 (updV Fast 5 (.int 0))))] H := hP
    have hD : va_D A [(h0, .inr (11, ofL 17 Fh0)), (ad, .inr (1, ofL 10 Fad)), (ap, .inr (7, ofL 5 Fap)), (ast, .inr (9, ofL 6 (updV Fast 5 (.int 0))))] := hD
    exact vx_ret (k_iret C hr hlk hP hD hS 0 (Or.inl ⟨rfl, rfl, c_7, c_8, c_15, c_16, c_20⟩) [0, 1, 2, 3] rfl rfl (Nat.le_of_ble_eq_true rfl) (Nat.le_of_ble_eq_true rfl) dX11_on_43)
  ·
    refine lv_aload_n hx hb dX11_on_24 rfl (lv_at hl 0 rfl) ?_
    refine k_get (v := .ref ad) fl_X11_53 C hP 0 rfl e_h0_8 dX11_on_25 ?_
    refine lv_iload_n hx hb dX11_on_28 rfl (lv_at hl 1 rfl) ?_
    refine k_callNi (wr := [(h0, .inr (11, ofL 17 Fh0)), (ast, .inr (9, ofL 6 (updV Fast 5 (.int 0))))]) (rest := []) li_X11_338 C (c_X1_onBits l G H.size ad n0 Fad ap Fap e_ad_7 e_ap_2) (kR rfl) hP hD hS [2, 3] [0, 1] rfl rfl rfl rfl (by decide) 0 1 rfl rfl rfl hl.1 rfl (Nat.le_of_ble_eq_true rfl) dX11_on_29 (fun rr25 uu26 H locs hw24 hP hD hS => ?_)
    obtain rfl : rr25 = 0 := hw24
    have hP : va_P G.1 vwCl [(h0, .inr (11, ofL 17 Fh0)), (ast, .inr (9, ofL 6 (updV Fast 5 (.int 0)))), (ad, .inr (1, ofL 10 Fad)), (ap, .inr (7, ofL 5 Fap))] H := hP
    have hD : va_D A [(h0, .inr (11, ofL 17 Fh0)), (ast, .inr (9, ofL 6 (updV Fast 5 (.int 0)))), (ad, .inr (1, ofL 10 Fad)), (ap, .inr (7, ofL 5 Fap))] := hD
    refine lv_goto (tgt := 43) hx hb dX11_on_32 (by decide) ?_
    exact vx_ret (k_iret C hr hlk hP hD hS 1 (Or.inr (⟨rfl, rfl, c_7, c_8, c_15, c_16, c_20⟩)) [0, 1, 2, 3] rfl rfl (Nat.le_of_ble_eq_true rfl) (Nat.le_of_ble_eq_true rfl) dX11_on_43)
set_option maxHeartbeats 4000000 in
set_option maxRecDepth 100000 in
theorem c_X11_busiest (l : Launch) (hst : l.stackTraces = false) (G : kG) (sz : Nat) (h0 : Nat) (n0 : Int32) (Fh0 : Nat → Value) (ad : Nat) (ast : Nat) (Fast : Nat → Value) (Fad : Nat → Value) (ap : Nat) (Fap : Nat → Value) (e_h0_12 : Fh0 12 = .ref ast) (e_h0_8 : Fh0 8 = .ref ad) (e_ast_0 : Fast 0 = .ref ad) (e_ad_7 : Fad 7 = .ref ap) (e_ap_2 : Fap 2 = .int 0) : kMX l yX11_busiest cX11_busiest 3 (some .int) { frames := 8, cells := 1, slots := 6, locals := 156 } G [.ref h0, .int n0] [(h0, .inr (11, ofL 17 Fh0)), (ast, .inr (9, ofL 6 Fast)), (ad, .inr (1, ofL 10 Fad)), (ap, .inr (7, ofL 5 Fap))] sz (kQi G (S := Nat) (fun r u => (u = 0 ∧ r = 0 ∧ ¬ n0 < 0 ∧ n0 < 2 ∧ ¬ n0 = 1) ∨ (u = 1 ∧ r = -1 ∧ ¬ n0 < 0 ∧ n0 < 2 ∧ n0 = 1)) (fun u => match u with | 0 => [(h0, .inr (11, ofL 17 Fh0)), (ad, .inr (1, ofL 10 Fad)), (ap, .inr (7, ofL 5 Fap)), (ast, .inr (9, ofL 6 (updV Fast 5 (.int 0))))] | _ => [(h0, .inr (11, ofL 17 Fh0)), (ad, .inr (1, ofL 10 Fad)), (ap, .inr (7, ofL 5 Fap)), (ast, .inr (9, ofL 6 (updV Fast 5 (.int 0))))])) (kXC G (S := Nat) (fun E u => (u = 0 ∧ E = "java/util/NoSuchElementException" ∧ n0 < 0) ∨ (u = 1 ∧ E = "java/util/NoSuchElementException" ∧ ¬ n0 < 0 ∧ ¬ n0 < 2)) (fun u => match u with | 0 => [(h0, .inr (11, ofL 17 Fh0)), (ast, .inr (9, ofL 6 Fast)), (ad, .inr (1, ofL 10 Fad)), (ap, .inr (7, ofL 5 Fap))] | _ => [(h0, .inr (11, ofL 17 Fh0)), (ast, .inr (9, ofL 6 Fast)), (ad, .inr (1, ofL 10 Fad)), (ap, .inr (7, ofL 5 Fap))])) := by
  refine kMX.of (by decide) (Nat.le_of_ble_eq_true rfl) ?_
  intro p e s m below meth c A ls H C hr hlk hno hP hD hS hl
  have C : kC G p s m c cX11_busiest 3 RX11 A := C
  have hx := C.1
  have hb := C.2.1
  have hl : lv_has ls 3 [(0, .ref h0), (1, .int n0)] := hl
  refine lv_iload_n hx hb dX11_busiest_0 rfl (lv_at hl 1 rfl) ?_
  refine lv_iconst (v := 2) hx hb dX11_busiest_1 (by decide) ?_
  refine k_xcallSv (wr := [(h0, .inr (11, ofL 17 Fh0)), (ast, .inr (9, ofL 6 Fast)), (ad, .inr (1, ofL 10 Fad)), (ap, .inr (7, ofL 5 Fap))]) (rest := []) li_X11_121 C (c_X11_needWhat l hst G H.size n0 2) (kR rfl) hP hD hS [] [0, 1, 2, 3] rfl rfl rfl rfl (by decide) rfl hl.1 rfl (Nat.le_of_ble_eq_true rfl) dX11_busiest_2 (fun E ce q9 uu3 H locs hw1 hP hD hS hc1 hc2 hc3 => ?_) (fun uu3 H locs hw1 hP hD hS => ?_)
  ·
    rcases hw1 with ⟨rfl, rfl, c_4⟩ | ⟨rfl, rfl, c_5, c_6⟩
    ·
      have hP : va_P G.1 vwCl [(h0, .inr (11, ofL 17 Fh0)), (ast, .inr (9, ofL 6 Fast)), (ad, .inr (1, ofL 10 Fad)), (ap, .inr (7, ofL 5 Fap))] H := hP
      have hD : va_D A [(h0, .inr (11, ofL 17 Fh0)), (ast, .inr (9, ofL 6 Fast)), (ad, .inr (1, ofL 10 Fad)), (ap, .inr (7, ofL 5 Fap))] := hD
      exact k_xout hno hlk hP hD hS hc1 hc2 hc3 0 (Or.inl ⟨rfl, rfl, c_4⟩) [0, 1, 2, 3] rfl rfl (Nat.le_of_ble_eq_true rfl) (Nat.le_of_ble_eq_true rfl)
    ·
      have hP : va_P G.1 vwCl [(h0, .inr (11, ofL 17 Fh0)), (ast, .inr (9, ofL 6 Fast)), (ad, .inr (1, ofL 10 Fad)), (ap, .inr (7, ofL 5 Fap))] H := hP
      have hD : va_D A [(h0, .inr (11, ofL 17 Fh0)), (ast, .inr (9, ofL 6 Fast)), (ad, .inr (1, ofL 10 Fad)), (ap, .inr (7, ofL 5 Fap))] := hD
      exact k_xout hno hlk hP hD hS hc1 hc2 hc3 1 (Or.inr (⟨rfl, rfl, c_5, c_6⟩)) [0, 1, 2, 3] rfl rfl (Nat.le_of_ble_eq_true rfl) (Nat.le_of_ble_eq_true rfl)
  obtain ⟨c_7, c_8⟩ := hw1
  have hP : va_P G.1 vwCl [(h0, .inr (11, ofL 17 Fh0)), (ast, .inr (9, ofL 6 Fast)), (ad, .inr (1, ofL 10 Fad)), (ap, .inr (7, ofL 5 Fap))] H := hP
  have hD : va_D A [(h0, .inr (11, ofL 17 Fh0)), (ast, .inr (9, ofL 6 Fast)), (ad, .inr (1, ofL 10 Fad)), (ap, .inr (7, ofL 5 Fap))] := hD
  refine lv_aload_n hx hb dX11_busiest_5 rfl (lv_at hl 0 rfl) ?_
  refine k_get (v := .ref ast) fl_X11_83 C hP 0 rfl e_h0_12 dX11_busiest_6 ?_
  refine k_callNv (wr := [(h0, .inr (11, ofL 17 Fh0))]) (rest := []) li_X11_328 C (c_X9_gather l G H.size ast Fast ad Fad ap Fap e_ast_0 e_ad_7 e_ap_2) (kR rfl) hP hD hS [1, 2, 3] [0] rfl rfl rfl rfl (by decide) 0 9 rfl rfl rfl hl.1 rfl (Nat.le_of_ble_eq_true rfl) dX11_busiest_9 (fun uu11 H locs hw9 hP hD hS => ?_)
  have hP : va_P G.1 vwCl [(h0, .inr (11, ofL 17 Fh0)), (ast, .inr (9, ofL 6 (updV Fast 5 (.int 0)))), (ad, .inr (1, ofL 10 Fad)), (ap, .inr (7, ofL 5 Fap))] H := hP
  have hD : va_D A [(h0, .inr (11, ofL 17 Fh0)), (ast, .inr (9, ofL 6 (updV Fast 5 (.int 0)))), (ad, .inr (1, ofL 10 Fad)), (ap, .inr (7, ofL 5 Fap))] := hD
  refine lv_aload_n hx hb dX11_busiest_12 rfl (lv_at hl 0 rfl) ?_
  refine k_get (v := .ref ast) fl_X11_83 C hP 0 rfl e_h0_12 dX11_busiest_13 ?_
  refine k_callNi (wr := [(h0, .inr (11, ofL 17 Fh0)), (ad, .inr (1, ofL 10 Fad)), (ap, .inr (7, ofL 5 Fap))]) (rest := []) li_X11_350 C (c_X9_busiestMinute l G H.size ast (updV Fast 5 (.int 0)) rfl) (kR rfl) hP hD hS [1] [0, 2, 3] rfl rfl rfl rfl (by decide) 0 9 rfl rfl rfl hl.1 rfl (Nat.le_of_ble_eq_true rfl) dX11_busiest_16 (fun rr13 uu14 H locs hw12 hP hD hS => ?_)
  obtain rfl : rr13 = -1 := hw12
  have hP : va_P G.1 vwCl [(h0, .inr (11, ofL 17 Fh0)), (ad, .inr (1, ofL 10 Fad)), (ap, .inr (7, ofL 5 Fap)), (ast, .inr (9, ofL 6 (updV Fast 5 (.int 0))))] H := hP
  have hD : va_D A [(h0, .inr (11, ofL 17 Fh0)), (ad, .inr (1, ofL 10 Fad)), (ap, .inr (7, ofL 5 Fap)), (ast, .inr (9, ofL 6 (updV Fast 5 (.int 0))))] := hD
  refine lv_istore_n (lv' := [(2, .int (-1)), (0, .ref h0), (1, .int n0)]) hx hb dX11_busiest_19 rfl hl (by decide) rfl (fun ls hl => ?_)
  refine lv_iload_n hx hb dX11_busiest_20 rfl (lv_at hl 2 rfl) ?_
  refine lv_iconst (v := 1) hx hb dX11_busiest_21 (by decide) ?_
  refine lv_icmp_ne (x := n0) (y := 1) (tgt := 27) hx hb dX11_busiest_22 (by decide) (fun c_15 => ?_) (fun c_15 => ?_)
  ·
    refine lv_iload_n hx hb dX11_busiest_27 rfl (lv_at hl 0 rfl) ?_
    refine lv_iconst (v := -1) hx hb dX11_busiest_28 (by decide) ?_
    refine lv_icmp_ne (x := -1) (y := -1) (tgt := 36) hx hb dX11_busiest_29 (by decide) (fun c_16 => ?_) (fun c_16 => ?_)
    · exact absurd (by decide) c_16
    refine lv_iconst (v := 0) hx hb dX11_busiest_32 (by decide) ?_
    refine lv_goto (tgt := 44) hx hb dX11_busiest_33 (by decide) ?_
    exact vx_ret (k_iret C hr hlk hP hD hS 0 (Or.inl ⟨rfl, rfl, c_7, c_8, c_15⟩) [0, 1, 2, 3] rfl rfl (Nat.le_of_ble_eq_true rfl) (Nat.le_of_ble_eq_true rfl) dX11_busiest_44)
  ·
    refine lv_iload_n hx hb dX11_busiest_25 rfl (lv_at hl 0 rfl) ?_
    exact vx_ret (k_iret C hr hlk hP hD hS 1 (Or.inr (⟨rfl, rfl, c_7, c_8, c_15⟩)) [0, 1, 2, 3] rfl rfl (Nat.le_of_ble_eq_true rfl) (Nat.le_of_ble_eq_true rfl) dX11_busiest_26)
set_option maxHeartbeats 4000000 in
set_option maxRecDepth 100000 in
theorem c_X11_clash (l : Launch) (hst : l.stackTraces = false) (G : kG) (sz : Nat) (h0 : Nat) (n0 : Int32) (Fh0 : Nat → Value) (ad : Nat) (Fad : Nat → Value) (ap : Nat) (Fap : Nat → Value) (e_h0_8 : Fh0 8 = .ref ad) (e_ad_7 : Fad 7 = .ref ap) (e_ap_2 : Fap 2 = .int 0) : kMX l yX11_clash cX11_clash 2 (some .int) { frames := 7, cells := 1, slots := 6, locals := 134 } G [.ref h0, .int n0] [(h0, .inr (11, ofL 17 Fh0)), (ad, .inr (1, ofL 10 Fad)), (ap, .inr (7, ofL 5 Fap))] sz (kQi G (S := Nat) (fun r u => (u = 0 ∧ r = -1 ∧ ¬ n0 < 0 ∧ n0 < 2 ∧ ¬ n0 = 0) ∨ (u = 1 ∧ r = 0 ∧ ¬ n0 < 0 ∧ n0 < 2 ∧ n0 = 0)) (fun u => match u with | 0 => [(h0, .inr (11, ofL 17 Fh0)), (ad, .inr (1, ofL 10 Fad)), (ap, .inr (7, ofL 5 Fap))] | _ => [(h0, .inr (11, ofL 17 Fh0)), (ad, .inr (1, ofL 10 Fad)), (ap, .inr (7, ofL 5 Fap))])) (kXC G (S := Nat) (fun E u => (u = 0 ∧ E = "java/util/NoSuchElementException" ∧ n0 < 0) ∨ (u = 1 ∧ E = "java/util/NoSuchElementException" ∧ ¬ n0 < 0 ∧ ¬ n0 < 2)) (fun u => match u with | 0 => [(h0, .inr (11, ofL 17 Fh0)), (ad, .inr (1, ofL 10 Fad)), (ap, .inr (7, ofL 5 Fap))] | _ => [(h0, .inr (11, ofL 17 Fh0)), (ad, .inr (1, ofL 10 Fad)), (ap, .inr (7, ofL 5 Fap))])) := by
  refine kMX.of (by decide) (Nat.le_of_ble_eq_true rfl) ?_
  intro p e s m below meth c A ls H C hr hlk hno hP hD hS hl
  have C : kC G p s m c cX11_clash 2 RX11 A := C
  have hx := C.1
  have hb := C.2.1
  have hl : lv_has ls 2 [(0, .ref h0), (1, .int n0)] := hl
  refine lv_iload_n hx hb dX11_clash_0 rfl (lv_at hl 1 rfl) ?_
  refine lv_iconst (v := 2) hx hb dX11_clash_1 (by decide) ?_
  refine k_xcallSv (wr := [(h0, .inr (11, ofL 17 Fh0)), (ad, .inr (1, ofL 10 Fad)), (ap, .inr (7, ofL 5 Fap))]) (rest := []) li_X11_121 C (c_X11_needWhat l hst G H.size n0 2) (kR rfl) hP hD hS [] [0, 1, 2] rfl rfl rfl rfl (by decide) rfl hl.1 rfl (Nat.le_of_ble_eq_true rfl) dX11_clash_2 (fun E ce q9 uu3 H locs hw1 hP hD hS hc1 hc2 hc3 => ?_) (fun uu3 H locs hw1 hP hD hS => ?_)
  ·
    rcases hw1 with ⟨rfl, rfl, c_4⟩ | ⟨rfl, rfl, c_5, c_6⟩
    ·
      have hP : va_P G.1 vwCl [(h0, .inr (11, ofL 17 Fh0)), (ad, .inr (1, ofL 10 Fad)), (ap, .inr (7, ofL 5 Fap))] H := hP
      have hD : va_D A [(h0, .inr (11, ofL 17 Fh0)), (ad, .inr (1, ofL 10 Fad)), (ap, .inr (7, ofL 5 Fap))] := hD
      exact k_xout hno hlk hP hD hS hc1 hc2 hc3 0 (Or.inl ⟨rfl, rfl, c_4⟩) [0, 1, 2] rfl rfl (Nat.le_of_ble_eq_true rfl) (Nat.le_of_ble_eq_true rfl)
    ·
      have hP : va_P G.1 vwCl [(h0, .inr (11, ofL 17 Fh0)), (ad, .inr (1, ofL 10 Fad)), (ap, .inr (7, ofL 5 Fap))] H := hP
      have hD : va_D A [(h0, .inr (11, ofL 17 Fh0)), (ad, .inr (1, ofL 10 Fad)), (ap, .inr (7, ofL 5 Fap))] := hD
      exact k_xout hno hlk hP hD hS hc1 hc2 hc3 1 (Or.inr (⟨rfl, rfl, c_5, c_6⟩)) [0, 1, 2] rfl rfl (Nat.le_of_ble_eq_true rfl) (Nat.le_of_ble_eq_true rfl)
  obtain ⟨c_7, c_8⟩ := hw1
  have hP : va_P G.1 vwCl [(h0, .inr (11, ofL 17 Fh0)), (ad, .inr (1, ofL 10 Fad)), (ap, .inr (7, ofL 5 Fap))] H := hP
  have hD : va_D A [(h0, .inr (11, ofL 17 Fh0)), (ad, .inr (1, ofL 10 Fad)), (ap, .inr (7, ofL 5 Fap))] := hD
  refine lv_aload_n hx hb dX11_clash_5 rfl (lv_at hl 0 rfl) ?_
  refine k_get (v := .ref ad) fl_X11_53 C hP 0 rfl e_h0_8 dX11_clash_6 ?_
  refine lv_iconst (v := 0) hx hb dX11_clash_9 (by decide) ?_
  refine k_callNv (wr := [(h0, .inr (11, ofL 17 Fh0))]) (rest := []) li_X11_201 C (c_X1_runFrom l G H.size ad Fad ap Fap e_ad_7 e_ap_2) (kR rfl) hP hD hS [1, 2] [0] rfl rfl rfl rfl (by decide) 0 1 rfl rfl rfl hl.1 rfl (Nat.le_of_ble_eq_true rfl) dX11_clash_10 (fun uu11 H locs hw9 hP hD hS => ?_)
  have hP : va_P G.1 vwCl [(h0, .inr (11, ofL 17 Fh0)), (ad, .inr (1, ofL 10 Fad)), (ap, .inr (7, ofL 5 Fap))] H := hP
  have hD : va_D A [(h0, .inr (11, ofL 17 Fh0)), (ad, .inr (1, ofL 10 Fad)), (ap, .inr (7, ofL 5 Fap))] := hD
  refine lv_iload_n hx hb dX11_clash_13 rfl (lv_at hl 1 rfl) ?_
  refine lv_if_ne (x := n0) (tgt := 27) hx hb dX11_clash_14 (by decide) (fun c_12 => ?_) (fun c_12 => ?_)
  ·
    refine lv_aload_n hx hb dX11_clash_27 rfl (lv_at hl 0 rfl) ?_
    refine k_get (v := .ref ad) fl_X11_53 C hP 0 rfl e_h0_8 dX11_clash_28 ?_
    refine k_callNi (wr := [(h0, .inr (11, ofL 17 Fh0))]) (rest := []) li_X11_347 C (c_X1_firstClash l G H.size ad Fad ap Fap e_ad_7 e_ap_2) (kR rfl) hP hD hS [1, 2] [0] rfl rfl rfl rfl (by decide) 0 1 rfl rfl rfl hl.1 rfl (Nat.le_of_ble_eq_true rfl) dX11_clash_31 (fun rr14 uu15 H locs hw13 hP hD hS => ?_)
    obtain rfl : rr14 = -1 := hw13
    have hP : va_P G.1 vwCl [(h0, .inr (11, ofL 17 Fh0)), (ad, .inr (1, ofL 10 Fad)), (ap, .inr (7, ofL 5 Fap))] H := hP
    have hD : va_D A [(h0, .inr (11, ofL 17 Fh0)), (ad, .inr (1, ofL 10 Fad)), (ap, .inr (7, ofL 5 Fap))] := hD
    exact vx_ret (k_iret C hr hlk hP hD hS 0 (Or.inl ⟨rfl, rfl, c_7, c_8, c_12⟩) [0, 1, 2] rfl rfl (Nat.le_of_ble_eq_true rfl) (Nat.le_of_ble_eq_true rfl) dX11_clash_34)
  ·
    refine lv_aload_n hx hb dX11_clash_17 rfl (lv_at hl 0 rfl) ?_
    refine k_get (v := .ref ad) fl_X11_53 C hP 0 rfl e_h0_8 dX11_clash_18 ?_
    refine k_callNi (wr := [(h0, .inr (11, ofL 17 Fh0))]) (rest := []) li_X11_344 C (c_X1_clashes l G H.size ad Fad ap Fap e_ad_7 e_ap_2) (kR rfl) hP hD hS [1, 2] [0] rfl rfl rfl rfl (by decide) 0 1 rfl rfl rfl hl.1 rfl (Nat.le_of_ble_eq_true rfl) dX11_clash_21 (fun rr17 uu18 H locs hw16 hP hD hS => ?_)
    obtain rfl : rr17 = 0 := hw16
    have hP : va_P G.1 vwCl [(h0, .inr (11, ofL 17 Fh0)), (ad, .inr (1, ofL 10 Fad)), (ap, .inr (7, ofL 5 Fap))] H := hP
    have hD : va_D A [(h0, .inr (11, ofL 17 Fh0)), (ad, .inr (1, ofL 10 Fad)), (ap, .inr (7, ofL 5 Fap))] := hD
    refine lv_goto (tgt := 34) hx hb dX11_clash_24 (by decide) ?_
    exact vx_ret (k_iret C hr hlk hP hD hS 1 (Or.inr (⟨rfl, rfl, c_7, c_8, c_12⟩)) [0, 1, 2] rfl rfl (Nat.le_of_ble_eq_true rfl) (Nat.le_of_ble_eq_true rfl) dX11_clash_34)
set_option maxHeartbeats 4000000 in
set_option maxRecDepth 100000 in
theorem c_X11_idle (l : Launch) (G : kG) (sz : Nat) (h0 : Nat) (Fh0 : Nat → Value) (ad : Nat) (Fad : Nat → Value) (ap : Nat) (Fap : Nat → Value) (e_h0_8 : Fh0 8 = .ref ad) (e_ad_7 : Fad 7 = .ref ap) (e_ap_2 : Fap 2 = .int 0) : kM l yX11_idle cX11_idle 1 (some .int) { frames := 7, cells := 0, slots := 0, locals := 136 } G [.ref h0] [(h0, .inr (11, ofL 17 Fh0)), (ad, .inr (1, ofL 10 Fad)), (ap, .inr (7, ofL 5 Fap))] sz (kQi G (S := Unit) (fun r (_ : Unit) => r = 0) (fun _ => [(h0, .inr (11, ofL 17 Fh0)), (ad, .inr (1, ofL 10 Fad)), (ap, .inr (7, ofL 5 Fap))])) := by
  refine kM.of (by decide) (Nat.le_of_ble_eq_true rfl) ?_
  intro p e s m below meth c A ls H C hr hlk hnm hP hD hS hl
  have C : kC G p s m c cX11_idle 1 RX11 A := C
  have hx := C.1
  have hb := C.2.1
  have hl : lv_has ls 1 [(0, .ref h0)] := hl
  refine lv_aload_n hx hb dX11_idle_0 rfl (lv_at hl 0 rfl) ?_
  refine k_get (v := .ref ad) fl_X11_53 C hP 0 rfl e_h0_8 dX11_idle_1 ?_
  refine lv_iconst (v := 0) hx hb dX11_idle_4 (by decide) ?_
  refine k_callNv (wr := [(h0, .inr (11, ofL 17 Fh0))]) (rest := []) li_X11_201 C (c_X1_runFrom l G H.size ad Fad ap Fap e_ad_7 e_ap_2) (kR rfl) hP hD hS [1, 2] [0] rfl rfl rfl rfl (by decide) 0 1 rfl rfl rfl hl.1 rfl (Nat.le_of_ble_eq_true rfl) dX11_idle_5 (fun uu3 H locs hw1 hP hD hS => ?_)
  have hP : va_P G.1 vwCl [(h0, .inr (11, ofL 17 Fh0)), (ad, .inr (1, ofL 10 Fad)), (ap, .inr (7, ofL 5 Fap))] H := hP
  have hD : va_D A [(h0, .inr (11, ofL 17 Fh0)), (ad, .inr (1, ofL 10 Fad)), (ap, .inr (7, ofL 5 Fap))] := hD
  refine lv_aload_n hx hb dX11_idle_8 rfl (lv_at hl 0 rfl) ?_
  refine k_get (v := .ref ad) fl_X11_53 C hP 0 rfl e_h0_8 dX11_idle_9 ?_
  refine k_callNi (wr := [(h0, .inr (11, ofL 17 Fh0))]) (rest := []) li_X11_353 C (c_X1_idleMinutes l G H.size ad Fad ap Fap e_ad_7 e_ap_2) (kR rfl) hP hD hS [1, 2] [0] rfl rfl rfl rfl (by decide) 0 1 rfl rfl rfl hl.1 rfl (Nat.le_of_ble_eq_true rfl) dX11_idle_12 (fun rr5 uu6 H locs hw4 hP hD hS => ?_)
  obtain rfl : rr5 = 0 := hw4
  have hP : va_P G.1 vwCl [(h0, .inr (11, ofL 17 Fh0)), (ad, .inr (1, ofL 10 Fad)), (ap, .inr (7, ofL 5 Fap))] H := hP
  have hD : va_D A [(h0, .inr (11, ofL 17 Fh0)), (ad, .inr (1, ofL 10 Fad)), (ap, .inr (7, ofL 5 Fap))] := hD
  exact k_iret C hr hlk hP hD hS () (rfl) [0, 1, 2] rfl rfl (Nat.le_of_ble_eq_true rfl) (Nat.le_of_ble_eq_true rfl) dX11_idle_15
set_option maxHeartbeats 4000000 in
set_option maxRecDepth 100000 in
theorem c_X11_image (l : Launch) (G : kG) (sz : Nat) (h0 : Nat) (Fh0 : Nat → Value) (hA : Nat) (hB : Nat) (FhB : Nat → Value) (p0 : Nat) (p1 : Nat) (p2 : Nat) (p3 : Nat) (p4 : Nat) (p5 : Nat) (p6 : Nat) (p7 : Nat) (p8 : Nat) (FhA : Nat → Value) (q0 : Nat) (q1 : Nat) (q2 : Nat) (q3 : Nat) (q4 : Nat) (q5 : Nat) (q6 : Nat) (q7 : Nat) (q8 : Nat) (n9 : Int32) (n10 : Int32) (n11 : Int32) (f0 : Nat → Int32) (f1 : Nat → Int32) (f2 : Nat → Int32) (f3 : Nat → Int32) (f4 : Nat → Int32) (f5 : Nat → Int32) (f6 : Nat → Int32) (f7 : Nat → Int32) (f8 : Nat → Int32) (g0 : Nat → Int32) (g1 : Nat → Int32) (g2 : Nat → Int32) (g3 : Nat → Int32) (g4 : Nat → Int32) (g5 : Nat → Int32) (g6 : Nat → Int32) (g7 : Nat → Int32) (g8 : Nat → Int32) (e_h0_6 : Fh0 6 = .ref hA) (e_h0_7 : Fh0 7 = .ref hB) (e_hB_0 : FhB 0 = .ref p0) (e_hB_1 : FhB 1 = .ref p1) (e_hB_2 : FhB 2 = .ref p2) (e_hB_3 : FhB 3 = .ref p3) (e_hB_4 : FhB 4 = .ref p4) (e_hB_5 : FhB 5 = .ref p5) (e_hB_6 : FhB 6 = .ref p6) (e_hB_7 : FhB 7 = .ref p7) (e_hB_8 : FhB 8 = .ref p8) (e_hA_0 : FhA 0 = .ref q0) (e_hA_1 : FhA 1 = .ref q1) (e_hA_2 : FhA 2 = .ref q2) (e_hA_3 : FhA 3 = .ref q3) (e_hA_4 : FhA 4 = .ref q4) (e_hA_5 : FhA 5 = .ref q5) (e_hA_6 : FhA 6 = .ref q6) (e_hA_7 : FhA 7 = .ref q7) (e_hA_8 : FhA 8 = .ref q8) (e_hA_9 : FhA 9 = .int n9) (e_hA_10 : FhA 10 = .int n10) (e_hA_11 : FhA 11 = .int n11) : kM l yX11_image cX11_image 1 none { frames := 7, cells := 0, slots := 0, locals := 131 } G [.ref h0] [(h0, .inr (11, ofL 17 Fh0)), (hB, .inr (3, ofL 12 FhB)), (hA, .inr (3, ofL 12 FhA)), (p0, .inl (G.2.1, 12, .inl f0)), (p1, .inl (G.2.1, 12, .inl f1)), (p2, .inl (G.2.1, 12, .inl f2)), (p3, .inl (G.2.1, 12, .inl f3)), (p4, .inl (G.2.1, 40, .inl f4)), (p5, .inl (G.2.1, 40, .inl f5)), (p6, .inl (G.2.1, 40, .inl f6)), (p7, .inl (G.2.1, 8, .inl f7)), (p8, .inl (G.2.1, 8, .inl f8)), (q0, .inl (G.2.1, 12, .inl g0)), (q1, .inl (G.2.1, 12, .inl g1)), (q2, .inl (G.2.1, 12, .inl g2)), (q3, .inl (G.2.1, 12, .inl g3)), (q4, .inl (G.2.1, 40, .inl g4)), (q5, .inl (G.2.1, 40, .inl g5)), (q6, .inl (G.2.1, 40, .inl g6)), (q7, .inl (G.2.1, 8, .inl g7)), (q8, .inl (G.2.1, 8, .inl g8))] sz (kQv G (S := Unit) (fun (_ : Unit) => True) (fun _ => [(h0, .inr (11, ofL 17 (updV Fh0 15 (.int 1)))), (hB, .inr (3, ofL 12 (updV (updV (updV FhB 9 (.int n9)) 10 (.int n10)) 11 (.int n11)))), (hA, .inr (3, ofL 12 FhA)), (p0, .inl (G.2.1, 12, .inl (va_cpy g0 f0 0 0 12))), (p1, .inl (G.2.1, 12, .inl (va_cpy g1 f1 0 0 12))), (p2, .inl (G.2.1, 12, .inl (va_cpy g2 f2 0 0 12))), (p3, .inl (G.2.1, 12, .inl (va_cpy g3 f3 0 0 12))), (p4, .inl (G.2.1, 40, .inl (va_cpy g4 f4 0 0 40))), (p5, .inl (G.2.1, 40, .inl (va_cpy g5 f5 0 0 40))), (p6, .inl (G.2.1, 40, .inl (va_cpy g6 f6 0 0 40))), (p7, .inl (G.2.1, 8, .inl (va_cpy g7 f7 0 0 8))), (p8, .inl (G.2.1, 8, .inl (va_cpy g8 f8 0 0 8))), (q0, .inl (G.2.1, 12, .inl g0)), (q1, .inl (G.2.1, 12, .inl g1)), (q2, .inl (G.2.1, 12, .inl g2)), (q3, .inl (G.2.1, 12, .inl g3)), (q4, .inl (G.2.1, 40, .inl g4)), (q5, .inl (G.2.1, 40, .inl g5)), (q6, .inl (G.2.1, 40, .inl g6)), (q7, .inl (G.2.1, 8, .inl g7)), (q8, .inl (G.2.1, 8, .inl g8))])) := by
  refine kM.of (by decide) (Nat.le_of_ble_eq_true rfl) ?_
  intro p e s m below meth c A ls H C hr hlk hnm hP hD hS hl
  have C : kC G p s m c cX11_image 1 RX11 A := C
  have hx := C.1
  have hb := C.2.1
  have hl : lv_has ls 1 [(0, .ref h0)] := hl
  refine lv_aload_n hx hb dX11_image_0 rfl (lv_at hl 0 rfl) ?_
  refine k_get (v := .ref hB) fl_X11_45 C hP 0 rfl e_h0_7 dX11_image_1 ?_
  refine lv_aload_n hx hb dX11_image_4 rfl (lv_at hl 0 rfl) ?_
  refine k_get (v := .ref hA) fl_X11_41 C hP 0 rfl e_h0_6 dX11_image_5 ?_
  refine k_callNv (wr := [(h0, .inr (11, ofL 17 Fh0))]) (rest := []) li_X11_368 C (c_X3_copy l G H.size hB hA FhB p0 p1 p2 p3 p4 p5 p6 p7 p8 FhA q0 q1 q2 q3 q4 q5 q6 q7 q8 n9 n10 n11 f0 f1 f2 f3 f4 f5 f6 f7 f8 g0 g1 g2 g3 g4 g5 g6 g7 g8 e_hB_0 e_hB_1 e_hB_2 e_hB_3 e_hB_4 e_hB_5 e_hB_6 e_hB_7 e_hB_8 e_hA_0 e_hA_1 e_hA_2 e_hA_3 e_hA_4 e_hA_5 e_hA_6 e_hA_7 e_hA_8 e_hA_9 e_hA_10 e_hA_11) (kR rfl) hP hD hS [1, 2, 3, 4, 5, 6, 7, 8, 9, 10, 11, 12, 13, 14, 15, 16, 17, 18, 19, 20] [0] rfl rfl rfl rfl (by decide) 0 3 rfl rfl rfl hl.1 rfl (Nat.le_of_ble_eq_true rfl) dX11_image_8 (fun uu3 H locs hw1 hP hD hS => ?_)
  have hP : va_P G.1 vwCl [(h0, .inr (11, ofL 17 Fh0)), (hB, .inr (3, ofL 12 (updV (updV (updV FhB 9 (.int n9)) 10 (.int n10)) 11 (.int n11)))), (hA, .inr (3, ofL 12 FhA)), (p0, .inl (G.2.1, 12, .inl (va_cpy g0 f0 0 0 12))), (p1, .inl (G.2.1, 12, .inl (va_cpy g1 f1 0 0 12))), (p2, .inl (G.2.1, 12, .inl (va_cpy g2 f2 0 0 12))), (p3, .inl (G.2.1, 12, .inl (va_cpy g3 f3 0 0 12))), (p4, .inl (G.2.1, 40, .inl (va_cpy g4 f4 0 0 40))), (p5, .inl (G.2.1, 40, .inl (va_cpy g5 f5 0 0 40))), (p6, .inl (G.2.1, 40, .inl (va_cpy g6 f6 0 0 40))), (p7, .inl (G.2.1, 8, .inl (va_cpy g7 f7 0 0 8))), (p8, .inl (G.2.1, 8, .inl (va_cpy g8 f8 0 0 8))), (q0, .inl (G.2.1, 12, .inl g0)), (q1, .inl (G.2.1, 12, .inl g1)), (q2, .inl (G.2.1, 12, .inl g2)), (q3, .inl (G.2.1, 12, .inl g3)), (q4, .inl (G.2.1, 40, .inl g4)), (q5, .inl (G.2.1, 40, .inl g5)), (q6, .inl (G.2.1, 40, .inl g6)), (q7, .inl (G.2.1, 8, .inl g7)), (q8, .inl (G.2.1, 8, .inl g8))] H := hP
  have hD : va_D A [(h0, .inr (11, ofL 17 Fh0)), (hB, .inr (3, ofL 12 (updV (updV (updV FhB 9 (.int n9)) 10 (.int n10)) 11 (.int n11)))), (hA, .inr (3, ofL 12 FhA)), (p0, .inl (G.2.1, 12, .inl (va_cpy g0 f0 0 0 12))), (p1, .inl (G.2.1, 12, .inl (va_cpy g1 f1 0 0 12))), (p2, .inl (G.2.1, 12, .inl (va_cpy g2 f2 0 0 12))), (p3, .inl (G.2.1, 12, .inl (va_cpy g3 f3 0 0 12))), (p4, .inl (G.2.1, 40, .inl (va_cpy g4 f4 0 0 40))), (p5, .inl (G.2.1, 40, .inl (va_cpy g5 f5 0 0 40))), (p6, .inl (G.2.1, 40, .inl (va_cpy g6 f6 0 0 40))), (p7, .inl (G.2.1, 8, .inl (va_cpy g7 f7 0 0 8))), (p8, .inl (G.2.1, 8, .inl (va_cpy g8 f8 0 0 8))), (q0, .inl (G.2.1, 12, .inl g0)), (q1, .inl (G.2.1, 12, .inl g1)), (q2, .inl (G.2.1, 12, .inl g2)), (q3, .inl (G.2.1, 12, .inl g3)), (q4, .inl (G.2.1, 40, .inl g4)), (q5, .inl (G.2.1, 40, .inl g5)), (q6, .inl (G.2.1, 40, .inl g6)), (q7, .inl (G.2.1, 8, .inl g7)), (q8, .inl (G.2.1, 8, .inl g8))] := hD
  refine lv_aload_n hx hb dX11_image_11 rfl (lv_at hl 0 rfl) ?_
  refine lv_iconst (v := 1) hx hb dX11_image_12 (by decide) ?_
  refine k_put fl_X11_94 ft_X11_15 C hP hD hS 0 rfl rfl rfl dX11_image_13 (fun H locs hP hD hS => ?_)
  have hP : va_P G.1 vwCl [(h0, .inr (11, ofL 17 (updV Fh0 15 (.int 1)))), (hB, .inr (3, ofL 12 (updV (updV (updV FhB 9 (.int n9)) 10 (.int n10)) 11 (.int n11)))), (hA, .inr (3, ofL 12 FhA)), (p0, .inl (G.2.1, 12, .inl (va_cpy g0 f0 0 0 12))), (p1, .inl (G.2.1, 12, .inl (va_cpy g1 f1 0 0 12))), (p2, .inl (G.2.1, 12, .inl (va_cpy g2 f2 0 0 12))), (p3, .inl (G.2.1, 12, .inl (va_cpy g3 f3 0 0 12))), (p4, .inl (G.2.1, 40, .inl (va_cpy g4 f4 0 0 40))), (p5, .inl (G.2.1, 40, .inl (va_cpy g5 f5 0 0 40))), (p6, .inl (G.2.1, 40, .inl (va_cpy g6 f6 0 0 40))), (p7, .inl (G.2.1, 8, .inl (va_cpy g7 f7 0 0 8))), (p8, .inl (G.2.1, 8, .inl (va_cpy g8 f8 0 0 8))), (q0, .inl (G.2.1, 12, .inl g0)), (q1, .inl (G.2.1, 12, .inl g1)), (q2, .inl (G.2.1, 12, .inl g2)), (q3, .inl (G.2.1, 12, .inl g3)), (q4, .inl (G.2.1, 40, .inl g4)), (q5, .inl (G.2.1, 40, .inl g5)), (q6, .inl (G.2.1, 40, .inl g6)), (q7, .inl (G.2.1, 8, .inl g7)), (q8, .inl (G.2.1, 8, .inl g8))] H := hP
  have hD : va_D A [(h0, .inr (11, ofL 17 (updV Fh0 15 (.int 1)))), (hB, .inr (3, ofL 12 (updV (updV (updV FhB 9 (.int n9)) 10 (.int n10)) 11 (.int n11)))), (hA, .inr (3, ofL 12 FhA)), (p0, .inl (G.2.1, 12, .inl (va_cpy g0 f0 0 0 12))), (p1, .inl (G.2.1, 12, .inl (va_cpy g1 f1 0 0 12))), (p2, .inl (G.2.1, 12, .inl (va_cpy g2 f2 0 0 12))), (p3, .inl (G.2.1, 12, .inl (va_cpy g3 f3 0 0 12))), (p4, .inl (G.2.1, 40, .inl (va_cpy g4 f4 0 0 40))), (p5, .inl (G.2.1, 40, .inl (va_cpy g5 f5 0 0 40))), (p6, .inl (G.2.1, 40, .inl (va_cpy g6 f6 0 0 40))), (p7, .inl (G.2.1, 8, .inl (va_cpy g7 f7 0 0 8))), (p8, .inl (G.2.1, 8, .inl (va_cpy g8 f8 0 0 8))), (q0, .inl (G.2.1, 12, .inl g0)), (q1, .inl (G.2.1, 12, .inl g1)), (q2, .inl (G.2.1, 12, .inl g2)), (q3, .inl (G.2.1, 12, .inl g3)), (q4, .inl (G.2.1, 40, .inl g4)), (q5, .inl (G.2.1, 40, .inl g5)), (q6, .inl (G.2.1, 40, .inl g6)), (q7, .inl (G.2.1, 8, .inl g7)), (q8, .inl (G.2.1, 8, .inl g8))] := hD
  exact k_vret C hr hlk hP hD hS () (trivial) [0, 1, 2, 3, 4, 5, 6, 7, 8, 9, 10, 11, 12, 13, 14, 15, 16, 17, 18, 19, 20] rfl rfl (Nat.le_of_ble_eq_true rfl) (Nat.le_of_ble_eq_true rfl) dX11_image_16
set_option maxHeartbeats 4000000 in
set_option maxRecDepth 100000 in
theorem c_X11_restore (l : Launch) (G : kG) (sz : Nat) (h0 : Nat) (Fh0 : Nat → Value) (e_h0_15 : Fh0 15 = .int 0) : kM l yX11_restore cX11_restore 1 (some .boolean) { frames := 6, cells := 0, slots := 0, locals := 110 } G [.ref h0] [(h0, .inr (11, ofL 17 Fh0))] sz (kQi G (S := Unit) (fun r (_ : Unit) => r = 0) (fun _ => [(h0, .inr (11, ofL 17 Fh0))])) := by
  refine kM.of (by decide) (Nat.le_of_ble_eq_true rfl) ?_
  intro p e s m below meth c A ls H C hr hlk hnm hP hD hS hl
  have C : kC G p s m c cX11_restore 1 RX11 A := C
  have hx := C.1
  have hb := C.2.1
  have hl : lv_has ls 1 [(0, .ref h0)] := hl
  refine lv_aload_n hx hb dX11_restore_0 rfl (lv_at hl 0 rfl) ?_
  refine k_get (v := .int 0) fl_X11_94 C hP 0 rfl e_h0_15 dX11_restore_1 ?_
  refine lv_if_ne (x := 0) (tgt := 9) hx hb dX11_restore_4 (by decide) (fun c_1 => ?_) (fun c_1 => ?_)
  · exact absurd (by decide) c_1
  refine lv_iconst (v := 0) hx hb dX11_restore_7 (by decide) ?_
  exact k_zret C hr hlk rfl hP hD hS () (rfl) [0] rfl rfl (Nat.le_of_ble_eq_true rfl) (Nat.le_of_ble_eq_true rfl) dX11_restore_8
