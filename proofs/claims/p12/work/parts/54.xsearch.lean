theorem tw_410 : (Jvm.Cond.laysFinal "MarshBells$GapSearch" "MarshBells$GapSearch" "day" "LMarshBells$Day;") ∈ lw_tbl := tk_2 (List.mem_of_getElem? (i := 170) rfl)
theorem tw_412 : (Jvm.Cond.laysFinal "MarshBells$GapSearch" "MarshBells$GapSearch" "held" "LMarshBells$Held;") ∈ lw_tbl := tk_2 (List.mem_of_getElem? (i := 172) rfl)
theorem tw_414 : (Jvm.Cond.laysFinal "MarshBells$GapSearch" "MarshBells$GapSearch" "own" "[I") ∈ lw_tbl := tk_2 (List.mem_of_getElem? (i := 174) rfl)
theorem tw_416 : (Jvm.Cond.laysFinal "MarshBells$GapSearch" "MarshBells$GapSearch" "found" "[I") ∈ lw_tbl := tk_2 (List.mem_of_getElem? (i := 176) rfl)
theorem tw_418 : (Jvm.Cond.lays "MarshBells$GapSearch" "MarshBells$GapSearch" "set" "I") ∈ lw_tbl := tk_2 (List.mem_of_getElem? (i := 178) rfl)
theorem tw_420 : (Jvm.Cond.lays "MarshBells$GapSearch" "MarshBells$GapSearch" "goal" "I") ∈ lw_tbl := tk_2 (List.mem_of_getElem? (i := 180) rfl)
theorem tw_422 : (Jvm.Cond.lays "MarshBells$GapSearch" "MarshBells$GapSearch" "late" "I") ∈ lw_tbl := tk_2 (List.mem_of_getElem? (i := 182) rfl)
theorem tw_424 : (Jvm.Cond.lays "MarshBells$GapSearch" "MarshBells$GapSearch" "asked" "I") ∈ lw_tbl := tk_2 (List.mem_of_getElem? (i := 184) rfl)
theorem tw_426 : (Jvm.Cond.lays "MarshBells$GapSearch" "MarshBells$GapSearch" "fewest" "I") ∈ lw_tbl := tk_2 (List.mem_of_getElem? (i := 186) rfl)
theorem inWX2 : ∀ w ∈ u_ws RX2 TX2 9, w ∈ lw_tbl := by
  have e : ∀ k, k < 9 → u_lay RX2 TX2 k ∈ lw_tbl := fun k hk => match k, hk with | 0, _ => tw_410 | 1, _ => tw_412 | 2, _ => tw_414 | 3, _ => tw_416 | 4, _ => tw_418 | 5, _ => tw_420 | 6, _ => tw_422 | 7, _ => tw_424 | 8, _ => tw_426 | k + 9, hk => absurd hk (by omega)
  intro w h
  obtain ⟨k, hk, rfl⟩ := List.mem_map.mp h
  exact e k (List.mem_range.mp hk)
theorem tw_406 : (Jvm.Cond.fieldLink "MarshBells$GapSearch" (36 : Nat) "MarshBells$GapSearch" "goal" "I") ∈ lw_tbl := tk_2 (List.mem_of_getElem? (i := 166) rfl)
theorem fl_X2_36 : kFL RX2 36 2 9 5 := ⟨RX2, TX2, rfl, by decide, inWX2, tw_406⟩
theorem tw_408 : (Jvm.Cond.fieldLink "MarshBells$GapSearch" (64 : Nat) "MarshBells$GapSearch" "asked" "I") ∈ lw_tbl := tk_2 (List.mem_of_getElem? (i := 168) rfl)
theorem fl_X2_64 : kFL RX2 64 2 9 7 := ⟨RX2, TX2, rfl, by decide, inWX2, tw_408⟩
theorem dX2_isIn_0 : decode cX2_isIn 0 = .ok (.iload_n 0, 1) := by decide +kernel
theorem dX2_isIn_1 : decode cX2_isIn 1 = .ok (.iload_n 1, 1) := by decide +kernel
theorem dX2_isIn_2 : decode cX2_isIn 2 = .ok (.ishr, 1) := by decide +kernel
theorem dX2_isIn_3 : decode cX2_isIn 3 = .ok (.iconst 1, 1) := by decide +kernel
theorem dX2_isIn_4 : decode cX2_isIn 4 = .ok (.iand, 1) := by decide +kernel
theorem dX2_isIn_13 : decode cX2_isIn 13 = .ok (.ireturn, 1) := by decide +kernel
theorem dX2_isIn_5 : decode cX2_isIn 5 = .ok (.ifCond .eq 7, 3) := by decide +kernel
theorem dX2_isIn_12 : decode cX2_isIn 12 = .ok (.iconst 0, 1) := by decide +kernel
theorem dX2_isIn_8 : decode cX2_isIn 8 = .ok (.iconst 1, 1) := by decide +kernel
theorem dX2_isIn_9 : decode cX2_isIn 9 = .ok (.goto 4, 3) := by decide +kernel
theorem tw_400 : (Jvm.Cond.fieldLink "MarshBells$GapSearch" (18 : Nat) "MarshBells$GapSearch" "day" "LMarshBells$Day;") ∈ lw_tbl := tk_2 (List.mem_of_getElem? (i := 160) rfl)
theorem fl_X2_18 : kFL RX2 18 2 9 0 := ⟨RX2, TX2, rfl, by decide, inWX2, tw_400⟩
theorem tw_317 : (Jvm.Cond.fieldLinkNest "MarshBells$GapSearch" (67 : Nat) "MarshBells$Day" "plan" "LMarshBells$Plan;" "MarshBells") ∈ lw_tbl := tk_2 (List.mem_of_getElem? (i := 77) rfl)
theorem fl_X2_67 : kFN RX2 67 1 10 7 := ⟨RX1, TX1, rfl, by decide, inWX1, tw_317⟩
theorem tw_150 : (Jvm.Cond.fieldLinkNest "MarshBells$GapSearch" (71 : Nat) "MarshBells$Plan" "lessons" "[LMarshBells$Lesson;" "MarshBells") ∈ lw_tbl := tk_1 (List.mem_of_getElem? (i := 150) rfl)
theorem fl_X2_71 : kFN RX2 71 7 5 0 := ⟨RX7, TX7, rfl, by decide, inWX7, tw_150⟩
theorem tw_81 : (Jvm.Cond.fieldLinkNest "MarshBells$GapSearch" (77 : Nat) "MarshBells$Lesson" "waitedBits" "I" "MarshBells") ∈ lw_tbl := tk_1 (List.mem_of_getElem? (i := 81) rfl)
theorem fl_X2_77 : kFN RX2 77 5 14 2 := ⟨RX5, TX5, rfl, by decide, inWX5, tw_81⟩
theorem dX2_findAsked_0 : decode cX2_findAsked 0 = .ok (.aload_n 0, 1) := by decide +kernel
theorem dX2_findAsked_1 : decode cX2_findAsked 1 = .ok (.iconst 1, 1) := by decide +kernel
theorem dX2_findAsked_2 : decode cX2_findAsked 2 = .ok (.aload_n 0, 1) := by decide +kernel
theorem dX2_findAsked_3 : decode cX2_findAsked 3 = .ok (.getfield 36, 3) := by decide +kernel
theorem dX2_findAsked_6 : decode cX2_findAsked 6 = .ok (.ishl, 1) := by decide +kernel
theorem ft_X2_7 : kFT 2 7 .int false RX2 := ⟨RX2, TX2, 9, tyX2, rfl, tyX2_ok, nmX2, rfl, by decide +kernel, rfl⟩
theorem dX2_findAsked_7 : decode cX2_findAsked 7 = .ok (.putfield 64, 3) := by decide +kernel
theorem dX2_findAsked_10 : decode cX2_findAsked 10 = .ok (.aload_n 0, 1) := by decide +kernel
theorem dX2_findAsked_11 : decode cX2_findAsked 11 = .ok (.getfield 36, 3) := by decide +kernel
theorem dX2_findAsked_14 : decode cX2_findAsked 14 = .ok (.istore_n 1, 1) := by decide +kernel
theorem dX2_findAsked_15 : decode cX2_findAsked 15 = .ok (.iload_n 1, 1) := by decide +kernel
theorem dX2_findAsked_16 : decode cX2_findAsked 16 = .ok (.ifCond .lt 44, 3) := by decide +kernel
theorem dX2_findAsked_60 : decode cX2_findAsked 60 = .ok (.return_, 1) := by decide +kernel
theorem dX2_findAsked_19 : decode cX2_findAsked 19 = .ok (.aload_n 0, 1) := by decide +kernel
theorem dX2_findAsked_20 : decode cX2_findAsked 20 = .ok (.getfield 64, 3) := by decide +kernel
theorem dX2_findAsked_23 : decode cX2_findAsked 23 = .ok (.iload_n 1, 1) := by decide +kernel
theorem tw_1147 : (Jvm.Cond.methodLink "MarshBells$GapSearch" (56 : Nat) ({ cls := "MarshBells$GapSearch", name := "isIn", desc := "(II)Z" } : Jvm.MethodName)) ∈ lw_tbl := tk_5 (List.mem_of_getElem? (i := 187) rfl)
theorem tw_10 : (Jvm.Cond.initialized "MarshBells$GapSearch") ∈ lw_tbl := tk_1 (List.mem_of_getElem? (i := 10) rfl)
theorem tw_1149 : (Jvm.Cond.code ({ cls := "MarshBells$GapSearch", name := "isIn", desc := "(II)Z" } : Jvm.MethodName) prog_4_method_4_code (2 : Nat) (Option.some Jvm.ClassFile.FieldType.boolean)) ∈ lw_tbl := tk_5 (List.mem_of_getElem? (i := 189) rfl)
theorem tw_1148 : (Jvm.Cond.static ({ cls := "MarshBells$GapSearch", name := "isIn", desc := "(II)Z" } : Jvm.MethodName)) ∈ lw_tbl := tk_5 (List.mem_of_getElem? (i := 188) rfl)
theorem li_X2_56 : kLS RX2 56 yX2_isIn cX2_isIn 2 (some .boolean) 2 := ⟨tw_1147, tw_1148, tw_1149, tw_10, by decide +kernel⟩
theorem dX2_findAsked_24 : decode cX2_findAsked 24 = .ok (.invokestatic 56, 3) := by decide +kernel
theorem dX2_findAsked_54 : decode cX2_findAsked 54 = .ok (.iinc 1 (-1), 3) := by decide +kernel
theorem dX2_findAsked_57 : decode cX2_findAsked 57 = .ok (.goto (-42), 3) := by decide +kernel
theorem dX2_findAsked_27 : decode cX2_findAsked 27 = .ok (.ifCond .eq 27, 3) := by decide +kernel
theorem dX2_findAsked_30 : decode cX2_findAsked 30 = .ok (.aload_n 0, 1) := by decide +kernel
theorem dX2_findAsked_31 : decode cX2_findAsked 31 = .ok (.dup, 1) := by decide +kernel
theorem dX2_findAsked_32 : decode cX2_findAsked 32 = .ok (.getfield 64, 3) := by decide +kernel
theorem dX2_findAsked_35 : decode cX2_findAsked 35 = .ok (.aload_n 0, 1) := by decide +kernel
theorem dX2_findAsked_36 : decode cX2_findAsked 36 = .ok (.getfield 18, 3) := by decide +kernel
theorem dX2_findAsked_39 : decode cX2_findAsked 39 = .ok (.getfield 67, 3) := by decide +kernel
theorem dX2_findAsked_42 : decode cX2_findAsked 42 = .ok (.getfield 71, 3) := by decide +kernel
theorem dX2_findAsked_45 : decode cX2_findAsked 45 = .ok (.iload_n 1, 1) := by decide +kernel
theorem dX2_findAsked_46 : decode cX2_findAsked 46 = .ok (.aaload, 1) := by decide +kernel
theorem dX2_findAsked_47 : decode cX2_findAsked 47 = .ok (.getfield 77, 3) := by decide +kernel
theorem dX2_findAsked_50 : decode cX2_findAsked 50 = .ok (.ior, 1) := by decide +kernel
theorem dX2_findAsked_51 : decode cX2_findAsked 51 = .ok (.putfield 64, 3) := by decide +kernel
theorem tw_401 : (Jvm.Cond.fieldLink "MarshBells$GapSearch" (28 : Nat) "MarshBells$GapSearch" "held" "LMarshBells$Held;") ∈ lw_tbl := tk_2 (List.mem_of_getElem? (i := 161) rfl)
theorem fl_X2_28 : kFL RX2 28 2 9 1 := ⟨RX2, TX2, rfl, by decide, inWX2, tw_401⟩
theorem tw_241 : (Jvm.Cond.fieldLinkNest "MarshBells$GapSearch" (45 : Nat) "MarshBells$Held" "gaps" "[I" "MarshBells") ∈ lw_tbl := tk_2 (List.mem_of_getElem? (i := 1) rfl)
theorem fl_X2_45 : kFN RX2 45 3 12 1 := ⟨RX3, TX3, rfl, by decide, inWX3, tw_241⟩
theorem tw_402 : (Jvm.Cond.fieldLink "MarshBells$GapSearch" (9 : Nat) "MarshBells$GapSearch" "own" "[I") ∈ lw_tbl := tk_2 (List.mem_of_getElem? (i := 162) rfl)
theorem fl_X2_9 : kFL RX2 9 2 9 2 := ⟨RX2, TX2, rfl, by decide, inWX2, tw_402⟩
theorem tw_306 : (Jvm.Cond.fieldLinkNest "MarshBells$GapSearch" (92 : Nat) "MarshBells$Day" "ends" "[I" "MarshBells") ∈ lw_tbl := tk_2 (List.mem_of_getElem? (i := 66) rfl)
theorem fl_X2_92 : kFN RX2 92 1 10 2 := ⟨RX1, TX1, rfl, by decide, inWX1, tw_306⟩
theorem dX2_tryGapsOf_0 : decode cX2_tryGapsOf 0 = .ok (.iconst (-1), 1) := by decide +kernel
theorem dX2_tryGapsOf_1 : decode cX2_tryGapsOf 1 = .ok (.istore_n 3, 1) := by decide +kernel
theorem dX2_tryGapsOf_2 : decode cX2_tryGapsOf 2 = .ok (.iconst 0, 1) := by decide +kernel
theorem dX2_tryGapsOf_3 : decode cX2_tryGapsOf 3 = .ok (.istore 4, 2) := by decide +kernel
theorem dX2_tryGapsOf_5 : decode cX2_tryGapsOf 5 = .ok (.iload 4, 2) := by decide +kernel
theorem dX2_tryGapsOf_7 : decode cX2_tryGapsOf 7 = .ok (.iconst 4, 1) := by decide +kernel
theorem dX2_tryGapsOf_8 : decode cX2_tryGapsOf 8 = .ok (.if_icmp .gt 62, 3) := by decide +kernel
theorem dX2_tryGapsOf_70 : decode cX2_tryGapsOf 70 = .ok (.return_, 1) := by decide +kernel
theorem dX2_tryGapsOf_11 : decode cX2_tryGapsOf 11 = .ok (.aload_n 0, 1) := by decide +kernel
theorem dX2_tryGapsOf_12 : decode cX2_tryGapsOf 12 = .ok (.getfield 28, 3) := by decide +kernel
theorem dX2_tryGapsOf_15 : decode cX2_tryGapsOf 15 = .ok (.getfield 45, 3) := by decide +kernel
theorem dX2_tryGapsOf_18 : decode cX2_tryGapsOf 18 = .ok (.iload_n 1, 1) := by decide +kernel
theorem dX2_tryGapsOf_19 : decode cX2_tryGapsOf 19 = .ok (.iload 4, 2) := by decide +kernel
theorem dX2_tryGapsOf_21 : decode cX2_tryGapsOf 21 = .ok (.iastore, 1) := by decide +kernel
theorem dX2_tryGapsOf_22 : decode cX2_tryGapsOf 22 = .ok (.aload_n 0, 1) := by decide +kernel
theorem dX2_tryGapsOf_23 : decode cX2_tryGapsOf 23 = .ok (.getfield 18, 3) := by decide +kernel
theorem dX2_tryGapsOf_26 : decode cX2_tryGapsOf 26 = .ok (.iload_n 1, 1) := by decide +kernel
theorem tw_1160 : (Jvm.Cond.methodLinkNest "MarshBells$GapSearch" (86 : Nat) ({ cls := "MarshBells$Day", name := "runOne", desc := "(I)V" } : Jvm.MethodName) "MarshBells") ∈ lw_tbl := tk_5 (List.mem_of_getElem? (i := 200) rfl)
theorem li_X2_86 : kLN RX2 86 RX1 yX1_runOne "MarshBells" cX1_runOne 3 none 1 := ⟨tw_1160, tw_610, se_X1_runOne, tw_611, tw_7, by decide +kernel⟩
theorem dX2_tryGapsOf_27 : decode cX2_tryGapsOf 27 = .ok (.invokevirtual 86, 3) := by decide +kernel
theorem dX2_tryGapsOf_30 : decode cX2_tryGapsOf 30 = .ok (.aload_n 0, 1) := by decide +kernel
theorem dX2_tryGapsOf_31 : decode cX2_tryGapsOf 31 = .ok (.getfield 18, 3) := by decide +kernel
theorem dX2_tryGapsOf_34 : decode cX2_tryGapsOf 34 = .ok (.getfield 92, 3) := by decide +kernel
theorem dX2_tryGapsOf_37 : decode cX2_tryGapsOf 37 = .ok (.iload_n 1, 1) := by decide +kernel
theorem dX2_tryGapsOf_38 : decode cX2_tryGapsOf 38 = .ok (.iaload, 1) := by decide +kernel
theorem dX2_tryGapsOf_39 : decode cX2_tryGapsOf 39 = .ok (.iload_n 3, 1) := by decide +kernel
theorem dX2_tryGapsOf_64 : decode cX2_tryGapsOf 64 = .ok (.iinc 4 1, 3) := by decide +kernel
theorem dX2_tryGapsOf_67 : decode cX2_tryGapsOf 67 = .ok (.goto (-62), 3) := by decide +kernel
theorem dX2_tryGapsOf_40 : decode cX2_tryGapsOf 40 = .ok (.if_icmp .eq 24, 3) := by decide +kernel
theorem dX2_tryGapsOf_43 : decode cX2_tryGapsOf 43 = .ok (.aload_n 0, 1) := by decide +kernel
theorem dX2_tryGapsOf_44 : decode cX2_tryGapsOf 44 = .ok (.getfield 18, 3) := by decide +kernel
theorem dX2_tryGapsOf_47 : decode cX2_tryGapsOf 47 = .ok (.getfield 92, 3) := by decide +kernel
theorem dX2_tryGapsOf_50 : decode cX2_tryGapsOf 50 = .ok (.iload_n 1, 1) := by decide +kernel
theorem dX2_tryGapsOf_51 : decode cX2_tryGapsOf 51 = .ok (.iaload, 1) := by decide +kernel
theorem dX2_tryGapsOf_52 : decode cX2_tryGapsOf 52 = .ok (.istore_n 3, 1) := by decide +kernel
theorem dX2_tryGapsOf_53 : decode cX2_tryGapsOf 53 = .ok (.aload_n 0, 1) := by decide +kernel
theorem dX2_tryGapsOf_54 : decode cX2_tryGapsOf 54 = .ok (.iload_n 1, 1) := by decide +kernel
theorem dX2_tryGapsOf_55 : decode cX2_tryGapsOf 55 = .ok (.iconst 1, 1) := by decide +kernel
theorem dX2_tryGapsOf_56 : decode cX2_tryGapsOf 56 = .ok (.iadd, 1) := by decide +kernel
theorem dX2_tryGapsOf_57 : decode cX2_tryGapsOf 57 = .ok (.iload_n 2, 1) := by decide +kernel
theorem dX2_tryGapsOf_58 : decode cX2_tryGapsOf 58 = .ok (.iload 4, 2) := by decide +kernel
theorem dX2_tryGapsOf_60 : decode cX2_tryGapsOf 60 = .ok (.iadd, 1) := by decide +kernel
theorem tw_1151 : (Jvm.Cond.methodLink "MarshBells$GapSearch" (60 : Nat) ({ cls := "MarshBells$GapSearch", name := "tryFrom", desc := "(II)V" } : Jvm.MethodName)) ∈ lw_tbl := tk_5 (List.mem_of_getElem? (i := 191) rfl)
theorem tw_1154 : (Jvm.Cond.code ({ cls := "MarshBells$GapSearch", name := "tryFrom", desc := "(II)V" } : Jvm.MethodName) prog_4_method_5_code (3 : Nat) (Option.none : Option Jvm.ClassFile.FieldType)) ∈ lw_tbl := tk_5 (List.mem_of_getElem? (i := 194) rfl)
theorem tw_1153 : (Jvm.Cond.instanceMethod ({ cls := "MarshBells$GapSearch", name := "tryFrom", desc := "(II)V" } : Jvm.MethodName)) ∈ lw_tbl := tk_5 (List.mem_of_getElem? (i := 193) rfl)
theorem se_X2_tryFrom : Cond.selects RX2 yX2_tryFrom yX2_tryFrom ∈ lw_tbl := List.mem_append_left _ (List.mem_of_getElem? (i := 77) rfl)
theorem li_X2_60 : kLV RX2 60 RX2 yX2_tryFrom cX2_tryFrom 3 none 2 := ⟨tw_1151, tw_1153, se_X2_tryFrom, tw_1154, tw_10, by decide +kernel⟩
theorem dX2_tryGapsOf_61 : decode cX2_tryGapsOf 61 = .ok (.invokevirtual 60, 3) := by decide +kernel
theorem tw_409 : (Jvm.Cond.fieldLink "MarshBells$GapSearch" (39 : Nat) "MarshBells$GapSearch" "fewest" "I") ∈ lw_tbl := tk_2 (List.mem_of_getElem? (i := 169) rfl)
theorem fl_X2_39 : kFL RX2 39 2 9 8 := ⟨RX2, TX2, rfl, by decide, inWX2, tw_409⟩
theorem tw_407 : (Jvm.Cond.fieldLink "MarshBells$GapSearch" (33 : Nat) "MarshBells$GapSearch" "late" "I") ∈ lw_tbl := tk_2 (List.mem_of_getElem? (i := 167) rfl)
theorem fl_X2_33 : kFL RX2 33 2 9 6 := ⟨RX2, TX2, rfl, by decide, inWX2, tw_407⟩
theorem tw_403 : (Jvm.Cond.fieldLink "MarshBells$GapSearch" (15 : Nat) "MarshBells$GapSearch" "found" "[I") ∈ lw_tbl := tk_2 (List.mem_of_getElem? (i := 163) rfl)
theorem fl_X2_15 : kFL RX2 15 2 9 3 := ⟨RX2, TX2, rfl, by decide, inWX2, tw_403⟩
theorem dX2_takeIfOnTime_0 : decode cX2_takeIfOnTime 0 = .ok (.aload_n 0, 1) := by decide +kernel
theorem dX2_takeIfOnTime_1 : decode cX2_takeIfOnTime 1 = .ok (.getfield 18, 3) := by decide +kernel
theorem dX2_takeIfOnTime_4 : decode cX2_takeIfOnTime 4 = .ok (.aload_n 0, 1) := by decide +kernel
theorem dX2_takeIfOnTime_5 : decode cX2_takeIfOnTime 5 = .ok (.getfield 36, 3) := by decide +kernel
theorem tw_1159 : (Jvm.Cond.methodLinkNest "MarshBells$GapSearch" (95 : Nat) ({ cls := "MarshBells$Day", name := "late", desc := "(I)I" } : Jvm.MethodName) "MarshBells") ∈ lw_tbl := tk_5 (List.mem_of_getElem? (i := 199) rfl)
theorem li_X2_95 : kLN RX2 95 RX1 yX1_late "MarshBells" cX1_late 2 (some .int) 1 := ⟨tw_1159, tw_658, se_X1_late, tw_659, tw_7, by decide +kernel⟩
theorem dX2_takeIfOnTime_8 : decode cX2_takeIfOnTime 8 = .ok (.invokevirtual 95, 3) := by decide +kernel
theorem dX2_takeIfOnTime_11 : decode cX2_takeIfOnTime 11 = .ok (.aload_n 0, 1) := by decide +kernel
theorem dX2_takeIfOnTime_12 : decode cX2_takeIfOnTime 12 = .ok (.getfield 33, 3) := by decide +kernel
theorem dX2_takeIfOnTime_41 : decode cX2_takeIfOnTime 41 = .ok (.return_, 1) := by decide +kernel
theorem dX2_takeIfOnTime_15 : decode cX2_takeIfOnTime 15 = .ok (.if_icmp .gt 26, 3) := by decide +kernel
theorem dX2_takeIfOnTime_18 : decode cX2_takeIfOnTime 18 = .ok (.aload_n 0, 1) := by decide +kernel
theorem dX2_takeIfOnTime_19 : decode cX2_takeIfOnTime 19 = .ok (.iload_n 1, 1) := by decide +kernel
theorem ft_X2_8 : kFT 2 8 .int false RX2 := ⟨RX2, TX2, 9, tyX2, rfl, tyX2_ok, nmX2, rfl, by decide +kernel, rfl⟩
theorem dX2_takeIfOnTime_20 : decode cX2_takeIfOnTime 20 = .ok (.putfield 39, 3) := by decide +kernel
theorem dX2_takeIfOnTime_23 : decode cX2_takeIfOnTime 23 = .ok (.aload_n 0, 1) := by decide +kernel
theorem dX2_takeIfOnTime_24 : decode cX2_takeIfOnTime 24 = .ok (.getfield 28, 3) := by decide +kernel
theorem dX2_takeIfOnTime_27 : decode cX2_takeIfOnTime 27 = .ok (.getfield 45, 3) := by decide +kernel
theorem dX2_takeIfOnTime_30 : decode cX2_takeIfOnTime 30 = .ok (.iconst 0, 1) := by decide +kernel
theorem dX2_takeIfOnTime_31 : decode cX2_takeIfOnTime 31 = .ok (.aload_n 0, 1) := by decide +kernel
theorem dX2_takeIfOnTime_32 : decode cX2_takeIfOnTime 32 = .ok (.getfield 15, 3) := by decide +kernel
theorem dX2_takeIfOnTime_35 : decode cX2_takeIfOnTime 35 = .ok (.iconst 0, 1) := by decide +kernel
theorem dX2_takeIfOnTime_36 : decode cX2_takeIfOnTime 36 = .ok (.bipush 12, 2) := by decide +kernel
theorem tw_1150 : (Jvm.Cond.methodLink "MarshBells$GapSearch" (50 : Nat) ({ cls := "java/lang/System", name := "arraycopy", desc := "(Ljava/lang/Object;ILjava/lang/Object;II)V" } : Jvm.MethodName)) ∈ lw_tbl := tk_5 (List.mem_of_getElem? (i := 190) rfl)
theorem lc_X2_50 : kLC RX2 50 := ⟨tw_1150, tw_567, tw_566, tw_24⟩
theorem dX2_takeIfOnTime_38 : decode cX2_takeIfOnTime 38 = .ok (.invokestatic 50, 3) := by decide +kernel
theorem tw_405 : (Jvm.Cond.fieldLink "MarshBells$GapSearch" (29 : Nat) "MarshBells$GapSearch" "set" "I") ∈ lw_tbl := tk_2 (List.mem_of_getElem? (i := 165) rfl)
theorem fl_X2_29 : kFL RX2 29 2 9 4 := ⟨RX2, TX2, rfl, by decide, inWX2, tw_405⟩
theorem dX2_tryFrom_0 : decode cX2_tryFrom 0 = .ok (.iload_n 2, 1) := by decide +kernel
theorem dX2_tryFrom_1 : decode cX2_tryFrom 1 = .ok (.aload_n 0, 1) := by decide +kernel
theorem dX2_tryFrom_2 : decode cX2_tryFrom 2 = .ok (.getfield 39, 3) := by decide +kernel
theorem dX2_tryFrom_5 : decode cX2_tryFrom 5 = .ok (.if_icmp .lt 4, 3) := by decide +kernel
theorem dX2_tryFrom_9 : decode cX2_tryFrom 9 = .ok (.iload_n 1, 1) := by decide +kernel
theorem dX2_tryFrom_10 : decode cX2_tryFrom 10 = .ok (.aload_n 0, 1) := by decide +kernel
theorem dX2_tryFrom_11 : decode cX2_tryFrom 11 = .ok (.getfield 36, 3) := by decide +kernel
theorem dX2_tryFrom_89 : decode cX2_tryFrom 89 = .ok (.return_, 1) := by decide +kernel
theorem dX2_tryFrom_23 : decode cX2_tryFrom 23 = .ok (.aload_n 0, 1) := by decide +kernel
theorem dX2_tryFrom_24 : decode cX2_tryFrom 24 = .ok (.iload_n 2, 1) := by decide +kernel
theorem tw_1155 : (Jvm.Cond.methodLink "MarshBells$GapSearch" (82 : Nat) ({ cls := "MarshBells$GapSearch", name := "takeIfOnTime", desc := "(I)V" } : Jvm.MethodName)) ∈ lw_tbl := tk_5 (List.mem_of_getElem? (i := 195) rfl)
theorem tw_1158 : (Jvm.Cond.code ({ cls := "MarshBells$GapSearch", name := "takeIfOnTime", desc := "(I)V" } : Jvm.MethodName) prog_4_method_7_code (2 : Nat) (Option.none : Option Jvm.ClassFile.FieldType)) ∈ lw_tbl := tk_5 (List.mem_of_getElem? (i := 198) rfl)
theorem tw_1157 : (Jvm.Cond.instanceMethod ({ cls := "MarshBells$GapSearch", name := "takeIfOnTime", desc := "(I)V" } : Jvm.MethodName)) ∈ lw_tbl := tk_5 (List.mem_of_getElem? (i := 197) rfl)
theorem se_X2_takeIfOnTime : Cond.selects RX2 yX2_takeIfOnTime yX2_takeIfOnTime ∈ lw_tbl := List.mem_append_left _ (List.mem_of_getElem? (i := 78) rfl)
theorem li_X2_82 : kLV RX2 82 RX2 yX2_takeIfOnTime cX2_takeIfOnTime 2 none 1 := ⟨tw_1155, tw_1157, se_X2_takeIfOnTime, tw_1158, tw_10, by decide +kernel⟩
theorem dX2_tryFrom_25 : decode cX2_tryFrom 25 = .ok (.invokevirtual 82, 3) := by decide +kernel
theorem dX2_tryFrom_28 : decode cX2_tryFrom 28 = .ok (.goto 61, 3) := by decide +kernel
theorem dX2_tryFrom_14 : decode cX2_tryFrom 14 = .ok (.if_icmp .gt 9, 3) := by decide +kernel
theorem dX2_tryFrom_17 : decode cX2_tryFrom 17 = .ok (.iload_n 1, 1) := by decide +kernel
theorem dX2_tryFrom_18 : decode cX2_tryFrom 18 = .ok (.bipush 12, 2) := by decide +kernel
theorem dX2_tryFrom_20 : decode cX2_tryFrom 20 = .ok (.if_icmp .lt 11, 3) := by decide +kernel
theorem dX2_tryFrom_31 : decode cX2_tryFrom 31 = .ok (.aload_n 0, 1) := by decide +kernel
theorem dX2_tryFrom_32 : decode cX2_tryFrom 32 = .ok (.getfield 64, 3) := by decide +kernel
theorem dX2_tryFrom_35 : decode cX2_tryFrom 35 = .ok (.iload_n 1, 1) := by decide +kernel
theorem dX2_tryFrom_36 : decode cX2_tryFrom 36 = .ok (.invokestatic 56, 3) := by decide +kernel
theorem dX2_tryFrom_39 : decode cX2_tryFrom 39 = .ok (.ifCond .ne 14, 3) := by decide +kernel
theorem dX2_tryFrom_53 : decode cX2_tryFrom 53 = .ok (.aload_n 0, 1) := by decide +kernel
theorem dX2_tryFrom_54 : decode cX2_tryFrom 54 = .ok (.getfield 29, 3) := by decide +kernel
theorem dX2_tryFrom_57 : decode cX2_tryFrom 57 = .ok (.iload_n 1, 1) := by decide +kernel
theorem dX2_tryFrom_58 : decode cX2_tryFrom 58 = .ok (.invokestatic 56, 3) := by decide +kernel
theorem dX2_tryFrom_61 : decode cX2_tryFrom 61 = .ok (.ifCond .ne 22, 3) := by decide +kernel
theorem dX2_tryFrom_83 : decode cX2_tryFrom 83 = .ok (.aload_n 0, 1) := by decide +kernel
theorem dX2_tryFrom_84 : decode cX2_tryFrom 84 = .ok (.iload_n 1, 1) := by decide +kernel
theorem dX2_tryFrom_85 : decode cX2_tryFrom 85 = .ok (.iload_n 2, 1) := by decide +kernel
theorem tw_1161 : (Jvm.Cond.methodLink "MarshBells$GapSearch" (89 : Nat) ({ cls := "MarshBells$GapSearch", name := "tryGapsOf", desc := "(II)V" } : Jvm.MethodName)) ∈ lw_tbl := tk_5 (List.mem_of_getElem? (i := 201) rfl)
theorem tw_1164 : (Jvm.Cond.code ({ cls := "MarshBells$GapSearch", name := "tryGapsOf", desc := "(II)V" } : Jvm.MethodName) prog_4_method_6_code (5 : Nat) (Option.none : Option Jvm.ClassFile.FieldType)) ∈ lw_tbl := tk_5 (List.mem_of_getElem? (i := 204) rfl)
theorem tw_1163 : (Jvm.Cond.instanceMethod ({ cls := "MarshBells$GapSearch", name := "tryGapsOf", desc := "(II)V" } : Jvm.MethodName)) ∈ lw_tbl := tk_5 (List.mem_of_getElem? (i := 203) rfl)
theorem se_X2_tryGapsOf : Cond.selects RX2 yX2_tryGapsOf yX2_tryGapsOf ∈ lw_tbl := List.mem_append_left _ (List.mem_of_getElem? (i := 79) rfl)
theorem li_X2_89 : kLV RX2 89 RX2 yX2_tryGapsOf cX2_tryGapsOf 5 none 2 := ⟨tw_1161, tw_1163, se_X2_tryGapsOf, tw_1164, tw_10, by decide +kernel⟩
theorem dX2_tryFrom_86 : decode cX2_tryFrom 86 = .ok (.invokevirtual 89, 3) := by decide +kernel
theorem dX2_tryFrom_64 : decode cX2_tryFrom 64 = .ok (.aload_n 0, 1) := by decide +kernel
theorem dX2_tryFrom_65 : decode cX2_tryFrom 65 = .ok (.getfield 18, 3) := by decide +kernel
theorem dX2_tryFrom_68 : decode cX2_tryFrom 68 = .ok (.iload_n 1, 1) := by decide +kernel
theorem dX2_tryFrom_69 : decode cX2_tryFrom 69 = .ok (.invokevirtual 86, 3) := by decide +kernel
theorem dX2_tryFrom_72 : decode cX2_tryFrom 72 = .ok (.aload_n 0, 1) := by decide +kernel
theorem dX2_tryFrom_73 : decode cX2_tryFrom 73 = .ok (.iload_n 1, 1) := by decide +kernel
theorem dX2_tryFrom_74 : decode cX2_tryFrom 74 = .ok (.iconst 1, 1) := by decide +kernel
theorem dX2_tryFrom_75 : decode cX2_tryFrom 75 = .ok (.iadd, 1) := by decide +kernel
theorem dX2_tryFrom_76 : decode cX2_tryFrom 76 = .ok (.iload_n 2, 1) := by decide +kernel
theorem dX2_tryFrom_77 : decode cX2_tryFrom 77 = .ok (.invokevirtual 60, 3) := by decide +kernel
theorem dX2_tryFrom_80 : decode cX2_tryFrom 80 = .ok (.goto 9, 3) := by decide +kernel
theorem dX2_tryFrom_42 : decode cX2_tryFrom 42 = .ok (.aload_n 0, 1) := by decide +kernel
theorem dX2_tryFrom_43 : decode cX2_tryFrom 43 = .ok (.iload_n 1, 1) := by decide +kernel
theorem dX2_tryFrom_44 : decode cX2_tryFrom 44 = .ok (.iconst 1, 1) := by decide +kernel
theorem dX2_tryFrom_45 : decode cX2_tryFrom 45 = .ok (.iadd, 1) := by decide +kernel
theorem dX2_tryFrom_46 : decode cX2_tryFrom 46 = .ok (.iload_n 2, 1) := by decide +kernel
theorem dX2_tryFrom_47 : decode cX2_tryFrom 47 = .ok (.invokevirtual 60, 3) := by decide +kernel
theorem dX2_tryFrom_50 : decode cX2_tryFrom 50 = .ok (.goto 39, 3) := by decide +kernel
theorem dX2_tryFrom_8 : decode cX2_tryFrom 8 = .ok (.return_, 1) := by decide +kernel
theorem dX2_fewest_0 : decode cX2_fewest 0 = .ok (.aload_n 0, 1) := by decide +kernel
theorem dX2_fewest_1 : decode cX2_fewest 1 = .ok (.iload_n 1, 1) := by decide +kernel
theorem ft_X2_4 : kFT 2 4 .int false RX2 := ⟨RX2, TX2, 9, tyX2, rfl, tyX2_ok, nmX2, rfl, by decide +kernel, rfl⟩
theorem dX2_fewest_2 : decode cX2_fewest 2 = .ok (.putfield 29, 3) := by decide +kernel
theorem dX2_fewest_5 : decode cX2_fewest 5 = .ok (.aload_n 0, 1) := by decide +kernel
theorem dX2_fewest_6 : decode cX2_fewest 6 = .ok (.iload_n 3, 1) := by decide +kernel
theorem ft_X2_6 : kFT 2 6 .int false RX2 := ⟨RX2, TX2, 9, tyX2, rfl, tyX2_ok, nmX2, rfl, by decide +kernel, rfl⟩
theorem dX2_fewest_7 : decode cX2_fewest 7 = .ok (.putfield 33, 3) := by decide +kernel
theorem dX2_fewest_10 : decode cX2_fewest 10 = .ok (.aload_n 0, 1) := by decide +kernel
theorem dX2_fewest_11 : decode cX2_fewest 11 = .ok (.iload_n 2, 1) := by decide +kernel
theorem ft_X2_5 : kFT 2 5 .int false RX2 := ⟨RX2, TX2, 9, tyX2, rfl, tyX2_ok, nmX2, rfl, by decide +kernel, rfl⟩
theorem dX2_fewest_12 : decode cX2_fewest 12 = .ok (.putfield 36, 3) := by decide +kernel
theorem dX2_fewest_15 : decode cX2_fewest 15 = .ok (.aload_n 0, 1) := by decide +kernel
theorem dX2_fewest_16 : decode cX2_fewest 16 = .ok (.bipush 21, 2) := by decide +kernel
theorem dX2_fewest_18 : decode cX2_fewest 18 = .ok (.putfield 39, 3) := by decide +kernel
theorem dX2_fewest_21 : decode cX2_fewest 21 = .ok (.aload_n 0, 1) := by decide +kernel
theorem tw_1143 : (Jvm.Cond.methodLink "MarshBells$GapSearch" (42 : Nat) ({ cls := "MarshBells$GapSearch", name := "findAsked", desc := "()V" } : Jvm.MethodName)) ∈ lw_tbl := tk_5 (List.mem_of_getElem? (i := 183) rfl)
theorem tw_1146 : (Jvm.Cond.code ({ cls := "MarshBells$GapSearch", name := "findAsked", desc := "()V" } : Jvm.MethodName) prog_4_method_3_code (2 : Nat) (Option.none : Option Jvm.ClassFile.FieldType)) ∈ lw_tbl := tk_5 (List.mem_of_getElem? (i := 186) rfl)
theorem tw_1145 : (Jvm.Cond.instanceMethod ({ cls := "MarshBells$GapSearch", name := "findAsked", desc := "()V" } : Jvm.MethodName)) ∈ lw_tbl := tk_5 (List.mem_of_getElem? (i := 185) rfl)
theorem se_X2_findAsked : Cond.selects RX2 yX2_findAsked yX2_findAsked ∈ lw_tbl := List.mem_append_left _ (List.mem_of_getElem? (i := 76) rfl)
theorem li_X2_42 : kLV RX2 42 RX2 yX2_findAsked cX2_findAsked 2 none 0 := ⟨tw_1143, tw_1145, se_X2_findAsked, tw_1146, tw_10, by decide +kernel⟩
theorem dX2_fewest_22 : decode cX2_fewest 22 = .ok (.invokevirtual 42, 3) := by decide +kernel
theorem dX2_fewest_25 : decode cX2_fewest 25 = .ok (.aload_n 0, 1) := by decide +kernel
theorem dX2_fewest_26 : decode cX2_fewest 26 = .ok (.getfield 28, 3) := by decide +kernel
theorem dX2_fewest_29 : decode cX2_fewest 29 = .ok (.getfield 45, 3) := by decide +kernel
theorem dX2_fewest_32 : decode cX2_fewest 32 = .ok (.iconst 0, 1) := by decide +kernel
theorem dX2_fewest_33 : decode cX2_fewest 33 = .ok (.aload_n 0, 1) := by decide +kernel
theorem dX2_fewest_34 : decode cX2_fewest 34 = .ok (.getfield 9, 3) := by decide +kernel
theorem dX2_fewest_37 : decode cX2_fewest 37 = .ok (.iconst 0, 1) := by decide +kernel
theorem dX2_fewest_38 : decode cX2_fewest 38 = .ok (.bipush 12, 2) := by decide +kernel
theorem dX2_fewest_40 : decode cX2_fewest 40 = .ok (.invokestatic 50, 3) := by decide +kernel
theorem dX2_fewest_43 : decode cX2_fewest 43 = .ok (.iconst 0, 1) := by decide +kernel
theorem dX2_fewest_44 : decode cX2_fewest 44 = .ok (.istore 4, 2) := by decide +kernel
theorem dX2_fewest_46 : decode cX2_fewest 46 = .ok (.iload 4, 2) := by decide +kernel
theorem dX2_fewest_48 : decode cX2_fewest 48 = .ok (.bipush 12, 2) := by decide +kernel
theorem dX2_fewest_50 : decode cX2_fewest 50 = .ok (.if_icmp .ge 39, 3) := by decide +kernel
theorem dX2_fewest_89 : decode cX2_fewest 89 = .ok (.aload_n 0, 1) := by decide +kernel
theorem dX2_fewest_90 : decode cX2_fewest 90 = .ok (.iconst 0, 1) := by decide +kernel
theorem dX2_fewest_91 : decode cX2_fewest 91 = .ok (.iconst 0, 1) := by decide +kernel
theorem dX2_fewest_92 : decode cX2_fewest 92 = .ok (.invokevirtual 60, 3) := by decide +kernel
theorem dX2_fewest_95 : decode cX2_fewest 95 = .ok (.aload_n 0, 1) := by decide +kernel
theorem dX2_fewest_96 : decode cX2_fewest 96 = .ok (.getfield 9, 3) := by decide +kernel
theorem dX2_fewest_99 : decode cX2_fewest 99 = .ok (.iconst 0, 1) := by decide +kernel
theorem dX2_fewest_100 : decode cX2_fewest 100 = .ok (.aload_n 0, 1) := by decide +kernel
theorem dX2_fewest_101 : decode cX2_fewest 101 = .ok (.getfield 28, 3) := by decide +kernel
theorem dX2_fewest_104 : decode cX2_fewest 104 = .ok (.getfield 45, 3) := by decide +kernel
theorem dX2_fewest_107 : decode cX2_fewest 107 = .ok (.iconst 0, 1) := by decide +kernel
theorem dX2_fewest_108 : decode cX2_fewest 108 = .ok (.bipush 12, 2) := by decide +kernel
theorem dX2_fewest_110 : decode cX2_fewest 110 = .ok (.invokestatic 50, 3) := by decide +kernel
theorem dX2_fewest_113 : decode cX2_fewest 113 = .ok (.aload_n 0, 1) := by decide +kernel
theorem dX2_fewest_114 : decode cX2_fewest 114 = .ok (.getfield 39, 3) := by decide +kernel
theorem dX2_fewest_117 : decode cX2_fewest 117 = .ok (.bipush 21, 2) := by decide +kernel
theorem dX2_fewest_130 : decode cX2_fewest 130 = .ok (.ireturn, 1) := by decide +kernel
theorem dX2_fewest_119 : decode cX2_fewest 119 = .ok (.if_icmp .ne 7, 3) := by decide +kernel
theorem dX2_fewest_126 : decode cX2_fewest 126 = .ok (.aload_n 0, 1) := by decide +kernel
theorem dX2_fewest_127 : decode cX2_fewest 127 = .ok (.getfield 39, 3) := by decide +kernel
theorem dX2_fewest_122 : decode cX2_fewest 122 = .ok (.iconst (-1), 1) := by decide +kernel
theorem dX2_fewest_123 : decode cX2_fewest 123 = .ok (.goto 7, 3) := by decide +kernel
theorem dX2_fewest_53 : decode cX2_fewest 53 = .ok (.aload_n 0, 1) := by decide +kernel
theorem dX2_fewest_54 : decode cX2_fewest 54 = .ok (.getfield 28, 3) := by decide +kernel
theorem dX2_fewest_57 : decode cX2_fewest 57 = .ok (.getfield 45, 3) := by decide +kernel
theorem dX2_fewest_60 : decode cX2_fewest 60 = .ok (.iload 4, 2) := by decide +kernel
theorem dX2_fewest_62 : decode cX2_fewest 62 = .ok (.iload_n 1, 1) := by decide +kernel
theorem dX2_fewest_63 : decode cX2_fewest 63 = .ok (.iload 4, 2) := by decide +kernel
theorem dX2_fewest_65 : decode cX2_fewest 65 = .ok (.invokestatic 56, 3) := by decide +kernel
theorem dX2_fewest_82 : decode cX2_fewest 82 = .ok (.iastore, 1) := by decide +kernel
theorem dX2_fewest_83 : decode cX2_fewest 83 = .ok (.iinc 4 1, 3) := by decide +kernel
theorem dX2_fewest_86 : decode cX2_fewest 86 = .ok (.goto (-40), 3) := by decide +kernel
theorem dX2_fewest_68 : decode cX2_fewest 68 = .ok (.ifCond .eq 7, 3) := by decide +kernel
theorem dX2_fewest_75 : decode cX2_fewest 75 = .ok (.aload_n 0, 1) := by decide +kernel
theorem dX2_fewest_76 : decode cX2_fewest 76 = .ok (.getfield 9, 3) := by decide +kernel
theorem dX2_fewest_79 : decode cX2_fewest 79 = .ok (.iload 4, 2) := by decide +kernel
theorem dX2_fewest_81 : decode cX2_fewest 81 = .ok (.iaload, 1) := by decide +kernel
theorem dX2_fewest_71 : decode cX2_fewest 71 = .ok (.iconst 0, 1) := by decide +kernel
theorem dX2_fewest_72 : decode cX2_fewest 72 = .ok (.goto 10, 3) := by decide +kernel
def fX2_isIn_p13 (fu : Nat) (t0 : Int32) (g : Nat → Nat → Int32) (L : Nat → Nat → Int64) : Option ((Int32) × zS) :=
  ckb t0 (some (t0, (g, L)))
def fX2_isIn (fu : Nat) (p1 : Int32) (p2 : Int32) (g : Nat → Nat → Int32) (L : Nat → Nat → Int64) : Option ((Int32) × zS) :=
  if (((p1 : Int32) >>> ((p2 : Int32) &&& 31) : Int32) &&& 1) = 0 then fX2_isIn_p13 fu 0 g L
  else fX2_isIn_p13 fu 1 g L
set_option maxHeartbeats 4000000 in
set_option maxRecDepth 100000 in
theorem rX2_isIn (l : Launch) (G : kG) (sz : Nat) (b : Nat) (a : Nat → Nat) (fu : Nat) (g : Nat → Nat → Int32) (L : Nat → Nat → Int64) (p1 : Int32) (p2 : Int32) (res : Int32) (s9 : zS) (h : fX2_isIn fu p1 p2 g L = some (res, s9)) : kM l yX2_isIn cX2_isIn 2 (some .boolean) { frames := 6, cells := 0, slots := 0, locals := 110 } G [.int p1, .int p2] (zw G (XS b) 105 a g L) sz (kQi G (S := Unit) (fun r' _ => r' = res) (fun _ => zw G (XS b) 105 a s9.1 s9.2)) := by
  refine kM.of (by decide) (Nat.le_of_ble_eq_true rfl) ?_
  intro p e s m below meth c A ls H C hr hlk hnm hP hD hS hl
  have C : kC G p s m c cX2_isIn 2 RX2 A := C
  have hx := C.1
  have hb := C.2.1
  have hl : lv_has ls 2 [(0, .int p1), (1, .int p2)] := hl
  obtain ⟨locs, hlocs⟩ : ∃ q : List Loc, q = [] := ⟨_, rfl⟩
  rw [← hlocs] at hS
  rw [← hlocs]
  unfold fX2_isIn at h
  refine lv_iload_n hx hb dX2_isIn_0 rfl (lv_at hl 0 rfl) ?_
  refine lv_iload_n hx hb dX2_isIn_1 rfl (lv_at hl 1 rfl) ?_
  refine lv_ishr hx hb dX2_isIn_2 ?_
  refine lv_iconst (v := 1) hx hb dX2_isIn_3 (by decide) ?_
  refine lv_iand hx hb dX2_isIn_4 ?_
  have J13 : ∀ (t0 : Int32) (g : Nat → Nat → Int32) (L : Nat → Nat → Int64) (H : Heap) (locs : List Loc) (ls : Array Slot), fX2_isIn_p13 fu t0 g L = some (res, s9) → va_P G.1 vwCl (zw G (XS b) 105 a g L) H → va_D A (zw G (XS b) 105 a g L) → va_S A s.heap H locs → lv_has ls 2 [] → W p l e { frames := 6, cells := 0, slots := 0, locals := 110 } s m [.int p1, .int p2].toArray below meth c H locs 0 0 (MQ below ((kQi G (S := Unit) (fun r' _ => r' = res) (fun _ => zw G (XS b) 105 a s9.1 s9.2)) A) [.int p1, .int p2].toArray s 0 0 A) (F0 m 13 ls [.int t0]) := by
    intro t0 g L H locs ls h hP hD hS hl
    unfold fX2_isIn_p13 at h
    exact y_zret C hr hlk hP hD hS h (Nat.le_of_ble_eq_true rfl) (Nat.le_of_ble_eq_true rfl) dX2_isIn_13
  refine lv_if_eq (x := (((p1 : Int32) >>> ((p2 : Int32) &&& 31) : Int32) &&& 1)) (tgt := 12) hx hb dX2_isIn_5 (by decide) (fun c1 => ?_) (fun c1 => ?_)
  ·
    have h := ite_t c1 h
    refine lv_iconst (v := 0) hx hb dX2_isIn_12 (by decide) ?_
    exact J13 0 g L H locs ls h hP hD hS (lv_sub hl [] rfl)
  ·
    have h := ite_e c1 h
    refine lv_iconst (v := 1) hx hb dX2_isIn_8 (by decide) ?_
    refine lv_goto (tgt := 13) hx hb dX2_isIn_9 (by decide) ?_
    exact J13 1 g L H locs ls h hP hD hS (lv_sub hl [] rfl)
def fX2_findAsked_10_p54 (fu : Nat) (k15 : Int32 × (Nat → Nat → Int32) × (Nat → Nat → Int64) → Option ((Unit) × zS)) (v1 : Int32) (g : Nat → Nat → Int32) (L : Nat → Nat → Int64) : Option ((Unit) × zS) :=
  k15 ((v1 + (-1)), g, L)
def fX2_findAsked_10_s15 (fu : Nat) (k15 : Int32 × (Nat → Nat → Int32) × (Nat → Nat → Int64) → Option ((Unit) × zS)) (v1 : Int32) (g : Nat → Nat → Int32) (L : Nat → Nat → Int64) : Option ((Unit) × zS) :=
  if v1 < 0 then some ((), (g, L))
  else cb (fX2_isIn fu (g 10 7) v1 g L) (fun x4 g5 L6 =>
  if x4 = 0 then fX2_findAsked_10_p54 fu k15 v1 g5 L6
  else ck v1 12 (ltn (57 + (Int32.toNatClampNeg v1) % 12) (fun q9 =>
  sti g5 10 7 ((g5 10 7) ||| (g5 q9 2)) (fun g10 =>
  fX2_findAsked_10_p54 fu k15 v1 g10 L6))))
def fX2_findAsked_10_l15 (fu : Nat) (v1 : Int32) (g : Nat → Nat → Int32) (L : Nat → Nat → Int64) : Option ((Unit) × zS) :=
  whileK (fun k v => fX2_findAsked_10_s15 fu k v.1 v.2.1 v.2.2) fu (v1, g, L)
def fX2_findAsked_10 (fu : Nat) (g : Nat → Nat → Int32) (L : Nat → Nat → Int64) : Option ((Unit) × zS) :=
  sti g 10 7 ((1 : Int32) <<< (((g 10 5) : Int32) &&& 31) : Int32) (fun g1 =>
  lti (g1 10 5) (fun x2 =>
  fX2_findAsked_10_l15 fu x2 g1 L))
set_option maxHeartbeats 4000000 in
set_option maxRecDepth 100000 in
theorem rX2_findAsked_10 (l : Launch) (G : kG) (sz : Nat) (b : Nat) (a : Nat → Nat) (fu : Nat) (g : Nat → Nat → Int32) (L : Nat → Nat → Int64) (res : Unit) (s9 : zS) (h : fX2_findAsked_10 fu g L = some (res, s9)) : kM l yX2_findAsked cX2_findAsked 2 none { frames := 7, cells := 0, slots := 0, locals := 131 } G [.ref (a 10)] (zw G (XS b) 105 a g L) sz (kQv G (S := Unit) (fun _ => True) (fun _ => zw G (XS b) 105 a s9.1 s9.2)) := by
  refine kM.of (by decide) (Nat.le_of_ble_eq_true rfl) ?_
  intro p e s m below meth c A ls H C hr hlk hnm hP hD hS hl
  have C : kC G p s m c cX2_findAsked 2 RX2 A := C
  have hx := C.1
  have hb := C.2.1
  have hl : lv_has ls 2 [(0, .ref (a 10))] := hl
  obtain ⟨locs, hlocs⟩ : ∃ q : List Loc, q = [] := ⟨_, rfl⟩
  rw [← hlocs] at hS
  rw [← hlocs]
  unfold fX2_findAsked_10 at h
  refine lv_aload_n hx hb dX2_findAsked_0 rfl (lv_at hl 0 rfl) ?_
  refine lv_iconst (v := 1) hx hb dX2_findAsked_1 (by decide) ?_
  refine lv_aload_n hx hb dX2_findAsked_2 rfl (lv_at hl 0 rfl) ?_
  refine x_getv (v := .int (g 10 5)) (Or.inl fl_X2_36) C hP (by decide) xs_10 rfl dX2_findAsked_3 ?_
  refine lv_ishl hx hb dX2_findAsked_6 ?_
  refine y_puti (Or.inl fl_X2_64) ft_X2_7 C hP hD hS (by decide) xs_10 rfl rfl rfl dX2_findAsked_7 h (fun g1 H locs h hP hD hS => ?_)
  refine lv_aload_n hx hb dX2_findAsked_10 rfl (lv_at hl 0 rfl) ?_
  refine x_getv (v := .int (g1 10 5)) (Or.inl fl_X2_36) C hP (by decide) xs_10 rfl dX2_findAsked_11 ?_
  refine y_let h (fun x2 h => ?_)
  refine lv_istore_n (lv' := [(1, .int x2), (0, .ref (a 10))]) hx hb dX2_findAsked_14 rfl hl (by decide) rfl (fun ls hl => ?_)
  have lp15 : ∀ (_ : True), ∀ (n : Nat) (v : Int32 × (Nat → Nat → Int32) × (Nat → Nat → Int64)), whileK (fun k v => fX2_findAsked_10_s15 fu k v.1 v.2.1 v.2.2) n v = some (res, s9) → ∀ (H : Heap) (locs : List Loc) (ls : Array Slot), va_P G.1 vwCl (zw G (XS b) 105 a (v.2.1) (v.2.2)) H → va_D A (zw G (XS b) 105 a (v.2.1) (v.2.2)) → va_S A s.heap H locs → lv_has ls 2 [(0, .ref (a 10)), (1, .int (v.1))] → W p l e { frames := 7, cells := 0, slots := 0, locals := 131 } s m [.ref (a 10)].toArray below meth c H locs 0 0 (MQ below ((kQv G (S := Unit) (fun _ => True) (fun _ => zw G (XS b) 105 a s9.1 s9.2)) A) [.ref (a 10)].toArray s 0 0 A) (F0 m 15 ls []) := by
    intro _
    refine while_ind (fun k15 ih15 v h => ?_)
    obtain ⟨v1, g, L⟩ := v
    intro H locs ls hP hD hS hl
    have h : fX2_findAsked_10_s15 fu k15 v1 g L = some (res, s9) := h
    have hP : va_P G.1 vwCl (zw G (XS b) 105 a g L) H := hP
    have hD : va_D A (zw G (XS b) 105 a g L) := hD
    have hl : lv_has ls 2 [(0, .ref (a 10)), (1, .int v1)] := hl
    show W p l e { frames := 7, cells := 0, slots := 0, locals := 131 } s m [.ref (a 10)].toArray below meth c H locs 0 0 (MQ below ((kQv G (S := Unit) (fun _ => True) (fun _ => zw G (XS b) 105 a s9.1 s9.2)) A) [.ref (a 10)].toArray s 0 0 A) (F0 m 15 ls [])
    unfold fX2_findAsked_10_s15 at h
    refine lv_iload_n hx hb dX2_findAsked_15 rfl (lv_at hl 1 rfl) ?_
    refine lv_if_lt (x := v1) (tgt := 60) hx hb dX2_findAsked_16 (by decide) (fun c3 => ?_) (fun c3 => ?_)
    ·
      have h := ite_t c3 h
      exact y_vret C hr hlk hP hD hS h (Nat.le_of_ble_eq_true rfl) (Nat.le_of_ble_eq_true rfl) dX2_findAsked_60
    ·
      have h := ite_e c3 h
      refine lv_aload_n hx hb dX2_findAsked_19 rfl (lv_at hl 0 rfl) ?_
      refine x_getv (v := .int (g 10 7)) (Or.inl fl_X2_64) C hP (by decide) xs_10 rfl dX2_findAsked_20 ?_
      refine lv_iload_n hx hb dX2_findAsked_23 rfl (lv_at hl 1 rfl) ?_
      obtain ⟨z_, g5, L6, hf7, h⟩ := cb_some h
      refine x_callSi (rest := []) li_X2_56 C (rX2_isIn l G H.size b a fu g L (g 10 7) v1 z_ (g5, L6) hf7) (kR rfl) hP hD hS rfl hl.1 rfl (Nat.le_of_ble_eq_true rfl) dX2_findAsked_24 (fun x4 u_ H locs e_ hP hD hS => ?_)
      have e_ : x4 = z_ := e_
      subst e_
      have hP : va_P G.1 vwCl (zw G (XS b) 105 a g5 L6) H := hP
      have hD : va_D A (zw G (XS b) 105 a g5 L6) := hD
      have J54 : ∀ (v1 : Int32) (g : Nat → Nat → Int32) (L : Nat → Nat → Int64) (H : Heap) (locs : List Loc) (ls : Array Slot), fX2_findAsked_10_p54 fu k15 v1 g L = some (res, s9) → va_P G.1 vwCl (zw G (XS b) 105 a g L) H → va_D A (zw G (XS b) 105 a g L) → va_S A s.heap H locs → lv_has ls 2 [(0, .ref (a 10)), (1, .int v1)] → W p l e { frames := 7, cells := 0, slots := 0, locals := 131 } s m [.ref (a 10)].toArray below meth c H locs 0 0 (MQ below ((kQv G (S := Unit) (fun _ => True) (fun _ => zw G (XS b) 105 a s9.1 s9.2)) A) [.ref (a 10)].toArray s 0 0 A) (F0 m 54 ls []) := by
        intro v1 g L H locs ls h hP hD hS hl
        unfold fX2_findAsked_10_p54 at h
        refine lv_iinc (v := (v1 + (-1))) (lv' := [(1, .int (v1 + (-1))), (0, .ref (a 10))]) hx hb dX2_findAsked_54 hl (k := 1) rfl rfl (by decide) rfl (fun ls hl => ?_)
        refine lv_goto (tgt := 15) hx hb dX2_findAsked_57 (by decide) ?_
        exact ih15 ((v1 + (-1)), g, L) h H locs ls hP hD hS (lv_sub hl [1, 0] rfl)
      refine lv_if_eq (x := x4) (tgt := 54) hx hb dX2_findAsked_27 (by decide) (fun c8 => ?_) (fun c8 => ?_)
      ·
        have h := ite_t c8 h
        exact J54 v1 g5 L6 H locs ls h hP hD hS (lv_sub hl [0, 1] rfl)
      ·
        have h := ite_e c8 h
        refine lv_aload_n hx hb dX2_findAsked_30 rfl (lv_at hl 0 rfl) ?_
        refine lv_dup hx hb dX2_findAsked_31 rfl ?_
        refine x_getv (v := .int (g5 10 7)) (Or.inl fl_X2_64) C hP (by decide) xs_10 rfl dX2_findAsked_32 ?_
        refine lv_aload_n hx hb dX2_findAsked_35 rfl (lv_at hl 0 rfl) ?_
        refine x_getr (Or.inl fl_X2_18) C hP (by decide) xs_10 rfl dX2_findAsked_36 ?_
        refine x_getr (Or.inr fl_X2_67) C hP (by decide) xs_8 rfl dX2_findAsked_39 ?_
        refine x_getr (Or.inr fl_X2_71) C hP (by decide) xs_1 rfl dX2_findAsked_42 ?_
        refine lv_iload_n hx hb dX2_findAsked_45 rfl (lv_at hl 1 rfl) ?_
        refine y_aald (t := 57) C hP (by decide) xs_17 dX2_findAsked_46 h (fun q9 q9l q9h h => ?_)
        refine x_getv (v := .int (g5 q9 2)) (Or.inr fl_X2_77) C hP (by omega) (xs_les (by omega) (by omega)) rfl dX2_findAsked_47 ?_
        refine lv_ior hx hb dX2_findAsked_50 ?_
        refine y_puti (Or.inl fl_X2_64) ft_X2_7 C hP hD hS (by decide) xs_10 rfl rfl rfl dX2_findAsked_51 h (fun g10 H locs h hP hD hS => ?_)
        exact J54 v1 g10 L6 H locs ls h hP hD hS (lv_sub hl [0, 1] rfl)
  exact lp15 trivial fu (x2, g1, L) h H locs ls hP hD hS (lv_sub hl [1, 0] rfl)
def fX2_takeIfOnTime_10_p41 (fu : Nat) (g : Nat → Nat → Int32) (L : Nat → Nat → Int64) : Option ((Unit) × zS) :=
  some ((), (g, L))
def fX2_takeIfOnTime_10 (fu : Nat) (p1 : Int32) (g : Nat → Nat → Int32) (L : Nat → Nat → Int64) : Option ((Unit) × zS) :=
  cb (fX1_late_8 fu (g 10 5) g L) (fun x1 g2 L3 =>
  if (g2 10 6) < x1 then fX2_takeIfOnTime_10_p41 fu g2 L3
  else sti g2 10 8 p1 (fun g6 =>
  stA g6 51 (va_cpy (g6 26) (g6 51) (Int32.toNatClampNeg 0) (Int32.toNatClampNeg 0) (Int32.toNatClampNeg 12)) (fun g7 =>
  fX2_takeIfOnTime_10_p41 fu g7 L3)))
set_option maxHeartbeats 4000000 in
set_option maxRecDepth 100000 in
theorem rX2_takeIfOnTime_10 (l : Launch) (G : kG) (sz : Nat) (b : Nat) (a : Nat → Nat) (fu : Nat) (g : Nat → Nat → Int32) (L : Nat → Nat → Int64) (p1 : Int32) (res : Unit) (s9 : zS) (h : fX2_takeIfOnTime_10 fu p1 g L = some (res, s9)) : kM l yX2_takeIfOnTime cX2_takeIfOnTime 2 none { frames := 7, cells := 0, slots := 0, locals := 131 } G [.ref (a 10), .int p1] (zw G (XS b) 105 a g L) sz (kQv G (S := Unit) (fun _ => True) (fun _ => zw G (XS b) 105 a s9.1 s9.2)) := by
  refine kM.of (by decide) (Nat.le_of_ble_eq_true rfl) ?_
  intro p e s m below meth c A ls H C hr hlk hnm hP hD hS hl
  have C : kC G p s m c cX2_takeIfOnTime 2 RX2 A := C
  have hx := C.1
  have hb := C.2.1
  have hl : lv_has ls 2 [(0, .ref (a 10)), (1, .int p1)] := hl
  obtain ⟨locs, hlocs⟩ : ∃ q : List Loc, q = [] := ⟨_, rfl⟩
  rw [← hlocs] at hS
  rw [← hlocs]
  unfold fX2_takeIfOnTime_10 at h
  refine lv_aload_n hx hb dX2_takeIfOnTime_0 rfl (lv_at hl 0 rfl) ?_
  refine x_getr (Or.inl fl_X2_18) C hP (by decide) xs_10 rfl dX2_takeIfOnTime_1 ?_
  refine lv_aload_n hx hb dX2_takeIfOnTime_4 rfl (lv_at hl 0 rfl) ?_
  refine x_getv (v := .int (g 10 5)) (Or.inl fl_X2_36) C hP (by decide) xs_10 rfl dX2_takeIfOnTime_5 ?_
  obtain ⟨z_, g2, L3, hf4, h⟩ := cb_some h
  refine x_callNi (rest := []) li_X2_95 C (rX1_late_8 l G H.size b a fu g L (g 10 5) z_ (g2, L3) hf4) (kR rfl) hP hD hS 8 1 rfl (zat (by decide) xs_8) rfl hl.1 rfl (Nat.le_of_ble_eq_true rfl) dX2_takeIfOnTime_8 (fun x1 u_ H locs e_ hP hD hS => ?_)
  have e_ : x1 = z_ := e_
  subst e_
  have hP : va_P G.1 vwCl (zw G (XS b) 105 a g2 L3) H := hP
  have hD : va_D A (zw G (XS b) 105 a g2 L3) := hD
  refine lv_aload_n hx hb dX2_takeIfOnTime_11 rfl (lv_at hl 0 rfl) ?_
  refine x_getv (v := .int (g2 10 6)) (Or.inl fl_X2_33) C hP (by decide) xs_10 rfl dX2_takeIfOnTime_12 ?_
  have J41 : ∀ (g : Nat → Nat → Int32) (L : Nat → Nat → Int64) (H : Heap) (locs : List Loc) (ls : Array Slot), fX2_takeIfOnTime_10_p41 fu g L = some (res, s9) → va_P G.1 vwCl (zw G (XS b) 105 a g L) H → va_D A (zw G (XS b) 105 a g L) → va_S A s.heap H locs → lv_has ls 2 [] → W p l e { frames := 7, cells := 0, slots := 0, locals := 131 } s m [.ref (a 10), .int p1].toArray below meth c H locs 0 0 (MQ below ((kQv G (S := Unit) (fun _ => True) (fun _ => zw G (XS b) 105 a s9.1 s9.2)) A) [.ref (a 10), .int p1].toArray s 0 0 A) (F0 m 41 ls []) := by
    intro g L H locs ls h hP hD hS hl
    unfold fX2_takeIfOnTime_10_p41 at h
    exact y_vret C hr hlk hP hD hS h (Nat.le_of_ble_eq_true rfl) (Nat.le_of_ble_eq_true rfl) dX2_takeIfOnTime_41
  refine lv_icmp_gt (x := x1) (y := (g2 10 6)) (tgt := 41) hx hb dX2_takeIfOnTime_15 (by decide) (fun c5 => ?_) (fun c5 => ?_)
  ·
    have h := ite_t c5 h
    exact J41 g2 L3 H locs ls h hP hD hS (lv_sub hl [] rfl)
  ·
    have h := ite_e c5 h
    refine lv_aload_n hx hb dX2_takeIfOnTime_18 rfl (lv_at hl 0 rfl) ?_
    refine lv_iload_n hx hb dX2_takeIfOnTime_19 rfl (lv_at hl 1 rfl) ?_
    refine y_puti (Or.inl fl_X2_39) ft_X2_8 C hP hD hS (by decide) xs_10 rfl rfl rfl dX2_takeIfOnTime_20 h (fun g6 H locs h hP hD hS => ?_)
    refine lv_aload_n hx hb dX2_takeIfOnTime_23 rfl (lv_at hl 0 rfl) ?_
    refine x_getr (Or.inl fl_X2_28) C hP (by decide) xs_10 rfl dX2_takeIfOnTime_24 ?_
    refine x_getr (Or.inr fl_X2_45) C hP (by decide) xs_6 rfl dX2_takeIfOnTime_27 ?_
    refine lv_iconst (v := 0) hx hb dX2_takeIfOnTime_30 (by decide) ?_
    refine lv_aload_n hx hb dX2_takeIfOnTime_31 rfl (lv_at hl 0 rfl) ?_
    refine x_getr (Or.inl fl_X2_15) C hP (by decide) xs_10 rfl dX2_takeIfOnTime_32 ?_
    refine lv_iconst (v := 0) hx hb dX2_takeIfOnTime_35 (by decide) ?_
    refine lv_bipush (v := 12) hx hb dX2_takeIfOnTime_36 (by decide) ?_
    refine y_copy lc_X2_50 C hl.1 hP hD hS (by decide) (by decide) xs_26 xs_51 (by decide) (by decide) (by decide) (by decide) (by decide) (Nat.le_of_ble_eq_true rfl) (Nat.le_of_ble_eq_true rfl) dX2_takeIfOnTime_38 h (fun g7 H locs h hP hD hS => ?_)
    exact J41 g7 L3 H locs ls h hP hD hS (lv_sub hl [] rfl)
def fX2_tryGapsOf_10_p64 (fu : Nat) (rc : Int32 → Int32 → (Nat → Nat → Int32) → (Nat → Nat → Int64) → Option ((Unit) × zS)) (k5 : Int32 × Int32 × (Nat → Nat → Int32) × (Nat → Nat → Int64) → Option ((Unit) × zS)) (v1 : Int32) (v2 : Int32) (v3 : Int32) (v4 : Int32) (g : Nat → Nat → Int32) (L : Nat → Nat → Int64) : Option ((Unit) × zS) :=
  k5 (v3, (v4 + 1), g, L)
def fX2_tryGapsOf_10_s5 (fu : Nat) (rc : Int32 → Int32 → (Nat → Nat → Int32) → (Nat → Nat → Int64) → Option ((Unit) × zS)) (v1 : Int32) (v2 : Int32) (k5 : Int32 × Int32 × (Nat → Nat → Int32) × (Nat → Nat → Int64) → Option ((Unit) × zS)) (v3 : Int32) (v4 : Int32) (g : Nat → Nat → Int32) (L : Nat → Nat → Int64) : Option ((Unit) × zS) :=
  if 4 < (v4 : Int32) then some ((), (g, L))
  else ck v1 12 (sti g 26 (Int32.toNatClampNeg v1) v4 (fun g2 =>
  cb (fX1_runOne_8 fu v1 g2 L) (fun x3 g4 L5 =>
  ck v1 12 (
  if (g4 44 (Int32.toNatClampNeg v1)) = v3 then fX2_tryGapsOf_10_p64 fu rc k5 v1 v2 v3 v4 g4 L5
  else ck v1 12 (
  lti (g4 44 (Int32.toNatClampNeg v1)) (fun x8 =>
  cb (rc (v1 + 1) (v2 + v4) g4 L5) (fun x9 g10 L11 =>
  fX2_tryGapsOf_10_p64 fu rc k5 v1 v2 x8 v4 g10 L11)))))))
def fX2_tryGapsOf_10_l5 (fu : Nat) (rc : Int32 → Int32 → (Nat → Nat → Int32) → (Nat → Nat → Int64) → Option ((Unit) × zS)) (v1 : Int32) (v2 : Int32) (v3 : Int32) (v4 : Int32) (g : Nat → Nat → Int32) (L : Nat → Nat → Int64) : Option ((Unit) × zS) :=
  whileK (fun k v => fX2_tryGapsOf_10_s5 fu rc v1 v2 k v.1 v.2.1 v.2.2.1 v.2.2.2) fu (v3, v4, g, L)
def fX2_tryGapsOf_10 (fu : Nat) (rc : Int32 → Int32 → (Nat → Nat → Int32) → (Nat → Nat → Int64) → Option ((Unit) × zS)) (p1 : Int32) (p2 : Int32) (g : Nat → Nat → Int32) (L : Nat → Nat → Int64) : Option ((Unit) × zS) :=
  fX2_tryGapsOf_10_l5 fu rc p1 p2 (-1) 0 g L
def fX2_tryFrom_10_p89 (fu : Nat) (rc : Int32 → Int32 → (Nat → Nat → Int32) → (Nat → Nat → Int64) → Option ((Unit) × zS)) (g : Nat → Nat → Int32) (L : Nat → Nat → Int64) : Option ((Unit) × zS) :=
  some ((), (g, L))
def fX2_tryFrom_10_p23 (fu : Nat) (rc : Int32 → Int32 → (Nat → Nat → Int32) → (Nat → Nat → Int64) → Option ((Unit) × zS)) (v2 : Int32) (g : Nat → Nat → Int32) (L : Nat → Nat → Int64) : Option ((Unit) × zS) :=
  cb (fX2_takeIfOnTime_10 fu v2 g L) (fun x2 g3 L4 =>
  fX2_tryFrom_10_p89 fu rc g3 L4)
def fX2_tryFrom_10B (fu : Nat) (rc : Int32 → Int32 → (Nat → Nat → Int32) → (Nat → Nat → Int64) → Option ((Unit) × zS)) (p1 : Int32) (p2 : Int32) (g : Nat → Nat → Int32) (L : Nat → Nat → Int64) : Option ((Unit) × zS) :=
  if p2 < (g 10 8) then (if (g 10 5) < p1 then fX2_tryFrom_10_p23 fu rc p2 g L
  else if (p1 : Int32) < 12 then cb (fX2_isIn fu (g 10 7) p1 g L) (fun x8 g9 L10 =>
  if x8 = 0 then cb (rc (p1 + 1) p2 g9 L10) (fun x30 g31 L32 =>
  fX2_tryFrom_10_p89 fu rc g31 L32)
  else cb (fX2_isIn fu (g9 10 4) p1 g9 L10) (fun x13 g14 L15 =>
  if x13 = 0 then cb (fX1_runOne_8 fu p1 g14 L15) (fun x22 g23 L24 =>
  cb (rc (p1 + 1) p2 g23 L24) (fun x26 g27 L28 =>
  fX2_tryFrom_10_p89 fu rc g27 L28))
  else cb (fX2_tryGapsOf_10 fu rc p1 p2 g14 L15) (fun x18 g19 L20 =>
  fX2_tryFrom_10_p89 fu rc g19 L20)))
  else fX2_tryFrom_10_p23 fu rc p2 g L)
  else some ((), (g, L))
def fX2_tryFrom_10 (fu : Nat) : Nat → Int32 → Int32 → (Nat → Nat → Int32) → (Nat → Nat → Int64) → Option ((Unit) × zS)
  | 0 => fun _ _ _ _ => none
  | n + 1 => fX2_tryFrom_10B fu (fX2_tryFrom_10 fu n)
theorem fX2_tryFrom_10_succ (fu n : Nat) : fX2_tryFrom_10 fu (n + 1) = fX2_tryFrom_10B fu (fX2_tryFrom_10 fu n) := rfl
theorem rX2_tryFrom_10_L0 (l : Launch) (G : kG) (sz : Nat) (b : Nat) (a : Nat → Nat) (fu : Nat) (g : Nat → Nat → Int32) (L : Nat → Nat → Int64) (p1 p2 : Int32) (res : Unit) (s9 : zS) (h : fX2_tryFrom_10 fu 0 p1 p2 g L = some (res, s9)) : kM l yX2_tryFrom cX2_tryFrom 3 none { frames := 6, cells := 0, slots := 0, locals := 110 } G [.ref (a 10), .int p1, .int p2] (zw G (XS b) 105 a g L) sz (kQv G (S := Unit) (fun _ => True) (fun _ => zw G (XS b) 105 a s9.1 s9.2)) := nomatch h
set_option maxHeartbeats 4000000 in
set_option maxRecDepth 100000 in
theorem rX2_tryGapsOf_10_L1 (l : Launch) (G : kG) (sz : Nat) (b : Nat) (a : Nat → Nat) (fu : Nat) (g : Nat → Nat → Int32) (L : Nat → Nat → Int64) (p1 : Int32) (p2 : Int32) (res : Unit) (s9 : zS) (h : fX2_tryGapsOf_10 fu (fX2_tryFrom_10 fu 0) p1 p2 g L = some (res, s9)) : kM l yX2_tryGapsOf cX2_tryGapsOf 5 none { frames := 10, cells := 0, slots := 0, locals := 203 } G [.ref (a 10), .int p1, .int p2] (zw G (XS b) 105 a g L) sz (kQv G (S := Unit) (fun _ => True) (fun _ => zw G (XS b) 105 a s9.1 s9.2)) := by
  refine kM.of (by decide) (Nat.le_of_ble_eq_true rfl) ?_
  intro p e s m below meth c A ls H C hr hlk hnm hP hD hS hl
  have C : kC G p s m c cX2_tryGapsOf 5 RX2 A := C
  have hx := C.1
  have hb := C.2.1
  have hl : lv_has ls 5 [(0, .ref (a 10)), (1, .int p1), (2, .int p2)] := hl
  obtain ⟨locs, hlocs⟩ : ∃ q : List Loc, q = [] := ⟨_, rfl⟩
  rw [← hlocs] at hS
  rw [← hlocs]
  unfold fX2_tryGapsOf_10 at h
  refine lv_iconst (v := -1) hx hb dX2_tryGapsOf_0 (by decide) ?_
  refine lv_istore_n (lv' := [(3, .int (-1)), (0, .ref (a 10)), (1, .int p1), (2, .int p2)]) hx hb dX2_tryGapsOf_1 rfl hl (by decide) rfl (fun ls hl => ?_)
  refine lv_iconst (v := 0) hx hb dX2_tryGapsOf_2 (by decide) ?_
  refine lv_istore (lv' := [(4, .int 0), (3, .int (-1)), (0, .ref (a 10)), (1, .int p1), (2, .int p2)]) hx hb dX2_tryGapsOf_3 hl (by decide) rfl (fun ls hl => ?_)
  have lp5 : ∀ (v1 : Int32) (v2 : Int32), ∀ (n : Nat) (v : Int32 × Int32 × (Nat → Nat → Int32) × (Nat → Nat → Int64)), whileK (fun k v => fX2_tryGapsOf_10_s5 fu (fX2_tryFrom_10 fu 0) v1 v2 k v.1 v.2.1 v.2.2.1 v.2.2.2) n v = some (res, s9) → ∀ (H : Heap) (locs : List Loc) (ls : Array Slot), va_P G.1 vwCl (zw G (XS b) 105 a (v.2.2.1) (v.2.2.2)) H → va_D A (zw G (XS b) 105 a (v.2.2.1) (v.2.2.2)) → va_S A s.heap H locs → lv_has ls 5 [(0, .ref (a 10)), (1, .int v1), (2, .int v2), (3, .int (v.1)), (4, .int (v.2.1))] → W p l e { frames := 10, cells := 0, slots := 0, locals := 203 } s m [.ref (a 10), .int p1, .int p2].toArray below meth c H locs 0 0 (MQ below ((kQv G (S := Unit) (fun _ => True) (fun _ => zw G (XS b) 105 a s9.1 s9.2)) A) [.ref (a 10), .int p1, .int p2].toArray s 0 0 A) (F0 m 5 ls []) := by
    intro v1 v2
    refine while_ind (fun k5 ih5 v h => ?_)
    obtain ⟨v3, v4, g, L⟩ := v
    intro H locs ls hP hD hS hl
    have h : fX2_tryGapsOf_10_s5 fu (fX2_tryFrom_10 fu 0) v1 v2 k5 v3 v4 g L = some (res, s9) := h
    have hP : va_P G.1 vwCl (zw G (XS b) 105 a g L) H := hP
    have hD : va_D A (zw G (XS b) 105 a g L) := hD
    have hl : lv_has ls 5 [(0, .ref (a 10)), (1, .int v1), (2, .int v2), (3, .int v3), (4, .int v4)] := hl
    show W p l e { frames := 10, cells := 0, slots := 0, locals := 203 } s m [.ref (a 10), .int p1, .int p2].toArray below meth c H locs 0 0 (MQ below ((kQv G (S := Unit) (fun _ => True) (fun _ => zw G (XS b) 105 a s9.1 s9.2)) A) [.ref (a 10), .int p1, .int p2].toArray s 0 0 A) (F0 m 5 ls [])
    unfold fX2_tryGapsOf_10_s5 at h
    refine lv_iload hx hb dX2_tryGapsOf_5 (lv_at hl 4 rfl) ?_
    refine lv_iconst (v := 4) hx hb dX2_tryGapsOf_7 (by decide) ?_
    refine lv_icmp_gt (x := v4) (y := 4) (tgt := 70) hx hb dX2_tryGapsOf_8 (by decide) (fun c1 => ?_) (fun c1 => ?_)
    ·
      have h := ite_t c1 h
      exact y_vret C hr hlk hP hD hS h (Nat.le_of_ble_eq_true rfl) (Nat.le_of_ble_eq_true rfl) dX2_tryGapsOf_70
    ·
      have h := ite_e c1 h
      refine lv_aload_n hx hb dX2_tryGapsOf_11 rfl (lv_at hl 0 rfl) ?_
      refine x_getr (Or.inl fl_X2_28) C hP (by decide) xs_10 rfl dX2_tryGapsOf_12 ?_
      refine x_getr (Or.inr fl_X2_45) C hP (by decide) xs_6 rfl dX2_tryGapsOf_15 ?_
      refine lv_iload_n hx hb dX2_tryGapsOf_18 rfl (lv_at hl 1 rfl) ?_
      refine lv_iload hx hb dX2_tryGapsOf_19 (lv_at hl 4 rfl) ?_
      refine y_ast C hP hD hS (by decide) xs_26 dX2_tryGapsOf_21 h (fun g2 H locs h hP hD hS => ?_)
      refine lv_aload_n hx hb dX2_tryGapsOf_22 rfl (lv_at hl 0 rfl) ?_
      refine x_getr (Or.inl fl_X2_18) C hP (by decide) xs_10 rfl dX2_tryGapsOf_23 ?_
      refine lv_iload_n hx hb dX2_tryGapsOf_26 rfl (lv_at hl 1 rfl) ?_
      obtain ⟨z_, g4, L5, hf6, h⟩ := cb_some h
      refine x_callNv (rest := []) li_X2_86 C (rX1_runOne_8 l G H.size b a fu g2 L v1 z_ (g4, L5) hf6) (kR rfl) hP hD hS 8 1 rfl (zat (by decide) xs_8) rfl hl.1 rfl (Nat.le_of_ble_eq_true rfl) dX2_tryGapsOf_27 (fun u_ H locs e_ hP hD hS => ?_)
      have hP : va_P G.1 vwCl (zw G (XS b) 105 a g4 L5) H := hP
      have hD : va_D A (zw G (XS b) 105 a g4 L5) := hD
      refine lv_aload_n hx hb dX2_tryGapsOf_30 rfl (lv_at hl 0 rfl) ?_
      refine x_getr (Or.inl fl_X2_18) C hP (by decide) xs_10 rfl dX2_tryGapsOf_31 ?_
      refine x_getr (Or.inr fl_X2_92) C hP (by decide) xs_8 rfl dX2_tryGapsOf_34 ?_
      refine lv_iload_n hx hb dX2_tryGapsOf_37 rfl (lv_at hl 1 rfl) ?_
      refine y_ald C hP (by decide) xs_44 dX2_tryGapsOf_38 h (fun h => ?_)
      refine lv_iload_n hx hb dX2_tryGapsOf_39 rfl (lv_at hl 3 rfl) ?_
      have J64 : ∀ (v3 : Int32) (v4 : Int32) (g : Nat → Nat → Int32) (L : Nat → Nat → Int64) (H : Heap) (locs : List Loc) (ls : Array Slot), fX2_tryGapsOf_10_p64 fu (fX2_tryFrom_10 fu 0) k5 v1 v2 v3 v4 g L = some (res, s9) → va_P G.1 vwCl (zw G (XS b) 105 a g L) H → va_D A (zw G (XS b) 105 a g L) → va_S A s.heap H locs → lv_has ls 5 [(0, .ref (a 10)), (1, .int v1), (2, .int v2), (3, .int v3), (4, .int v4)] → W p l e { frames := 10, cells := 0, slots := 0, locals := 203 } s m [.ref (a 10), .int p1, .int p2].toArray below meth c H locs 0 0 (MQ below ((kQv G (S := Unit) (fun _ => True) (fun _ => zw G (XS b) 105 a s9.1 s9.2)) A) [.ref (a 10), .int p1, .int p2].toArray s 0 0 A) (F0 m 64 ls []) := by
        intro v3 v4 g L H locs ls h hP hD hS hl
        unfold fX2_tryGapsOf_10_p64 at h
        refine lv_iinc (v := (v4 + 1)) (lv' := [(4, .int (v4 + 1)), (0, .ref (a 10)), (1, .int v1), (2, .int v2), (3, .int v3)]) hx hb dX2_tryGapsOf_64 hl (k := 4) rfl rfl (by decide) rfl (fun ls hl => ?_)
        refine lv_goto (tgt := 5) hx hb dX2_tryGapsOf_67 (by decide) ?_
        exact ih5 (v3, (v4 + 1), g, L) h H locs ls hP hD hS (lv_sub hl [1, 2, 3, 4, 0] rfl)
      refine lv_icmp_eq (x := (g4 44 (Int32.toNatClampNeg v1))) (y := v3) (tgt := 64) hx hb dX2_tryGapsOf_40 (by decide) (fun c7 => ?_) (fun c7 => ?_)
      ·
        have h := ite_t c7 h
        exact J64 v3 v4 g4 L5 H locs ls h hP hD hS (lv_sub hl [0, 1, 2, 3, 4] rfl)
      ·
        have h := ite_e c7 h
        refine lv_aload_n hx hb dX2_tryGapsOf_43 rfl (lv_at hl 0 rfl) ?_
        refine x_getr (Or.inl fl_X2_18) C hP (by decide) xs_10 rfl dX2_tryGapsOf_44 ?_
        refine x_getr (Or.inr fl_X2_92) C hP (by decide) xs_8 rfl dX2_tryGapsOf_47 ?_
        refine lv_iload_n hx hb dX2_tryGapsOf_50 rfl (lv_at hl 1 rfl) ?_
        refine y_ald C hP (by decide) xs_44 dX2_tryGapsOf_51 h (fun h => ?_)
        refine y_let h (fun x8 h => ?_)
        refine lv_istore_n (lv' := [(3, .int x8), (0, .ref (a 10)), (1, .int v1), (2, .int v2), (4, .int v4)]) hx hb dX2_tryGapsOf_52 rfl hl (by decide) rfl (fun ls hl => ?_)
        refine lv_aload_n hx hb dX2_tryGapsOf_53 rfl (lv_at hl 1 rfl) ?_
        refine lv_iload_n hx hb dX2_tryGapsOf_54 rfl (lv_at hl 2 rfl) ?_
        refine lv_iconst (v := 1) hx hb dX2_tryGapsOf_55 (by decide) ?_
        refine lv_iadd hx hb dX2_tryGapsOf_56 ?_
        refine lv_iload_n hx hb dX2_tryGapsOf_57 rfl (lv_at hl 3 rfl) ?_
        refine lv_iload hx hb dX2_tryGapsOf_58 (lv_at hl 4 rfl) ?_
        refine lv_iadd hx hb dX2_tryGapsOf_60 ?_
        obtain ⟨z_, g10, L11, hf12, h⟩ := cb_some h
        refine x_callVv (rest := []) li_X2_60 C (rX2_tryFrom_10_L0 l G H.size b a fu g4 L5 (v1 + 1) (v2 + v4) z_ (g10, L11) hf12) (kR rfl) hP hD hS 10 2 rfl (zat (by decide) xs_10) rfl hl.1 rfl (Nat.le_of_ble_eq_true rfl) dX2_tryGapsOf_61 (fun u_ H locs e_ hP hD hS => ?_)
        have hP : va_P G.1 vwCl (zw G (XS b) 105 a g10 L11) H := hP
        have hD : va_D A (zw G (XS b) 105 a g10 L11) := hD
        exact J64 x8 v4 g10 L11 H locs ls h hP hD hS (lv_sub hl [1, 2, 3, 0, 4] rfl)
  exact lp5 p1 p2 fu ((-1), 0, g, L) h H locs ls hP hD hS (lv_sub hl [2, 3, 4, 1, 0] rfl)
set_option maxHeartbeats 4000000 in
set_option maxRecDepth 100000 in
theorem rX2_tryFrom_10_L1 (l : Launch) (G : kG) (sz : Nat) (b : Nat) (a : Nat → Nat) (fu : Nat) (g : Nat → Nat → Int32) (L : Nat → Nat → Int64) (p1 : Int32) (p2 : Int32) (res : Unit) (s9 : zS) (h : fX2_tryFrom_10 fu 1 p1 p2 g L = some (res, s9)) : kM l yX2_tryFrom cX2_tryFrom 3 none { frames := 11, cells := 0, slots := 0, locals := 227 } G [.ref (a 10), .int p1, .int p2] (zw G (XS b) 105 a g L) sz (kQv G (S := Unit) (fun _ => True) (fun _ => zw G (XS b) 105 a s9.1 s9.2)) := by
  refine kM.of (by decide) (Nat.le_of_ble_eq_true rfl) ?_
  intro p e s m below meth c A ls H C hr hlk hnm hP hD hS hl
  have C : kC G p s m c cX2_tryFrom 3 RX2 A := C
  have hx := C.1
  have hb := C.2.1
  have hl : lv_has ls 3 [(0, .ref (a 10)), (1, .int p1), (2, .int p2)] := hl
  obtain ⟨locs, hlocs⟩ : ∃ q : List Loc, q = [] := ⟨_, rfl⟩
  rw [← hlocs] at hS
  rw [← hlocs]
  rw [fX2_tryFrom_10_succ] at h
  unfold fX2_tryFrom_10B at h
  refine lv_iload_n hx hb dX2_tryFrom_0 rfl (lv_at hl 2 rfl) ?_
  refine lv_aload_n hx hb dX2_tryFrom_1 rfl (lv_at hl 0 rfl) ?_
  refine x_getv (v := .int (g 10 8)) (Or.inl fl_X2_39) C hP (by decide) xs_10 rfl dX2_tryFrom_2 ?_
  refine lv_icmp_lt (x := p2) (y := (g 10 8)) (tgt := 9) hx hb dX2_tryFrom_5 (by decide) (fun c1 => ?_) (fun c1 => ?_)
  ·
    have h := ite_t c1 h
    refine lv_iload_n hx hb dX2_tryFrom_9 rfl (lv_at hl 1 rfl) ?_
    refine lv_aload_n hx hb dX2_tryFrom_10 rfl (lv_at hl 0 rfl) ?_
    refine x_getv (v := .int (g 10 5)) (Or.inl fl_X2_36) C hP (by decide) xs_10 rfl dX2_tryFrom_11 ?_
    have J89 : ∀ (g : Nat → Nat → Int32) (L : Nat → Nat → Int64) (H : Heap) (locs : List Loc) (ls : Array Slot), fX2_tryFrom_10_p89 fu (fX2_tryFrom_10 fu 0) g L = some (res, s9) → va_P G.1 vwCl (zw G (XS b) 105 a g L) H → va_D A (zw G (XS b) 105 a g L) → va_S A s.heap H locs → lv_has ls 3 [] → W p l e { frames := 11, cells := 0, slots := 0, locals := 227 } s m [.ref (a 10), .int p1, .int p2].toArray below meth c H locs 0 0 (MQ below ((kQv G (S := Unit) (fun _ => True) (fun _ => zw G (XS b) 105 a s9.1 s9.2)) A) [.ref (a 10), .int p1, .int p2].toArray s 0 0 A) (F0 m 89 ls []) := by
      intro g L H locs ls h hP hD hS hl
      unfold fX2_tryFrom_10_p89 at h
      exact y_vret C hr hlk hP hD hS h (Nat.le_of_ble_eq_true rfl) (Nat.le_of_ble_eq_true rfl) dX2_tryFrom_89
    have J23 : ∀ (v2 : Int32) (g : Nat → Nat → Int32) (L : Nat → Nat → Int64) (H : Heap) (locs : List Loc) (ls : Array Slot), fX2_tryFrom_10_p23 fu (fX2_tryFrom_10 fu 0) v2 g L = some (res, s9) → va_P G.1 vwCl (zw G (XS b) 105 a g L) H → va_D A (zw G (XS b) 105 a g L) → va_S A s.heap H locs → lv_has ls 3 [(0, .ref (a 10)), (2, .int v2)] → W p l e { frames := 11, cells := 0, slots := 0, locals := 227 } s m [.ref (a 10), .int p1, .int p2].toArray below meth c H locs 0 0 (MQ below ((kQv G (S := Unit) (fun _ => True) (fun _ => zw G (XS b) 105 a s9.1 s9.2)) A) [.ref (a 10), .int p1, .int p2].toArray s 0 0 A) (F0 m 23 ls []) := by
      intro v2 g L H locs ls h hP hD hS hl
      unfold fX2_tryFrom_10_p23 at h
      refine lv_aload_n hx hb dX2_tryFrom_23 rfl (lv_at hl 0 rfl) ?_
      refine lv_iload_n hx hb dX2_tryFrom_24 rfl (lv_at hl 1 rfl) ?_
      obtain ⟨z_, g3, L4, hf5, h⟩ := cb_some h
      refine x_callVv (rest := []) li_X2_82 C (rX2_takeIfOnTime_10 l G H.size b a fu g L v2 z_ (g3, L4) hf5) (kR rfl) hP hD hS 10 2 rfl (zat (by decide) xs_10) rfl hl.1 rfl (Nat.le_of_ble_eq_true rfl) dX2_tryFrom_25 (fun u_ H locs e_ hP hD hS => ?_)
      have hP : va_P G.1 vwCl (zw G (XS b) 105 a g3 L4) H := hP
      have hD : va_D A (zw G (XS b) 105 a g3 L4) := hD
      refine lv_goto (tgt := 89) hx hb dX2_tryFrom_28 (by decide) ?_
      exact J89 g3 L4 H locs ls h hP hD hS (lv_sub hl [] rfl)
    refine lv_icmp_gt (x := p1) (y := (g 10 5)) (tgt := 23) hx hb dX2_tryFrom_14 (by decide) (fun c6 => ?_) (fun c6 => ?_)
    ·
      have h := ite_t c6 h
      exact J23 p2 g L H locs ls h hP hD hS (lv_sub hl [0, 2] rfl)
    ·
      have h := ite_e c6 h
      refine lv_iload_n hx hb dX2_tryFrom_17 rfl (lv_at hl 1 rfl) ?_
      refine lv_bipush (v := 12) hx hb dX2_tryFrom_18 (by decide) ?_
      refine lv_icmp_lt (x := p1) (y := 12) (tgt := 31) hx hb dX2_tryFrom_20 (by decide) (fun c7 => ?_) (fun c7 => ?_)
      ·
        have h := ite_t c7 h
        refine lv_aload_n hx hb dX2_tryFrom_31 rfl (lv_at hl 0 rfl) ?_
        refine x_getv (v := .int (g 10 7)) (Or.inl fl_X2_64) C hP (by decide) xs_10 rfl dX2_tryFrom_32 ?_
        refine lv_iload_n hx hb dX2_tryFrom_35 rfl (lv_at hl 1 rfl) ?_
        obtain ⟨z_, g9, L10, hf11, h⟩ := cb_some h
        refine x_callSi (rest := []) li_X2_56 C (rX2_isIn l G H.size b a fu g L (g 10 7) p1 z_ (g9, L10) hf11) (kR rfl) hP hD hS rfl hl.1 rfl (Nat.le_of_ble_eq_true rfl) dX2_tryFrom_36 (fun x8 u_ H locs e_ hP hD hS => ?_)
        have e_ : x8 = z_ := e_
        subst e_
        have hP : va_P G.1 vwCl (zw G (XS b) 105 a g9 L10) H := hP
        have hD : va_D A (zw G (XS b) 105 a g9 L10) := hD
        refine lv_if_ne (x := x8) (tgt := 53) hx hb dX2_tryFrom_39 (by decide) (fun c12 => ?_) (fun c12 => ?_)
        ·
          have h := ite_e c12 h
          refine lv_aload_n hx hb dX2_tryFrom_53 rfl (lv_at hl 0 rfl) ?_
          refine x_getv (v := .int (g9 10 4)) (Or.inl fl_X2_29) C hP (by decide) xs_10 rfl dX2_tryFrom_54 ?_
          refine lv_iload_n hx hb dX2_tryFrom_57 rfl (lv_at hl 1 rfl) ?_
          obtain ⟨z_, g14, L15, hf16, h⟩ := cb_some h
          refine x_callSi (rest := []) li_X2_56 C (rX2_isIn l G H.size b a fu g9 L10 (g9 10 4) p1 z_ (g14, L15) hf16) (kR rfl) hP hD hS rfl hl.1 rfl (Nat.le_of_ble_eq_true rfl) dX2_tryFrom_58 (fun x13 u_ H locs e_ hP hD hS => ?_)
          have e_ : x13 = z_ := e_
          subst e_
          have hP : va_P G.1 vwCl (zw G (XS b) 105 a g14 L15) H := hP
          have hD : va_D A (zw G (XS b) 105 a g14 L15) := hD
          refine lv_if_ne (x := x13) (tgt := 83) hx hb dX2_tryFrom_61 (by decide) (fun c17 => ?_) (fun c17 => ?_)
          ·
            have h := ite_e c17 h
            refine lv_aload_n hx hb dX2_tryFrom_83 rfl (lv_at hl 0 rfl) ?_
            refine lv_iload_n hx hb dX2_tryFrom_84 rfl (lv_at hl 1 rfl) ?_
            refine lv_iload_n hx hb dX2_tryFrom_85 rfl (lv_at hl 2 rfl) ?_
            obtain ⟨z_, g19, L20, hf21, h⟩ := cb_some h
            refine x_callVv (rest := []) li_X2_89 C (rX2_tryGapsOf_10_L1 l G H.size b a fu g14 L15 p1 p2 z_ (g19, L20) hf21) (kR rfl) hP hD hS 10 2 rfl (zat (by decide) xs_10) rfl hl.1 rfl (Nat.le_of_ble_eq_true rfl) dX2_tryFrom_86 (fun u_ H locs e_ hP hD hS => ?_)
            have hP : va_P G.1 vwCl (zw G (XS b) 105 a g19 L20) H := hP
            have hD : va_D A (zw G (XS b) 105 a g19 L20) := hD
            exact J89 g19 L20 H locs ls h hP hD hS (lv_sub hl [] rfl)
          ·
            have h := ite_t c17 h
            refine lv_aload_n hx hb dX2_tryFrom_64 rfl (lv_at hl 0 rfl) ?_
            refine x_getr (Or.inl fl_X2_18) C hP (by decide) xs_10 rfl dX2_tryFrom_65 ?_
            refine lv_iload_n hx hb dX2_tryFrom_68 rfl (lv_at hl 1 rfl) ?_
            obtain ⟨z_, g23, L24, hf25, h⟩ := cb_some h
            refine x_callNv (rest := []) li_X2_86 C (rX1_runOne_8 l G H.size b a fu g14 L15 p1 z_ (g23, L24) hf25) (kR rfl) hP hD hS 8 1 rfl (zat (by decide) xs_8) rfl hl.1 rfl (Nat.le_of_ble_eq_true rfl) dX2_tryFrom_69 (fun u_ H locs e_ hP hD hS => ?_)
            have hP : va_P G.1 vwCl (zw G (XS b) 105 a g23 L24) H := hP
            have hD : va_D A (zw G (XS b) 105 a g23 L24) := hD
            refine lv_aload_n hx hb dX2_tryFrom_72 rfl (lv_at hl 0 rfl) ?_
            refine lv_iload_n hx hb dX2_tryFrom_73 rfl (lv_at hl 1 rfl) ?_
            refine lv_iconst (v := 1) hx hb dX2_tryFrom_74 (by decide) ?_
            refine lv_iadd hx hb dX2_tryFrom_75 ?_
            refine lv_iload_n hx hb dX2_tryFrom_76 rfl (lv_at hl 2 rfl) ?_
            obtain ⟨z_, g27, L28, hf29, h⟩ := cb_some h
            refine x_callVv (rest := []) li_X2_60 C (rX2_tryFrom_10_L0 l G H.size b a fu g23 L24 (p1 + 1) p2 z_ (g27, L28) hf29) (kR rfl) hP hD hS 10 2 rfl (zat (by decide) xs_10) rfl hl.1 rfl (Nat.le_of_ble_eq_true rfl) dX2_tryFrom_77 (fun u_ H locs e_ hP hD hS => ?_)
            have hP : va_P G.1 vwCl (zw G (XS b) 105 a g27 L28) H := hP
            have hD : va_D A (zw G (XS b) 105 a g27 L28) := hD
            refine lv_goto (tgt := 89) hx hb dX2_tryFrom_80 (by decide) ?_
            exact J89 g27 L28 H locs ls h hP hD hS (lv_sub hl [] rfl)
        ·
          have h := ite_t c12 h
          refine lv_aload_n hx hb dX2_tryFrom_42 rfl (lv_at hl 0 rfl) ?_
          refine lv_iload_n hx hb dX2_tryFrom_43 rfl (lv_at hl 1 rfl) ?_
          refine lv_iconst (v := 1) hx hb dX2_tryFrom_44 (by decide) ?_
          refine lv_iadd hx hb dX2_tryFrom_45 ?_
          refine lv_iload_n hx hb dX2_tryFrom_46 rfl (lv_at hl 2 rfl) ?_
          obtain ⟨z_, g31, L32, hf33, h⟩ := cb_some h
          refine x_callVv (rest := []) li_X2_60 C (rX2_tryFrom_10_L0 l G H.size b a fu g9 L10 (p1 + 1) p2 z_ (g31, L32) hf33) (kR rfl) hP hD hS 10 2 rfl (zat (by decide) xs_10) rfl hl.1 rfl (Nat.le_of_ble_eq_true rfl) dX2_tryFrom_47 (fun u_ H locs e_ hP hD hS => ?_)
          have hP : va_P G.1 vwCl (zw G (XS b) 105 a g31 L32) H := hP
          have hD : va_D A (zw G (XS b) 105 a g31 L32) := hD
          refine lv_goto (tgt := 89) hx hb dX2_tryFrom_50 (by decide) ?_
          exact J89 g31 L32 H locs ls h hP hD hS (lv_sub hl [] rfl)
      ·
        have h := ite_e c7 h
        exact J23 p2 g L H locs ls h hP hD hS (lv_sub hl [0, 2] rfl)
  ·
    have h := ite_e c1 h
    exact y_vret C hr hlk hP hD hS h (Nat.le_of_ble_eq_true rfl) (Nat.le_of_ble_eq_true rfl) dX2_tryFrom_8
set_option maxHeartbeats 4000000 in
set_option maxRecDepth 100000 in
theorem rX2_tryGapsOf_10_L2 (l : Launch) (G : kG) (sz : Nat) (b : Nat) (a : Nat → Nat) (fu : Nat) (g : Nat → Nat → Int32) (L : Nat → Nat → Int64) (p1 : Int32) (p2 : Int32) (res : Unit) (s9 : zS) (h : fX2_tryGapsOf_10 fu (fX2_tryFrom_10 fu 1) p1 p2 g L = some (res, s9)) : kM l yX2_tryGapsOf cX2_tryGapsOf 5 none { frames := 12, cells := 0, slots := 0, locals := 249 } G [.ref (a 10), .int p1, .int p2] (zw G (XS b) 105 a g L) sz (kQv G (S := Unit) (fun _ => True) (fun _ => zw G (XS b) 105 a s9.1 s9.2)) := by
  refine kM.of (by decide) (Nat.le_of_ble_eq_true rfl) ?_
  intro p e s m below meth c A ls H C hr hlk hnm hP hD hS hl
  have C : kC G p s m c cX2_tryGapsOf 5 RX2 A := C
  have hx := C.1
  have hb := C.2.1
  have hl : lv_has ls 5 [(0, .ref (a 10)), (1, .int p1), (2, .int p2)] := hl
  obtain ⟨locs, hlocs⟩ : ∃ q : List Loc, q = [] := ⟨_, rfl⟩
  rw [← hlocs] at hS
  rw [← hlocs]
  unfold fX2_tryGapsOf_10 at h
  refine lv_iconst (v := -1) hx hb dX2_tryGapsOf_0 (by decide) ?_
  refine lv_istore_n (lv' := [(3, .int (-1)), (0, .ref (a 10)), (1, .int p1), (2, .int p2)]) hx hb dX2_tryGapsOf_1 rfl hl (by decide) rfl (fun ls hl => ?_)
  refine lv_iconst (v := 0) hx hb dX2_tryGapsOf_2 (by decide) ?_
  refine lv_istore (lv' := [(4, .int 0), (3, .int (-1)), (0, .ref (a 10)), (1, .int p1), (2, .int p2)]) hx hb dX2_tryGapsOf_3 hl (by decide) rfl (fun ls hl => ?_)
  have lp5 : ∀ (v1 : Int32) (v2 : Int32), ∀ (n : Nat) (v : Int32 × Int32 × (Nat → Nat → Int32) × (Nat → Nat → Int64)), whileK (fun k v => fX2_tryGapsOf_10_s5 fu (fX2_tryFrom_10 fu 1) v1 v2 k v.1 v.2.1 v.2.2.1 v.2.2.2) n v = some (res, s9) → ∀ (H : Heap) (locs : List Loc) (ls : Array Slot), va_P G.1 vwCl (zw G (XS b) 105 a (v.2.2.1) (v.2.2.2)) H → va_D A (zw G (XS b) 105 a (v.2.2.1) (v.2.2.2)) → va_S A s.heap H locs → lv_has ls 5 [(0, .ref (a 10)), (1, .int v1), (2, .int v2), (3, .int (v.1)), (4, .int (v.2.1))] → W p l e { frames := 12, cells := 0, slots := 0, locals := 249 } s m [.ref (a 10), .int p1, .int p2].toArray below meth c H locs 0 0 (MQ below ((kQv G (S := Unit) (fun _ => True) (fun _ => zw G (XS b) 105 a s9.1 s9.2)) A) [.ref (a 10), .int p1, .int p2].toArray s 0 0 A) (F0 m 5 ls []) := by
    intro v1 v2
    refine while_ind (fun k5 ih5 v h => ?_)
    obtain ⟨v3, v4, g, L⟩ := v
    intro H locs ls hP hD hS hl
    have h : fX2_tryGapsOf_10_s5 fu (fX2_tryFrom_10 fu 1) v1 v2 k5 v3 v4 g L = some (res, s9) := h
    have hP : va_P G.1 vwCl (zw G (XS b) 105 a g L) H := hP
    have hD : va_D A (zw G (XS b) 105 a g L) := hD
    have hl : lv_has ls 5 [(0, .ref (a 10)), (1, .int v1), (2, .int v2), (3, .int v3), (4, .int v4)] := hl
    show W p l e { frames := 12, cells := 0, slots := 0, locals := 249 } s m [.ref (a 10), .int p1, .int p2].toArray below meth c H locs 0 0 (MQ below ((kQv G (S := Unit) (fun _ => True) (fun _ => zw G (XS b) 105 a s9.1 s9.2)) A) [.ref (a 10), .int p1, .int p2].toArray s 0 0 A) (F0 m 5 ls [])
    unfold fX2_tryGapsOf_10_s5 at h
    refine lv_iload hx hb dX2_tryGapsOf_5 (lv_at hl 4 rfl) ?_
    refine lv_iconst (v := 4) hx hb dX2_tryGapsOf_7 (by decide) ?_
    refine lv_icmp_gt (x := v4) (y := 4) (tgt := 70) hx hb dX2_tryGapsOf_8 (by decide) (fun c1 => ?_) (fun c1 => ?_)
    ·
      have h := ite_t c1 h
      exact y_vret C hr hlk hP hD hS h (Nat.le_of_ble_eq_true rfl) (Nat.le_of_ble_eq_true rfl) dX2_tryGapsOf_70
    ·
      have h := ite_e c1 h
      refine lv_aload_n hx hb dX2_tryGapsOf_11 rfl (lv_at hl 0 rfl) ?_
      refine x_getr (Or.inl fl_X2_28) C hP (by decide) xs_10 rfl dX2_tryGapsOf_12 ?_
      refine x_getr (Or.inr fl_X2_45) C hP (by decide) xs_6 rfl dX2_tryGapsOf_15 ?_
      refine lv_iload_n hx hb dX2_tryGapsOf_18 rfl (lv_at hl 1 rfl) ?_
      refine lv_iload hx hb dX2_tryGapsOf_19 (lv_at hl 4 rfl) ?_
      refine y_ast C hP hD hS (by decide) xs_26 dX2_tryGapsOf_21 h (fun g2 H locs h hP hD hS => ?_)
      refine lv_aload_n hx hb dX2_tryGapsOf_22 rfl (lv_at hl 0 rfl) ?_
      refine x_getr (Or.inl fl_X2_18) C hP (by decide) xs_10 rfl dX2_tryGapsOf_23 ?_
      refine lv_iload_n hx hb dX2_tryGapsOf_26 rfl (lv_at hl 1 rfl) ?_
      obtain ⟨z_, g4, L5, hf6, h⟩ := cb_some h
      refine x_callNv (rest := []) li_X2_86 C (rX1_runOne_8 l G H.size b a fu g2 L v1 z_ (g4, L5) hf6) (kR rfl) hP hD hS 8 1 rfl (zat (by decide) xs_8) rfl hl.1 rfl (Nat.le_of_ble_eq_true rfl) dX2_tryGapsOf_27 (fun u_ H locs e_ hP hD hS => ?_)
      have hP : va_P G.1 vwCl (zw G (XS b) 105 a g4 L5) H := hP
      have hD : va_D A (zw G (XS b) 105 a g4 L5) := hD
      refine lv_aload_n hx hb dX2_tryGapsOf_30 rfl (lv_at hl 0 rfl) ?_
      refine x_getr (Or.inl fl_X2_18) C hP (by decide) xs_10 rfl dX2_tryGapsOf_31 ?_
      refine x_getr (Or.inr fl_X2_92) C hP (by decide) xs_8 rfl dX2_tryGapsOf_34 ?_
      refine lv_iload_n hx hb dX2_tryGapsOf_37 rfl (lv_at hl 1 rfl) ?_
      refine y_ald C hP (by decide) xs_44 dX2_tryGapsOf_38 h (fun h => ?_)
      refine lv_iload_n hx hb dX2_tryGapsOf_39 rfl (lv_at hl 3 rfl) ?_
      have J64 : ∀ (v3 : Int32) (v4 : Int32) (g : Nat → Nat → Int32) (L : Nat → Nat → Int64) (H : Heap) (locs : List Loc) (ls : Array Slot), fX2_tryGapsOf_10_p64 fu (fX2_tryFrom_10 fu 1) k5 v1 v2 v3 v4 g L = some (res, s9) → va_P G.1 vwCl (zw G (XS b) 105 a g L) H → va_D A (zw G (XS b) 105 a g L) → va_S A s.heap H locs → lv_has ls 5 [(0, .ref (a 10)), (1, .int v1), (2, .int v2), (3, .int v3), (4, .int v4)] → W p l e { frames := 12, cells := 0, slots := 0, locals := 249 } s m [.ref (a 10), .int p1, .int p2].toArray below meth c H locs 0 0 (MQ below ((kQv G (S := Unit) (fun _ => True) (fun _ => zw G (XS b) 105 a s9.1 s9.2)) A) [.ref (a 10), .int p1, .int p2].toArray s 0 0 A) (F0 m 64 ls []) := by
        intro v3 v4 g L H locs ls h hP hD hS hl
        unfold fX2_tryGapsOf_10_p64 at h
        refine lv_iinc (v := (v4 + 1)) (lv' := [(4, .int (v4 + 1)), (0, .ref (a 10)), (1, .int v1), (2, .int v2), (3, .int v3)]) hx hb dX2_tryGapsOf_64 hl (k := 4) rfl rfl (by decide) rfl (fun ls hl => ?_)
        refine lv_goto (tgt := 5) hx hb dX2_tryGapsOf_67 (by decide) ?_
        exact ih5 (v3, (v4 + 1), g, L) h H locs ls hP hD hS (lv_sub hl [1, 2, 3, 4, 0] rfl)
      refine lv_icmp_eq (x := (g4 44 (Int32.toNatClampNeg v1))) (y := v3) (tgt := 64) hx hb dX2_tryGapsOf_40 (by decide) (fun c7 => ?_) (fun c7 => ?_)
      ·
        have h := ite_t c7 h
        exact J64 v3 v4 g4 L5 H locs ls h hP hD hS (lv_sub hl [0, 1, 2, 3, 4] rfl)
      ·
        have h := ite_e c7 h
        refine lv_aload_n hx hb dX2_tryGapsOf_43 rfl (lv_at hl 0 rfl) ?_
        refine x_getr (Or.inl fl_X2_18) C hP (by decide) xs_10 rfl dX2_tryGapsOf_44 ?_
        refine x_getr (Or.inr fl_X2_92) C hP (by decide) xs_8 rfl dX2_tryGapsOf_47 ?_
        refine lv_iload_n hx hb dX2_tryGapsOf_50 rfl (lv_at hl 1 rfl) ?_
        refine y_ald C hP (by decide) xs_44 dX2_tryGapsOf_51 h (fun h => ?_)
        refine y_let h (fun x8 h => ?_)
        refine lv_istore_n (lv' := [(3, .int x8), (0, .ref (a 10)), (1, .int v1), (2, .int v2), (4, .int v4)]) hx hb dX2_tryGapsOf_52 rfl hl (by decide) rfl (fun ls hl => ?_)
        refine lv_aload_n hx hb dX2_tryGapsOf_53 rfl (lv_at hl 1 rfl) ?_
        refine lv_iload_n hx hb dX2_tryGapsOf_54 rfl (lv_at hl 2 rfl) ?_
        refine lv_iconst (v := 1) hx hb dX2_tryGapsOf_55 (by decide) ?_
        refine lv_iadd hx hb dX2_tryGapsOf_56 ?_
        refine lv_iload_n hx hb dX2_tryGapsOf_57 rfl (lv_at hl 3 rfl) ?_
        refine lv_iload hx hb dX2_tryGapsOf_58 (lv_at hl 4 rfl) ?_
        refine lv_iadd hx hb dX2_tryGapsOf_60 ?_
        obtain ⟨z_, g10, L11, hf12, h⟩ := cb_some h
        refine x_callVv (rest := []) li_X2_60 C (rX2_tryFrom_10_L1 l G H.size b a fu g4 L5 (v1 + 1) (v2 + v4) z_ (g10, L11) hf12) (kR rfl) hP hD hS 10 2 rfl (zat (by decide) xs_10) rfl hl.1 rfl (Nat.le_of_ble_eq_true rfl) dX2_tryGapsOf_61 (fun u_ H locs e_ hP hD hS => ?_)
        have hP : va_P G.1 vwCl (zw G (XS b) 105 a g10 L11) H := hP
        have hD : va_D A (zw G (XS b) 105 a g10 L11) := hD
        exact J64 x8 v4 g10 L11 H locs ls h hP hD hS (lv_sub hl [1, 2, 3, 0, 4] rfl)
  exact lp5 p1 p2 fu ((-1), 0, g, L) h H locs ls hP hD hS (lv_sub hl [2, 3, 4, 1, 0] rfl)
set_option maxHeartbeats 4000000 in
set_option maxRecDepth 100000 in
theorem rX2_tryFrom_10_L2 (l : Launch) (G : kG) (sz : Nat) (b : Nat) (a : Nat → Nat) (fu : Nat) (g : Nat → Nat → Int32) (L : Nat → Nat → Int64) (p1 : Int32) (p2 : Int32) (res : Unit) (s9 : zS) (h : fX2_tryFrom_10 fu 2 p1 p2 g L = some (res, s9)) : kM l yX2_tryFrom cX2_tryFrom 3 none { frames := 13, cells := 0, slots := 0, locals := 273 } G [.ref (a 10), .int p1, .int p2] (zw G (XS b) 105 a g L) sz (kQv G (S := Unit) (fun _ => True) (fun _ => zw G (XS b) 105 a s9.1 s9.2)) := by
  refine kM.of (by decide) (Nat.le_of_ble_eq_true rfl) ?_
  intro p e s m below meth c A ls H C hr hlk hnm hP hD hS hl
  have C : kC G p s m c cX2_tryFrom 3 RX2 A := C
  have hx := C.1
  have hb := C.2.1
  have hl : lv_has ls 3 [(0, .ref (a 10)), (1, .int p1), (2, .int p2)] := hl
  obtain ⟨locs, hlocs⟩ : ∃ q : List Loc, q = [] := ⟨_, rfl⟩
  rw [← hlocs] at hS
  rw [← hlocs]
  rw [fX2_tryFrom_10_succ] at h
  unfold fX2_tryFrom_10B at h
  refine lv_iload_n hx hb dX2_tryFrom_0 rfl (lv_at hl 2 rfl) ?_
  refine lv_aload_n hx hb dX2_tryFrom_1 rfl (lv_at hl 0 rfl) ?_
  refine x_getv (v := .int (g 10 8)) (Or.inl fl_X2_39) C hP (by decide) xs_10 rfl dX2_tryFrom_2 ?_
  refine lv_icmp_lt (x := p2) (y := (g 10 8)) (tgt := 9) hx hb dX2_tryFrom_5 (by decide) (fun c1 => ?_) (fun c1 => ?_)
  ·
    have h := ite_t c1 h
    refine lv_iload_n hx hb dX2_tryFrom_9 rfl (lv_at hl 1 rfl) ?_
    refine lv_aload_n hx hb dX2_tryFrom_10 rfl (lv_at hl 0 rfl) ?_
    refine x_getv (v := .int (g 10 5)) (Or.inl fl_X2_36) C hP (by decide) xs_10 rfl dX2_tryFrom_11 ?_
    have J89 : ∀ (g : Nat → Nat → Int32) (L : Nat → Nat → Int64) (H : Heap) (locs : List Loc) (ls : Array Slot), fX2_tryFrom_10_p89 fu (fX2_tryFrom_10 fu 1) g L = some (res, s9) → va_P G.1 vwCl (zw G (XS b) 105 a g L) H → va_D A (zw G (XS b) 105 a g L) → va_S A s.heap H locs → lv_has ls 3 [] → W p l e { frames := 13, cells := 0, slots := 0, locals := 273 } s m [.ref (a 10), .int p1, .int p2].toArray below meth c H locs 0 0 (MQ below ((kQv G (S := Unit) (fun _ => True) (fun _ => zw G (XS b) 105 a s9.1 s9.2)) A) [.ref (a 10), .int p1, .int p2].toArray s 0 0 A) (F0 m 89 ls []) := by
      intro g L H locs ls h hP hD hS hl
      unfold fX2_tryFrom_10_p89 at h
      exact y_vret C hr hlk hP hD hS h (Nat.le_of_ble_eq_true rfl) (Nat.le_of_ble_eq_true rfl) dX2_tryFrom_89
    have J23 : ∀ (v2 : Int32) (g : Nat → Nat → Int32) (L : Nat → Nat → Int64) (H : Heap) (locs : List Loc) (ls : Array Slot), fX2_tryFrom_10_p23 fu (fX2_tryFrom_10 fu 1) v2 g L = some (res, s9) → va_P G.1 vwCl (zw G (XS b) 105 a g L) H → va_D A (zw G (XS b) 105 a g L) → va_S A s.heap H locs → lv_has ls 3 [(0, .ref (a 10)), (2, .int v2)] → W p l e { frames := 13, cells := 0, slots := 0, locals := 273 } s m [.ref (a 10), .int p1, .int p2].toArray below meth c H locs 0 0 (MQ below ((kQv G (S := Unit) (fun _ => True) (fun _ => zw G (XS b) 105 a s9.1 s9.2)) A) [.ref (a 10), .int p1, .int p2].toArray s 0 0 A) (F0 m 23 ls []) := by
      intro v2 g L H locs ls h hP hD hS hl
      unfold fX2_tryFrom_10_p23 at h
      refine lv_aload_n hx hb dX2_tryFrom_23 rfl (lv_at hl 0 rfl) ?_
      refine lv_iload_n hx hb dX2_tryFrom_24 rfl (lv_at hl 1 rfl) ?_
      obtain ⟨z_, g3, L4, hf5, h⟩ := cb_some h
      refine x_callVv (rest := []) li_X2_82 C (rX2_takeIfOnTime_10 l G H.size b a fu g L v2 z_ (g3, L4) hf5) (kR rfl) hP hD hS 10 2 rfl (zat (by decide) xs_10) rfl hl.1 rfl (Nat.le_of_ble_eq_true rfl) dX2_tryFrom_25 (fun u_ H locs e_ hP hD hS => ?_)
      have hP : va_P G.1 vwCl (zw G (XS b) 105 a g3 L4) H := hP
      have hD : va_D A (zw G (XS b) 105 a g3 L4) := hD
      refine lv_goto (tgt := 89) hx hb dX2_tryFrom_28 (by decide) ?_
      exact J89 g3 L4 H locs ls h hP hD hS (lv_sub hl [] rfl)
    refine lv_icmp_gt (x := p1) (y := (g 10 5)) (tgt := 23) hx hb dX2_tryFrom_14 (by decide) (fun c6 => ?_) (fun c6 => ?_)
    ·
      have h := ite_t c6 h
      exact J23 p2 g L H locs ls h hP hD hS (lv_sub hl [0, 2] rfl)
    ·
      have h := ite_e c6 h
      refine lv_iload_n hx hb dX2_tryFrom_17 rfl (lv_at hl 1 rfl) ?_
      refine lv_bipush (v := 12) hx hb dX2_tryFrom_18 (by decide) ?_
      refine lv_icmp_lt (x := p1) (y := 12) (tgt := 31) hx hb dX2_tryFrom_20 (by decide) (fun c7 => ?_) (fun c7 => ?_)
      ·
        have h := ite_t c7 h
        refine lv_aload_n hx hb dX2_tryFrom_31 rfl (lv_at hl 0 rfl) ?_
        refine x_getv (v := .int (g 10 7)) (Or.inl fl_X2_64) C hP (by decide) xs_10 rfl dX2_tryFrom_32 ?_
        refine lv_iload_n hx hb dX2_tryFrom_35 rfl (lv_at hl 1 rfl) ?_
        obtain ⟨z_, g9, L10, hf11, h⟩ := cb_some h
        refine x_callSi (rest := []) li_X2_56 C (rX2_isIn l G H.size b a fu g L (g 10 7) p1 z_ (g9, L10) hf11) (kR rfl) hP hD hS rfl hl.1 rfl (Nat.le_of_ble_eq_true rfl) dX2_tryFrom_36 (fun x8 u_ H locs e_ hP hD hS => ?_)
        have e_ : x8 = z_ := e_
        subst e_
        have hP : va_P G.1 vwCl (zw G (XS b) 105 a g9 L10) H := hP
        have hD : va_D A (zw G (XS b) 105 a g9 L10) := hD
        refine lv_if_ne (x := x8) (tgt := 53) hx hb dX2_tryFrom_39 (by decide) (fun c12 => ?_) (fun c12 => ?_)
        ·
          have h := ite_e c12 h
          refine lv_aload_n hx hb dX2_tryFrom_53 rfl (lv_at hl 0 rfl) ?_
          refine x_getv (v := .int (g9 10 4)) (Or.inl fl_X2_29) C hP (by decide) xs_10 rfl dX2_tryFrom_54 ?_
          refine lv_iload_n hx hb dX2_tryFrom_57 rfl (lv_at hl 1 rfl) ?_
          obtain ⟨z_, g14, L15, hf16, h⟩ := cb_some h
          refine x_callSi (rest := []) li_X2_56 C (rX2_isIn l G H.size b a fu g9 L10 (g9 10 4) p1 z_ (g14, L15) hf16) (kR rfl) hP hD hS rfl hl.1 rfl (Nat.le_of_ble_eq_true rfl) dX2_tryFrom_58 (fun x13 u_ H locs e_ hP hD hS => ?_)
          have e_ : x13 = z_ := e_
          subst e_
          have hP : va_P G.1 vwCl (zw G (XS b) 105 a g14 L15) H := hP
          have hD : va_D A (zw G (XS b) 105 a g14 L15) := hD
          refine lv_if_ne (x := x13) (tgt := 83) hx hb dX2_tryFrom_61 (by decide) (fun c17 => ?_) (fun c17 => ?_)
          ·
            have h := ite_e c17 h
            refine lv_aload_n hx hb dX2_tryFrom_83 rfl (lv_at hl 0 rfl) ?_
            refine lv_iload_n hx hb dX2_tryFrom_84 rfl (lv_at hl 1 rfl) ?_
            refine lv_iload_n hx hb dX2_tryFrom_85 rfl (lv_at hl 2 rfl) ?_
            obtain ⟨z_, g19, L20, hf21, h⟩ := cb_some h
            refine x_callVv (rest := []) li_X2_89 C (rX2_tryGapsOf_10_L2 l G H.size b a fu g14 L15 p1 p2 z_ (g19, L20) hf21) (kR rfl) hP hD hS 10 2 rfl (zat (by decide) xs_10) rfl hl.1 rfl (Nat.le_of_ble_eq_true rfl) dX2_tryFrom_86 (fun u_ H locs e_ hP hD hS => ?_)
            have hP : va_P G.1 vwCl (zw G (XS b) 105 a g19 L20) H := hP
            have hD : va_D A (zw G (XS b) 105 a g19 L20) := hD
            exact J89 g19 L20 H locs ls h hP hD hS (lv_sub hl [] rfl)
          ·
            have h := ite_t c17 h
            refine lv_aload_n hx hb dX2_tryFrom_64 rfl (lv_at hl 0 rfl) ?_
            refine x_getr (Or.inl fl_X2_18) C hP (by decide) xs_10 rfl dX2_tryFrom_65 ?_
            refine lv_iload_n hx hb dX2_tryFrom_68 rfl (lv_at hl 1 rfl) ?_
            obtain ⟨z_, g23, L24, hf25, h⟩ := cb_some h
            refine x_callNv (rest := []) li_X2_86 C (rX1_runOne_8 l G H.size b a fu g14 L15 p1 z_ (g23, L24) hf25) (kR rfl) hP hD hS 8 1 rfl (zat (by decide) xs_8) rfl hl.1 rfl (Nat.le_of_ble_eq_true rfl) dX2_tryFrom_69 (fun u_ H locs e_ hP hD hS => ?_)
            have hP : va_P G.1 vwCl (zw G (XS b) 105 a g23 L24) H := hP
            have hD : va_D A (zw G (XS b) 105 a g23 L24) := hD
            refine lv_aload_n hx hb dX2_tryFrom_72 rfl (lv_at hl 0 rfl) ?_
            refine lv_iload_n hx hb dX2_tryFrom_73 rfl (lv_at hl 1 rfl) ?_
            refine lv_iconst (v := 1) hx hb dX2_tryFrom_74 (by decide) ?_
            refine lv_iadd hx hb dX2_tryFrom_75 ?_
            refine lv_iload_n hx hb dX2_tryFrom_76 rfl (lv_at hl 2 rfl) ?_
            obtain ⟨z_, g27, L28, hf29, h⟩ := cb_some h
            refine x_callVv (rest := []) li_X2_60 C (rX2_tryFrom_10_L1 l G H.size b a fu g23 L24 (p1 + 1) p2 z_ (g27, L28) hf29) (kR rfl) hP hD hS 10 2 rfl (zat (by decide) xs_10) rfl hl.1 rfl (Nat.le_of_ble_eq_true rfl) dX2_tryFrom_77 (fun u_ H locs e_ hP hD hS => ?_)
            have hP : va_P G.1 vwCl (zw G (XS b) 105 a g27 L28) H := hP
            have hD : va_D A (zw G (XS b) 105 a g27 L28) := hD
            refine lv_goto (tgt := 89) hx hb dX2_tryFrom_80 (by decide) ?_
            exact J89 g27 L28 H locs ls h hP hD hS (lv_sub hl [] rfl)
        ·
          have h := ite_t c12 h
          refine lv_aload_n hx hb dX2_tryFrom_42 rfl (lv_at hl 0 rfl) ?_
          refine lv_iload_n hx hb dX2_tryFrom_43 rfl (lv_at hl 1 rfl) ?_
          refine lv_iconst (v := 1) hx hb dX2_tryFrom_44 (by decide) ?_
          refine lv_iadd hx hb dX2_tryFrom_45 ?_
          refine lv_iload_n hx hb dX2_tryFrom_46 rfl (lv_at hl 2 rfl) ?_
          obtain ⟨z_, g31, L32, hf33, h⟩ := cb_some h
          refine x_callVv (rest := []) li_X2_60 C (rX2_tryFrom_10_L1 l G H.size b a fu g9 L10 (p1 + 1) p2 z_ (g31, L32) hf33) (kR rfl) hP hD hS 10 2 rfl (zat (by decide) xs_10) rfl hl.1 rfl (Nat.le_of_ble_eq_true rfl) dX2_tryFrom_47 (fun u_ H locs e_ hP hD hS => ?_)
          have hP : va_P G.1 vwCl (zw G (XS b) 105 a g31 L32) H := hP
          have hD : va_D A (zw G (XS b) 105 a g31 L32) := hD
          refine lv_goto (tgt := 89) hx hb dX2_tryFrom_50 (by decide) ?_
          exact J89 g31 L32 H locs ls h hP hD hS (lv_sub hl [] rfl)
      ·
        have h := ite_e c7 h
        exact J23 p2 g L H locs ls h hP hD hS (lv_sub hl [0, 2] rfl)
  ·
    have h := ite_e c1 h
    exact y_vret C hr hlk hP hD hS h (Nat.le_of_ble_eq_true rfl) (Nat.le_of_ble_eq_true rfl) dX2_tryFrom_8
set_option maxHeartbeats 4000000 in
set_option maxRecDepth 100000 in
theorem rX2_tryGapsOf_10_L3 (l : Launch) (G : kG) (sz : Nat) (b : Nat) (a : Nat → Nat) (fu : Nat) (g : Nat → Nat → Int32) (L : Nat → Nat → Int64) (p1 : Int32) (p2 : Int32) (res : Unit) (s9 : zS) (h : fX2_tryGapsOf_10 fu (fX2_tryFrom_10 fu 2) p1 p2 g L = some (res, s9)) : kM l yX2_tryGapsOf cX2_tryGapsOf 5 none { frames := 14, cells := 0, slots := 0, locals := 295 } G [.ref (a 10), .int p1, .int p2] (zw G (XS b) 105 a g L) sz (kQv G (S := Unit) (fun _ => True) (fun _ => zw G (XS b) 105 a s9.1 s9.2)) := by
  refine kM.of (by decide) (Nat.le_of_ble_eq_true rfl) ?_
  intro p e s m below meth c A ls H C hr hlk hnm hP hD hS hl
  have C : kC G p s m c cX2_tryGapsOf 5 RX2 A := C
  have hx := C.1
  have hb := C.2.1
  have hl : lv_has ls 5 [(0, .ref (a 10)), (1, .int p1), (2, .int p2)] := hl
  obtain ⟨locs, hlocs⟩ : ∃ q : List Loc, q = [] := ⟨_, rfl⟩
  rw [← hlocs] at hS
  rw [← hlocs]
  unfold fX2_tryGapsOf_10 at h
  refine lv_iconst (v := -1) hx hb dX2_tryGapsOf_0 (by decide) ?_
  refine lv_istore_n (lv' := [(3, .int (-1)), (0, .ref (a 10)), (1, .int p1), (2, .int p2)]) hx hb dX2_tryGapsOf_1 rfl hl (by decide) rfl (fun ls hl => ?_)
  refine lv_iconst (v := 0) hx hb dX2_tryGapsOf_2 (by decide) ?_
  refine lv_istore (lv' := [(4, .int 0), (3, .int (-1)), (0, .ref (a 10)), (1, .int p1), (2, .int p2)]) hx hb dX2_tryGapsOf_3 hl (by decide) rfl (fun ls hl => ?_)
  have lp5 : ∀ (v1 : Int32) (v2 : Int32), ∀ (n : Nat) (v : Int32 × Int32 × (Nat → Nat → Int32) × (Nat → Nat → Int64)), whileK (fun k v => fX2_tryGapsOf_10_s5 fu (fX2_tryFrom_10 fu 2) v1 v2 k v.1 v.2.1 v.2.2.1 v.2.2.2) n v = some (res, s9) → ∀ (H : Heap) (locs : List Loc) (ls : Array Slot), va_P G.1 vwCl (zw G (XS b) 105 a (v.2.2.1) (v.2.2.2)) H → va_D A (zw G (XS b) 105 a (v.2.2.1) (v.2.2.2)) → va_S A s.heap H locs → lv_has ls 5 [(0, .ref (a 10)), (1, .int v1), (2, .int v2), (3, .int (v.1)), (4, .int (v.2.1))] → W p l e { frames := 14, cells := 0, slots := 0, locals := 295 } s m [.ref (a 10), .int p1, .int p2].toArray below meth c H locs 0 0 (MQ below ((kQv G (S := Unit) (fun _ => True) (fun _ => zw G (XS b) 105 a s9.1 s9.2)) A) [.ref (a 10), .int p1, .int p2].toArray s 0 0 A) (F0 m 5 ls []) := by
    intro v1 v2
    refine while_ind (fun k5 ih5 v h => ?_)
    obtain ⟨v3, v4, g, L⟩ := v
    intro H locs ls hP hD hS hl
    have h : fX2_tryGapsOf_10_s5 fu (fX2_tryFrom_10 fu 2) v1 v2 k5 v3 v4 g L = some (res, s9) := h
    have hP : va_P G.1 vwCl (zw G (XS b) 105 a g L) H := hP
    have hD : va_D A (zw G (XS b) 105 a g L) := hD
    have hl : lv_has ls 5 [(0, .ref (a 10)), (1, .int v1), (2, .int v2), (3, .int v3), (4, .int v4)] := hl
    show W p l e { frames := 14, cells := 0, slots := 0, locals := 295 } s m [.ref (a 10), .int p1, .int p2].toArray below meth c H locs 0 0 (MQ below ((kQv G (S := Unit) (fun _ => True) (fun _ => zw G (XS b) 105 a s9.1 s9.2)) A) [.ref (a 10), .int p1, .int p2].toArray s 0 0 A) (F0 m 5 ls [])
    unfold fX2_tryGapsOf_10_s5 at h
    refine lv_iload hx hb dX2_tryGapsOf_5 (lv_at hl 4 rfl) ?_
    refine lv_iconst (v := 4) hx hb dX2_tryGapsOf_7 (by decide) ?_
    refine lv_icmp_gt (x := v4) (y := 4) (tgt := 70) hx hb dX2_tryGapsOf_8 (by decide) (fun c1 => ?_) (fun c1 => ?_)
    ·
      have h := ite_t c1 h
      exact y_vret C hr hlk hP hD hS h (Nat.le_of_ble_eq_true rfl) (Nat.le_of_ble_eq_true rfl) dX2_tryGapsOf_70
    ·
      have h := ite_e c1 h
      refine lv_aload_n hx hb dX2_tryGapsOf_11 rfl (lv_at hl 0 rfl) ?_
      refine x_getr (Or.inl fl_X2_28) C hP (by decide) xs_10 rfl dX2_tryGapsOf_12 ?_
      refine x_getr (Or.inr fl_X2_45) C hP (by decide) xs_6 rfl dX2_tryGapsOf_15 ?_
      refine lv_iload_n hx hb dX2_tryGapsOf_18 rfl (lv_at hl 1 rfl) ?_
      refine lv_iload hx hb dX2_tryGapsOf_19 (lv_at hl 4 rfl) ?_
      refine y_ast C hP hD hS (by decide) xs_26 dX2_tryGapsOf_21 h (fun g2 H locs h hP hD hS => ?_)
      refine lv_aload_n hx hb dX2_tryGapsOf_22 rfl (lv_at hl 0 rfl) ?_
      refine x_getr (Or.inl fl_X2_18) C hP (by decide) xs_10 rfl dX2_tryGapsOf_23 ?_
      refine lv_iload_n hx hb dX2_tryGapsOf_26 rfl (lv_at hl 1 rfl) ?_
      obtain ⟨z_, g4, L5, hf6, h⟩ := cb_some h
      refine x_callNv (rest := []) li_X2_86 C (rX1_runOne_8 l G H.size b a fu g2 L v1 z_ (g4, L5) hf6) (kR rfl) hP hD hS 8 1 rfl (zat (by decide) xs_8) rfl hl.1 rfl (Nat.le_of_ble_eq_true rfl) dX2_tryGapsOf_27 (fun u_ H locs e_ hP hD hS => ?_)
      have hP : va_P G.1 vwCl (zw G (XS b) 105 a g4 L5) H := hP
      have hD : va_D A (zw G (XS b) 105 a g4 L5) := hD
      refine lv_aload_n hx hb dX2_tryGapsOf_30 rfl (lv_at hl 0 rfl) ?_
      refine x_getr (Or.inl fl_X2_18) C hP (by decide) xs_10 rfl dX2_tryGapsOf_31 ?_
      refine x_getr (Or.inr fl_X2_92) C hP (by decide) xs_8 rfl dX2_tryGapsOf_34 ?_
      refine lv_iload_n hx hb dX2_tryGapsOf_37 rfl (lv_at hl 1 rfl) ?_
      refine y_ald C hP (by decide) xs_44 dX2_tryGapsOf_38 h (fun h => ?_)
      refine lv_iload_n hx hb dX2_tryGapsOf_39 rfl (lv_at hl 3 rfl) ?_
      have J64 : ∀ (v3 : Int32) (v4 : Int32) (g : Nat → Nat → Int32) (L : Nat → Nat → Int64) (H : Heap) (locs : List Loc) (ls : Array Slot), fX2_tryGapsOf_10_p64 fu (fX2_tryFrom_10 fu 2) k5 v1 v2 v3 v4 g L = some (res, s9) → va_P G.1 vwCl (zw G (XS b) 105 a g L) H → va_D A (zw G (XS b) 105 a g L) → va_S A s.heap H locs → lv_has ls 5 [(0, .ref (a 10)), (1, .int v1), (2, .int v2), (3, .int v3), (4, .int v4)] → W p l e { frames := 14, cells := 0, slots := 0, locals := 295 } s m [.ref (a 10), .int p1, .int p2].toArray below meth c H locs 0 0 (MQ below ((kQv G (S := Unit) (fun _ => True) (fun _ => zw G (XS b) 105 a s9.1 s9.2)) A) [.ref (a 10), .int p1, .int p2].toArray s 0 0 A) (F0 m 64 ls []) := by
        intro v3 v4 g L H locs ls h hP hD hS hl
        unfold fX2_tryGapsOf_10_p64 at h
        refine lv_iinc (v := (v4 + 1)) (lv' := [(4, .int (v4 + 1)), (0, .ref (a 10)), (1, .int v1), (2, .int v2), (3, .int v3)]) hx hb dX2_tryGapsOf_64 hl (k := 4) rfl rfl (by decide) rfl (fun ls hl => ?_)
        refine lv_goto (tgt := 5) hx hb dX2_tryGapsOf_67 (by decide) ?_
        exact ih5 (v3, (v4 + 1), g, L) h H locs ls hP hD hS (lv_sub hl [1, 2, 3, 4, 0] rfl)
      refine lv_icmp_eq (x := (g4 44 (Int32.toNatClampNeg v1))) (y := v3) (tgt := 64) hx hb dX2_tryGapsOf_40 (by decide) (fun c7 => ?_) (fun c7 => ?_)
      ·
        have h := ite_t c7 h
        exact J64 v3 v4 g4 L5 H locs ls h hP hD hS (lv_sub hl [0, 1, 2, 3, 4] rfl)
      ·
        have h := ite_e c7 h
        refine lv_aload_n hx hb dX2_tryGapsOf_43 rfl (lv_at hl 0 rfl) ?_
        refine x_getr (Or.inl fl_X2_18) C hP (by decide) xs_10 rfl dX2_tryGapsOf_44 ?_
        refine x_getr (Or.inr fl_X2_92) C hP (by decide) xs_8 rfl dX2_tryGapsOf_47 ?_
        refine lv_iload_n hx hb dX2_tryGapsOf_50 rfl (lv_at hl 1 rfl) ?_
        refine y_ald C hP (by decide) xs_44 dX2_tryGapsOf_51 h (fun h => ?_)
        refine y_let h (fun x8 h => ?_)
        refine lv_istore_n (lv' := [(3, .int x8), (0, .ref (a 10)), (1, .int v1), (2, .int v2), (4, .int v4)]) hx hb dX2_tryGapsOf_52 rfl hl (by decide) rfl (fun ls hl => ?_)
        refine lv_aload_n hx hb dX2_tryGapsOf_53 rfl (lv_at hl 1 rfl) ?_
        refine lv_iload_n hx hb dX2_tryGapsOf_54 rfl (lv_at hl 2 rfl) ?_
        refine lv_iconst (v := 1) hx hb dX2_tryGapsOf_55 (by decide) ?_
        refine lv_iadd hx hb dX2_tryGapsOf_56 ?_
        refine lv_iload_n hx hb dX2_tryGapsOf_57 rfl (lv_at hl 3 rfl) ?_
        refine lv_iload hx hb dX2_tryGapsOf_58 (lv_at hl 4 rfl) ?_
        refine lv_iadd hx hb dX2_tryGapsOf_60 ?_
        obtain ⟨z_, g10, L11, hf12, h⟩ := cb_some h
        refine x_callVv (rest := []) li_X2_60 C (rX2_tryFrom_10_L2 l G H.size b a fu g4 L5 (v1 + 1) (v2 + v4) z_ (g10, L11) hf12) (kR rfl) hP hD hS 10 2 rfl (zat (by decide) xs_10) rfl hl.1 rfl (Nat.le_of_ble_eq_true rfl) dX2_tryGapsOf_61 (fun u_ H locs e_ hP hD hS => ?_)
        have hP : va_P G.1 vwCl (zw G (XS b) 105 a g10 L11) H := hP
        have hD : va_D A (zw G (XS b) 105 a g10 L11) := hD
        exact J64 x8 v4 g10 L11 H locs ls h hP hD hS (lv_sub hl [1, 2, 3, 0, 4] rfl)
  exact lp5 p1 p2 fu ((-1), 0, g, L) h H locs ls hP hD hS (lv_sub hl [2, 3, 4, 1, 0] rfl)
set_option maxHeartbeats 4000000 in
set_option maxRecDepth 100000 in
theorem rX2_tryFrom_10_L3 (l : Launch) (G : kG) (sz : Nat) (b : Nat) (a : Nat → Nat) (fu : Nat) (g : Nat → Nat → Int32) (L : Nat → Nat → Int64) (p1 : Int32) (p2 : Int32) (res : Unit) (s9 : zS) (h : fX2_tryFrom_10 fu 3 p1 p2 g L = some (res, s9)) : kM l yX2_tryFrom cX2_tryFrom 3 none { frames := 15, cells := 0, slots := 0, locals := 319 } G [.ref (a 10), .int p1, .int p2] (zw G (XS b) 105 a g L) sz (kQv G (S := Unit) (fun _ => True) (fun _ => zw G (XS b) 105 a s9.1 s9.2)) := by
  refine kM.of (by decide) (Nat.le_of_ble_eq_true rfl) ?_
  intro p e s m below meth c A ls H C hr hlk hnm hP hD hS hl
  have C : kC G p s m c cX2_tryFrom 3 RX2 A := C
  have hx := C.1
  have hb := C.2.1
  have hl : lv_has ls 3 [(0, .ref (a 10)), (1, .int p1), (2, .int p2)] := hl
  obtain ⟨locs, hlocs⟩ : ∃ q : List Loc, q = [] := ⟨_, rfl⟩
  rw [← hlocs] at hS
  rw [← hlocs]
  rw [fX2_tryFrom_10_succ] at h
  unfold fX2_tryFrom_10B at h
  refine lv_iload_n hx hb dX2_tryFrom_0 rfl (lv_at hl 2 rfl) ?_
  refine lv_aload_n hx hb dX2_tryFrom_1 rfl (lv_at hl 0 rfl) ?_
  refine x_getv (v := .int (g 10 8)) (Or.inl fl_X2_39) C hP (by decide) xs_10 rfl dX2_tryFrom_2 ?_
  refine lv_icmp_lt (x := p2) (y := (g 10 8)) (tgt := 9) hx hb dX2_tryFrom_5 (by decide) (fun c1 => ?_) (fun c1 => ?_)
  ·
    have h := ite_t c1 h
    refine lv_iload_n hx hb dX2_tryFrom_9 rfl (lv_at hl 1 rfl) ?_
    refine lv_aload_n hx hb dX2_tryFrom_10 rfl (lv_at hl 0 rfl) ?_
    refine x_getv (v := .int (g 10 5)) (Or.inl fl_X2_36) C hP (by decide) xs_10 rfl dX2_tryFrom_11 ?_
    have J89 : ∀ (g : Nat → Nat → Int32) (L : Nat → Nat → Int64) (H : Heap) (locs : List Loc) (ls : Array Slot), fX2_tryFrom_10_p89 fu (fX2_tryFrom_10 fu 2) g L = some (res, s9) → va_P G.1 vwCl (zw G (XS b) 105 a g L) H → va_D A (zw G (XS b) 105 a g L) → va_S A s.heap H locs → lv_has ls 3 [] → W p l e { frames := 15, cells := 0, slots := 0, locals := 319 } s m [.ref (a 10), .int p1, .int p2].toArray below meth c H locs 0 0 (MQ below ((kQv G (S := Unit) (fun _ => True) (fun _ => zw G (XS b) 105 a s9.1 s9.2)) A) [.ref (a 10), .int p1, .int p2].toArray s 0 0 A) (F0 m 89 ls []) := by
      intro g L H locs ls h hP hD hS hl
      unfold fX2_tryFrom_10_p89 at h
      exact y_vret C hr hlk hP hD hS h (Nat.le_of_ble_eq_true rfl) (Nat.le_of_ble_eq_true rfl) dX2_tryFrom_89
    have J23 : ∀ (v2 : Int32) (g : Nat → Nat → Int32) (L : Nat → Nat → Int64) (H : Heap) (locs : List Loc) (ls : Array Slot), fX2_tryFrom_10_p23 fu (fX2_tryFrom_10 fu 2) v2 g L = some (res, s9) → va_P G.1 vwCl (zw G (XS b) 105 a g L) H → va_D A (zw G (XS b) 105 a g L) → va_S A s.heap H locs → lv_has ls 3 [(0, .ref (a 10)), (2, .int v2)] → W p l e { frames := 15, cells := 0, slots := 0, locals := 319 } s m [.ref (a 10), .int p1, .int p2].toArray below meth c H locs 0 0 (MQ below ((kQv G (S := Unit) (fun _ => True) (fun _ => zw G (XS b) 105 a s9.1 s9.2)) A) [.ref (a 10), .int p1, .int p2].toArray s 0 0 A) (F0 m 23 ls []) := by
      intro v2 g L H locs ls h hP hD hS hl
      unfold fX2_tryFrom_10_p23 at h
      refine lv_aload_n hx hb dX2_tryFrom_23 rfl (lv_at hl 0 rfl) ?_
      refine lv_iload_n hx hb dX2_tryFrom_24 rfl (lv_at hl 1 rfl) ?_
      obtain ⟨z_, g3, L4, hf5, h⟩ := cb_some h
      refine x_callVv (rest := []) li_X2_82 C (rX2_takeIfOnTime_10 l G H.size b a fu g L v2 z_ (g3, L4) hf5) (kR rfl) hP hD hS 10 2 rfl (zat (by decide) xs_10) rfl hl.1 rfl (Nat.le_of_ble_eq_true rfl) dX2_tryFrom_25 (fun u_ H locs e_ hP hD hS => ?_)
      have hP : va_P G.1 vwCl (zw G (XS b) 105 a g3 L4) H := hP
      have hD : va_D A (zw G (XS b) 105 a g3 L4) := hD
      refine lv_goto (tgt := 89) hx hb dX2_tryFrom_28 (by decide) ?_
      exact J89 g3 L4 H locs ls h hP hD hS (lv_sub hl [] rfl)
    refine lv_icmp_gt (x := p1) (y := (g 10 5)) (tgt := 23) hx hb dX2_tryFrom_14 (by decide) (fun c6 => ?_) (fun c6 => ?_)
    ·
      have h := ite_t c6 h
      exact J23 p2 g L H locs ls h hP hD hS (lv_sub hl [0, 2] rfl)
    ·
      have h := ite_e c6 h
      refine lv_iload_n hx hb dX2_tryFrom_17 rfl (lv_at hl 1 rfl) ?_
      refine lv_bipush (v := 12) hx hb dX2_tryFrom_18 (by decide) ?_
      refine lv_icmp_lt (x := p1) (y := 12) (tgt := 31) hx hb dX2_tryFrom_20 (by decide) (fun c7 => ?_) (fun c7 => ?_)
      ·
        have h := ite_t c7 h
        refine lv_aload_n hx hb dX2_tryFrom_31 rfl (lv_at hl 0 rfl) ?_
        refine x_getv (v := .int (g 10 7)) (Or.inl fl_X2_64) C hP (by decide) xs_10 rfl dX2_tryFrom_32 ?_
        refine lv_iload_n hx hb dX2_tryFrom_35 rfl (lv_at hl 1 rfl) ?_
        obtain ⟨z_, g9, L10, hf11, h⟩ := cb_some h
        refine x_callSi (rest := []) li_X2_56 C (rX2_isIn l G H.size b a fu g L (g 10 7) p1 z_ (g9, L10) hf11) (kR rfl) hP hD hS rfl hl.1 rfl (Nat.le_of_ble_eq_true rfl) dX2_tryFrom_36 (fun x8 u_ H locs e_ hP hD hS => ?_)
        have e_ : x8 = z_ := e_
        subst e_
        have hP : va_P G.1 vwCl (zw G (XS b) 105 a g9 L10) H := hP
        have hD : va_D A (zw G (XS b) 105 a g9 L10) := hD
        refine lv_if_ne (x := x8) (tgt := 53) hx hb dX2_tryFrom_39 (by decide) (fun c12 => ?_) (fun c12 => ?_)
        ·
          have h := ite_e c12 h
          refine lv_aload_n hx hb dX2_tryFrom_53 rfl (lv_at hl 0 rfl) ?_
          refine x_getv (v := .int (g9 10 4)) (Or.inl fl_X2_29) C hP (by decide) xs_10 rfl dX2_tryFrom_54 ?_
          refine lv_iload_n hx hb dX2_tryFrom_57 rfl (lv_at hl 1 rfl) ?_
          obtain ⟨z_, g14, L15, hf16, h⟩ := cb_some h
          refine x_callSi (rest := []) li_X2_56 C (rX2_isIn l G H.size b a fu g9 L10 (g9 10 4) p1 z_ (g14, L15) hf16) (kR rfl) hP hD hS rfl hl.1 rfl (Nat.le_of_ble_eq_true rfl) dX2_tryFrom_58 (fun x13 u_ H locs e_ hP hD hS => ?_)
          have e_ : x13 = z_ := e_
          subst e_
          have hP : va_P G.1 vwCl (zw G (XS b) 105 a g14 L15) H := hP
          have hD : va_D A (zw G (XS b) 105 a g14 L15) := hD
          refine lv_if_ne (x := x13) (tgt := 83) hx hb dX2_tryFrom_61 (by decide) (fun c17 => ?_) (fun c17 => ?_)
          ·
            have h := ite_e c17 h
            refine lv_aload_n hx hb dX2_tryFrom_83 rfl (lv_at hl 0 rfl) ?_
            refine lv_iload_n hx hb dX2_tryFrom_84 rfl (lv_at hl 1 rfl) ?_
            refine lv_iload_n hx hb dX2_tryFrom_85 rfl (lv_at hl 2 rfl) ?_
            obtain ⟨z_, g19, L20, hf21, h⟩ := cb_some h
            refine x_callVv (rest := []) li_X2_89 C (rX2_tryGapsOf_10_L3 l G H.size b a fu g14 L15 p1 p2 z_ (g19, L20) hf21) (kR rfl) hP hD hS 10 2 rfl (zat (by decide) xs_10) rfl hl.1 rfl (Nat.le_of_ble_eq_true rfl) dX2_tryFrom_86 (fun u_ H locs e_ hP hD hS => ?_)
            have hP : va_P G.1 vwCl (zw G (XS b) 105 a g19 L20) H := hP
            have hD : va_D A (zw G (XS b) 105 a g19 L20) := hD
            exact J89 g19 L20 H locs ls h hP hD hS (lv_sub hl [] rfl)
          ·
            have h := ite_t c17 h
            refine lv_aload_n hx hb dX2_tryFrom_64 rfl (lv_at hl 0 rfl) ?_
            refine x_getr (Or.inl fl_X2_18) C hP (by decide) xs_10 rfl dX2_tryFrom_65 ?_
            refine lv_iload_n hx hb dX2_tryFrom_68 rfl (lv_at hl 1 rfl) ?_
            obtain ⟨z_, g23, L24, hf25, h⟩ := cb_some h
            refine x_callNv (rest := []) li_X2_86 C (rX1_runOne_8 l G H.size b a fu g14 L15 p1 z_ (g23, L24) hf25) (kR rfl) hP hD hS 8 1 rfl (zat (by decide) xs_8) rfl hl.1 rfl (Nat.le_of_ble_eq_true rfl) dX2_tryFrom_69 (fun u_ H locs e_ hP hD hS => ?_)
            have hP : va_P G.1 vwCl (zw G (XS b) 105 a g23 L24) H := hP
            have hD : va_D A (zw G (XS b) 105 a g23 L24) := hD
            refine lv_aload_n hx hb dX2_tryFrom_72 rfl (lv_at hl 0 rfl) ?_
            refine lv_iload_n hx hb dX2_tryFrom_73 rfl (lv_at hl 1 rfl) ?_
            refine lv_iconst (v := 1) hx hb dX2_tryFrom_74 (by decide) ?_
            refine lv_iadd hx hb dX2_tryFrom_75 ?_
            refine lv_iload_n hx hb dX2_tryFrom_76 rfl (lv_at hl 2 rfl) ?_
            obtain ⟨z_, g27, L28, hf29, h⟩ := cb_some h
            refine x_callVv (rest := []) li_X2_60 C (rX2_tryFrom_10_L2 l G H.size b a fu g23 L24 (p1 + 1) p2 z_ (g27, L28) hf29) (kR rfl) hP hD hS 10 2 rfl (zat (by decide) xs_10) rfl hl.1 rfl (Nat.le_of_ble_eq_true rfl) dX2_tryFrom_77 (fun u_ H locs e_ hP hD hS => ?_)
            have hP : va_P G.1 vwCl (zw G (XS b) 105 a g27 L28) H := hP
            have hD : va_D A (zw G (XS b) 105 a g27 L28) := hD
            refine lv_goto (tgt := 89) hx hb dX2_tryFrom_80 (by decide) ?_
            exact J89 g27 L28 H locs ls h hP hD hS (lv_sub hl [] rfl)
        ·
          have h := ite_t c12 h
          refine lv_aload_n hx hb dX2_tryFrom_42 rfl (lv_at hl 0 rfl) ?_
          refine lv_iload_n hx hb dX2_tryFrom_43 rfl (lv_at hl 1 rfl) ?_
          refine lv_iconst (v := 1) hx hb dX2_tryFrom_44 (by decide) ?_
          refine lv_iadd hx hb dX2_tryFrom_45 ?_
          refine lv_iload_n hx hb dX2_tryFrom_46 rfl (lv_at hl 2 rfl) ?_
          obtain ⟨z_, g31, L32, hf33, h⟩ := cb_some h
          refine x_callVv (rest := []) li_X2_60 C (rX2_tryFrom_10_L2 l G H.size b a fu g9 L10 (p1 + 1) p2 z_ (g31, L32) hf33) (kR rfl) hP hD hS 10 2 rfl (zat (by decide) xs_10) rfl hl.1 rfl (Nat.le_of_ble_eq_true rfl) dX2_tryFrom_47 (fun u_ H locs e_ hP hD hS => ?_)
          have hP : va_P G.1 vwCl (zw G (XS b) 105 a g31 L32) H := hP
          have hD : va_D A (zw G (XS b) 105 a g31 L32) := hD
          refine lv_goto (tgt := 89) hx hb dX2_tryFrom_50 (by decide) ?_
          exact J89 g31 L32 H locs ls h hP hD hS (lv_sub hl [] rfl)
      ·
        have h := ite_e c7 h
        exact J23 p2 g L H locs ls h hP hD hS (lv_sub hl [0, 2] rfl)
  ·
    have h := ite_e c1 h
    exact y_vret C hr hlk hP hD hS h (Nat.le_of_ble_eq_true rfl) (Nat.le_of_ble_eq_true rfl) dX2_tryFrom_8
set_option maxHeartbeats 4000000 in
set_option maxRecDepth 100000 in
theorem rX2_tryGapsOf_10_L4 (l : Launch) (G : kG) (sz : Nat) (b : Nat) (a : Nat → Nat) (fu : Nat) (g : Nat → Nat → Int32) (L : Nat → Nat → Int64) (p1 : Int32) (p2 : Int32) (res : Unit) (s9 : zS) (h : fX2_tryGapsOf_10 fu (fX2_tryFrom_10 fu 3) p1 p2 g L = some (res, s9)) : kM l yX2_tryGapsOf cX2_tryGapsOf 5 none { frames := 16, cells := 0, slots := 0, locals := 341 } G [.ref (a 10), .int p1, .int p2] (zw G (XS b) 105 a g L) sz (kQv G (S := Unit) (fun _ => True) (fun _ => zw G (XS b) 105 a s9.1 s9.2)) := by
  refine kM.of (by decide) (Nat.le_of_ble_eq_true rfl) ?_
  intro p e s m below meth c A ls H C hr hlk hnm hP hD hS hl
  have C : kC G p s m c cX2_tryGapsOf 5 RX2 A := C
  have hx := C.1
  have hb := C.2.1
  have hl : lv_has ls 5 [(0, .ref (a 10)), (1, .int p1), (2, .int p2)] := hl
  obtain ⟨locs, hlocs⟩ : ∃ q : List Loc, q = [] := ⟨_, rfl⟩
  rw [← hlocs] at hS
  rw [← hlocs]
  unfold fX2_tryGapsOf_10 at h
  refine lv_iconst (v := -1) hx hb dX2_tryGapsOf_0 (by decide) ?_
  refine lv_istore_n (lv' := [(3, .int (-1)), (0, .ref (a 10)), (1, .int p1), (2, .int p2)]) hx hb dX2_tryGapsOf_1 rfl hl (by decide) rfl (fun ls hl => ?_)
  refine lv_iconst (v := 0) hx hb dX2_tryGapsOf_2 (by decide) ?_
  refine lv_istore (lv' := [(4, .int 0), (3, .int (-1)), (0, .ref (a 10)), (1, .int p1), (2, .int p2)]) hx hb dX2_tryGapsOf_3 hl (by decide) rfl (fun ls hl => ?_)
  have lp5 : ∀ (v1 : Int32) (v2 : Int32), ∀ (n : Nat) (v : Int32 × Int32 × (Nat → Nat → Int32) × (Nat → Nat → Int64)), whileK (fun k v => fX2_tryGapsOf_10_s5 fu (fX2_tryFrom_10 fu 3) v1 v2 k v.1 v.2.1 v.2.2.1 v.2.2.2) n v = some (res, s9) → ∀ (H : Heap) (locs : List Loc) (ls : Array Slot), va_P G.1 vwCl (zw G (XS b) 105 a (v.2.2.1) (v.2.2.2)) H → va_D A (zw G (XS b) 105 a (v.2.2.1) (v.2.2.2)) → va_S A s.heap H locs → lv_has ls 5 [(0, .ref (a 10)), (1, .int v1), (2, .int v2), (3, .int (v.1)), (4, .int (v.2.1))] → W p l e { frames := 16, cells := 0, slots := 0, locals := 341 } s m [.ref (a 10), .int p1, .int p2].toArray below meth c H locs 0 0 (MQ below ((kQv G (S := Unit) (fun _ => True) (fun _ => zw G (XS b) 105 a s9.1 s9.2)) A) [.ref (a 10), .int p1, .int p2].toArray s 0 0 A) (F0 m 5 ls []) := by
    intro v1 v2
    refine while_ind (fun k5 ih5 v h => ?_)
    obtain ⟨v3, v4, g, L⟩ := v
    intro H locs ls hP hD hS hl
    have h : fX2_tryGapsOf_10_s5 fu (fX2_tryFrom_10 fu 3) v1 v2 k5 v3 v4 g L = some (res, s9) := h
    have hP : va_P G.1 vwCl (zw G (XS b) 105 a g L) H := hP
    have hD : va_D A (zw G (XS b) 105 a g L) := hD
    have hl : lv_has ls 5 [(0, .ref (a 10)), (1, .int v1), (2, .int v2), (3, .int v3), (4, .int v4)] := hl
    show W p l e { frames := 16, cells := 0, slots := 0, locals := 341 } s m [.ref (a 10), .int p1, .int p2].toArray below meth c H locs 0 0 (MQ below ((kQv G (S := Unit) (fun _ => True) (fun _ => zw G (XS b) 105 a s9.1 s9.2)) A) [.ref (a 10), .int p1, .int p2].toArray s 0 0 A) (F0 m 5 ls [])
    unfold fX2_tryGapsOf_10_s5 at h
    refine lv_iload hx hb dX2_tryGapsOf_5 (lv_at hl 4 rfl) ?_
    refine lv_iconst (v := 4) hx hb dX2_tryGapsOf_7 (by decide) ?_
    refine lv_icmp_gt (x := v4) (y := 4) (tgt := 70) hx hb dX2_tryGapsOf_8 (by decide) (fun c1 => ?_) (fun c1 => ?_)
    ·
      have h := ite_t c1 h
      exact y_vret C hr hlk hP hD hS h (Nat.le_of_ble_eq_true rfl) (Nat.le_of_ble_eq_true rfl) dX2_tryGapsOf_70
    ·
      have h := ite_e c1 h
      refine lv_aload_n hx hb dX2_tryGapsOf_11 rfl (lv_at hl 0 rfl) ?_
      refine x_getr (Or.inl fl_X2_28) C hP (by decide) xs_10 rfl dX2_tryGapsOf_12 ?_
      refine x_getr (Or.inr fl_X2_45) C hP (by decide) xs_6 rfl dX2_tryGapsOf_15 ?_
      refine lv_iload_n hx hb dX2_tryGapsOf_18 rfl (lv_at hl 1 rfl) ?_
      refine lv_iload hx hb dX2_tryGapsOf_19 (lv_at hl 4 rfl) ?_
      refine y_ast C hP hD hS (by decide) xs_26 dX2_tryGapsOf_21 h (fun g2 H locs h hP hD hS => ?_)
      refine lv_aload_n hx hb dX2_tryGapsOf_22 rfl (lv_at hl 0 rfl) ?_
      refine x_getr (Or.inl fl_X2_18) C hP (by decide) xs_10 rfl dX2_tryGapsOf_23 ?_
      refine lv_iload_n hx hb dX2_tryGapsOf_26 rfl (lv_at hl 1 rfl) ?_
      obtain ⟨z_, g4, L5, hf6, h⟩ := cb_some h
      refine x_callNv (rest := []) li_X2_86 C (rX1_runOne_8 l G H.size b a fu g2 L v1 z_ (g4, L5) hf6) (kR rfl) hP hD hS 8 1 rfl (zat (by decide) xs_8) rfl hl.1 rfl (Nat.le_of_ble_eq_true rfl) dX2_tryGapsOf_27 (fun u_ H locs e_ hP hD hS => ?_)
      have hP : va_P G.1 vwCl (zw G (XS b) 105 a g4 L5) H := hP
      have hD : va_D A (zw G (XS b) 105 a g4 L5) := hD
      refine lv_aload_n hx hb dX2_tryGapsOf_30 rfl (lv_at hl 0 rfl) ?_
      refine x_getr (Or.inl fl_X2_18) C hP (by decide) xs_10 rfl dX2_tryGapsOf_31 ?_
      refine x_getr (Or.inr fl_X2_92) C hP (by decide) xs_8 rfl dX2_tryGapsOf_34 ?_
      refine lv_iload_n hx hb dX2_tryGapsOf_37 rfl (lv_at hl 1 rfl) ?_
      refine y_ald C hP (by decide) xs_44 dX2_tryGapsOf_38 h (fun h => ?_)
      refine lv_iload_n hx hb dX2_tryGapsOf_39 rfl (lv_at hl 3 rfl) ?_
      have J64 : ∀ (v3 : Int32) (v4 : Int32) (g : Nat → Nat → Int32) (L : Nat → Nat → Int64) (H : Heap) (locs : List Loc) (ls : Array Slot), fX2_tryGapsOf_10_p64 fu (fX2_tryFrom_10 fu 3) k5 v1 v2 v3 v4 g L = some (res, s9) → va_P G.1 vwCl (zw G (XS b) 105 a g L) H → va_D A (zw G (XS b) 105 a g L) → va_S A s.heap H locs → lv_has ls 5 [(0, .ref (a 10)), (1, .int v1), (2, .int v2), (3, .int v3), (4, .int v4)] → W p l e { frames := 16, cells := 0, slots := 0, locals := 341 } s m [.ref (a 10), .int p1, .int p2].toArray below meth c H locs 0 0 (MQ below ((kQv G (S := Unit) (fun _ => True) (fun _ => zw G (XS b) 105 a s9.1 s9.2)) A) [.ref (a 10), .int p1, .int p2].toArray s 0 0 A) (F0 m 64 ls []) := by
        intro v3 v4 g L H locs ls h hP hD hS hl
        unfold fX2_tryGapsOf_10_p64 at h
        refine lv_iinc (v := (v4 + 1)) (lv' := [(4, .int (v4 + 1)), (0, .ref (a 10)), (1, .int v1), (2, .int v2), (3, .int v3)]) hx hb dX2_tryGapsOf_64 hl (k := 4) rfl rfl (by decide) rfl (fun ls hl => ?_)
        refine lv_goto (tgt := 5) hx hb dX2_tryGapsOf_67 (by decide) ?_
        exact ih5 (v3, (v4 + 1), g, L) h H locs ls hP hD hS (lv_sub hl [1, 2, 3, 4, 0] rfl)
      refine lv_icmp_eq (x := (g4 44 (Int32.toNatClampNeg v1))) (y := v3) (tgt := 64) hx hb dX2_tryGapsOf_40 (by decide) (fun c7 => ?_) (fun c7 => ?_)
      ·
        have h := ite_t c7 h
        exact J64 v3 v4 g4 L5 H locs ls h hP hD hS (lv_sub hl [0, 1, 2, 3, 4] rfl)
      ·
        have h := ite_e c7 h
        refine lv_aload_n hx hb dX2_tryGapsOf_43 rfl (lv_at hl 0 rfl) ?_
        refine x_getr (Or.inl fl_X2_18) C hP (by decide) xs_10 rfl dX2_tryGapsOf_44 ?_
        refine x_getr (Or.inr fl_X2_92) C hP (by decide) xs_8 rfl dX2_tryGapsOf_47 ?_
        refine lv_iload_n hx hb dX2_tryGapsOf_50 rfl (lv_at hl 1 rfl) ?_
        refine y_ald C hP (by decide) xs_44 dX2_tryGapsOf_51 h (fun h => ?_)
        refine y_let h (fun x8 h => ?_)
        refine lv_istore_n (lv' := [(3, .int x8), (0, .ref (a 10)), (1, .int v1), (2, .int v2), (4, .int v4)]) hx hb dX2_tryGapsOf_52 rfl hl (by decide) rfl (fun ls hl => ?_)
        refine lv_aload_n hx hb dX2_tryGapsOf_53 rfl (lv_at hl 1 rfl) ?_
        refine lv_iload_n hx hb dX2_tryGapsOf_54 rfl (lv_at hl 2 rfl) ?_
        refine lv_iconst (v := 1) hx hb dX2_tryGapsOf_55 (by decide) ?_
        refine lv_iadd hx hb dX2_tryGapsOf_56 ?_
        refine lv_iload_n hx hb dX2_tryGapsOf_57 rfl (lv_at hl 3 rfl) ?_
        refine lv_iload hx hb dX2_tryGapsOf_58 (lv_at hl 4 rfl) ?_
        refine lv_iadd hx hb dX2_tryGapsOf_60 ?_
        obtain ⟨z_, g10, L11, hf12, h⟩ := cb_some h
        refine x_callVv (rest := []) li_X2_60 C (rX2_tryFrom_10_L3 l G H.size b a fu g4 L5 (v1 + 1) (v2 + v4) z_ (g10, L11) hf12) (kR rfl) hP hD hS 10 2 rfl (zat (by decide) xs_10) rfl hl.1 rfl (Nat.le_of_ble_eq_true rfl) dX2_tryGapsOf_61 (fun u_ H locs e_ hP hD hS => ?_)
        have hP : va_P G.1 vwCl (zw G (XS b) 105 a g10 L11) H := hP
        have hD : va_D A (zw G (XS b) 105 a g10 L11) := hD
        exact J64 x8 v4 g10 L11 H locs ls h hP hD hS (lv_sub hl [1, 2, 3, 0, 4] rfl)
  exact lp5 p1 p2 fu ((-1), 0, g, L) h H locs ls hP hD hS (lv_sub hl [2, 3, 4, 1, 0] rfl)
set_option maxHeartbeats 4000000 in
set_option maxRecDepth 100000 in
theorem rX2_tryFrom_10_L4 (l : Launch) (G : kG) (sz : Nat) (b : Nat) (a : Nat → Nat) (fu : Nat) (g : Nat → Nat → Int32) (L : Nat → Nat → Int64) (p1 : Int32) (p2 : Int32) (res : Unit) (s9 : zS) (h : fX2_tryFrom_10 fu 4 p1 p2 g L = some (res, s9)) : kM l yX2_tryFrom cX2_tryFrom 3 none { frames := 17, cells := 0, slots := 0, locals := 365 } G [.ref (a 10), .int p1, .int p2] (zw G (XS b) 105 a g L) sz (kQv G (S := Unit) (fun _ => True) (fun _ => zw G (XS b) 105 a s9.1 s9.2)) := by
  refine kM.of (by decide) (Nat.le_of_ble_eq_true rfl) ?_
  intro p e s m below meth c A ls H C hr hlk hnm hP hD hS hl
  have C : kC G p s m c cX2_tryFrom 3 RX2 A := C
  have hx := C.1
  have hb := C.2.1
  have hl : lv_has ls 3 [(0, .ref (a 10)), (1, .int p1), (2, .int p2)] := hl
  obtain ⟨locs, hlocs⟩ : ∃ q : List Loc, q = [] := ⟨_, rfl⟩
  rw [← hlocs] at hS
  rw [← hlocs]
  rw [fX2_tryFrom_10_succ] at h
  unfold fX2_tryFrom_10B at h
  refine lv_iload_n hx hb dX2_tryFrom_0 rfl (lv_at hl 2 rfl) ?_
  refine lv_aload_n hx hb dX2_tryFrom_1 rfl (lv_at hl 0 rfl) ?_
  refine x_getv (v := .int (g 10 8)) (Or.inl fl_X2_39) C hP (by decide) xs_10 rfl dX2_tryFrom_2 ?_
  refine lv_icmp_lt (x := p2) (y := (g 10 8)) (tgt := 9) hx hb dX2_tryFrom_5 (by decide) (fun c1 => ?_) (fun c1 => ?_)
  ·
    have h := ite_t c1 h
    refine lv_iload_n hx hb dX2_tryFrom_9 rfl (lv_at hl 1 rfl) ?_
    refine lv_aload_n hx hb dX2_tryFrom_10 rfl (lv_at hl 0 rfl) ?_
    refine x_getv (v := .int (g 10 5)) (Or.inl fl_X2_36) C hP (by decide) xs_10 rfl dX2_tryFrom_11 ?_
    have J89 : ∀ (g : Nat → Nat → Int32) (L : Nat → Nat → Int64) (H : Heap) (locs : List Loc) (ls : Array Slot), fX2_tryFrom_10_p89 fu (fX2_tryFrom_10 fu 3) g L = some (res, s9) → va_P G.1 vwCl (zw G (XS b) 105 a g L) H → va_D A (zw G (XS b) 105 a g L) → va_S A s.heap H locs → lv_has ls 3 [] → W p l e { frames := 17, cells := 0, slots := 0, locals := 365 } s m [.ref (a 10), .int p1, .int p2].toArray below meth c H locs 0 0 (MQ below ((kQv G (S := Unit) (fun _ => True) (fun _ => zw G (XS b) 105 a s9.1 s9.2)) A) [.ref (a 10), .int p1, .int p2].toArray s 0 0 A) (F0 m 89 ls []) := by
      intro g L H locs ls h hP hD hS hl
      unfold fX2_tryFrom_10_p89 at h
      exact y_vret C hr hlk hP hD hS h (Nat.le_of_ble_eq_true rfl) (Nat.le_of_ble_eq_true rfl) dX2_tryFrom_89
    have J23 : ∀ (v2 : Int32) (g : Nat → Nat → Int32) (L : Nat → Nat → Int64) (H : Heap) (locs : List Loc) (ls : Array Slot), fX2_tryFrom_10_p23 fu (fX2_tryFrom_10 fu 3) v2 g L = some (res, s9) → va_P G.1 vwCl (zw G (XS b) 105 a g L) H → va_D A (zw G (XS b) 105 a g L) → va_S A s.heap H locs → lv_has ls 3 [(0, .ref (a 10)), (2, .int v2)] → W p l e { frames := 17, cells := 0, slots := 0, locals := 365 } s m [.ref (a 10), .int p1, .int p2].toArray below meth c H locs 0 0 (MQ below ((kQv G (S := Unit) (fun _ => True) (fun _ => zw G (XS b) 105 a s9.1 s9.2)) A) [.ref (a 10), .int p1, .int p2].toArray s 0 0 A) (F0 m 23 ls []) := by
      intro v2 g L H locs ls h hP hD hS hl
      unfold fX2_tryFrom_10_p23 at h
      refine lv_aload_n hx hb dX2_tryFrom_23 rfl (lv_at hl 0 rfl) ?_
      refine lv_iload_n hx hb dX2_tryFrom_24 rfl (lv_at hl 1 rfl) ?_
      obtain ⟨z_, g3, L4, hf5, h⟩ := cb_some h
      refine x_callVv (rest := []) li_X2_82 C (rX2_takeIfOnTime_10 l G H.size b a fu g L v2 z_ (g3, L4) hf5) (kR rfl) hP hD hS 10 2 rfl (zat (by decide) xs_10) rfl hl.1 rfl (Nat.le_of_ble_eq_true rfl) dX2_tryFrom_25 (fun u_ H locs e_ hP hD hS => ?_)
      have hP : va_P G.1 vwCl (zw G (XS b) 105 a g3 L4) H := hP
      have hD : va_D A (zw G (XS b) 105 a g3 L4) := hD
      refine lv_goto (tgt := 89) hx hb dX2_tryFrom_28 (by decide) ?_
      exact J89 g3 L4 H locs ls h hP hD hS (lv_sub hl [] rfl)
    refine lv_icmp_gt (x := p1) (y := (g 10 5)) (tgt := 23) hx hb dX2_tryFrom_14 (by decide) (fun c6 => ?_) (fun c6 => ?_)
    ·
      have h := ite_t c6 h
      exact J23 p2 g L H locs ls h hP hD hS (lv_sub hl [0, 2] rfl)
    ·
      have h := ite_e c6 h
      refine lv_iload_n hx hb dX2_tryFrom_17 rfl (lv_at hl 1 rfl) ?_
      refine lv_bipush (v := 12) hx hb dX2_tryFrom_18 (by decide) ?_
      refine lv_icmp_lt (x := p1) (y := 12) (tgt := 31) hx hb dX2_tryFrom_20 (by decide) (fun c7 => ?_) (fun c7 => ?_)
      ·
        have h := ite_t c7 h
        refine lv_aload_n hx hb dX2_tryFrom_31 rfl (lv_at hl 0 rfl) ?_
        refine x_getv (v := .int (g 10 7)) (Or.inl fl_X2_64) C hP (by decide) xs_10 rfl dX2_tryFrom_32 ?_
        refine lv_iload_n hx hb dX2_tryFrom_35 rfl (lv_at hl 1 rfl) ?_
        obtain ⟨z_, g9, L10, hf11, h⟩ := cb_some h
        refine x_callSi (rest := []) li_X2_56 C (rX2_isIn l G H.size b a fu g L (g 10 7) p1 z_ (g9, L10) hf11) (kR rfl) hP hD hS rfl hl.1 rfl (Nat.le_of_ble_eq_true rfl) dX2_tryFrom_36 (fun x8 u_ H locs e_ hP hD hS => ?_)
        have e_ : x8 = z_ := e_
        subst e_
        have hP : va_P G.1 vwCl (zw G (XS b) 105 a g9 L10) H := hP
        have hD : va_D A (zw G (XS b) 105 a g9 L10) := hD
        refine lv_if_ne (x := x8) (tgt := 53) hx hb dX2_tryFrom_39 (by decide) (fun c12 => ?_) (fun c12 => ?_)
        ·
          have h := ite_e c12 h
          refine lv_aload_n hx hb dX2_tryFrom_53 rfl (lv_at hl 0 rfl) ?_
          refine x_getv (v := .int (g9 10 4)) (Or.inl fl_X2_29) C hP (by decide) xs_10 rfl dX2_tryFrom_54 ?_
          refine lv_iload_n hx hb dX2_tryFrom_57 rfl (lv_at hl 1 rfl) ?_
          obtain ⟨z_, g14, L15, hf16, h⟩ := cb_some h
          refine x_callSi (rest := []) li_X2_56 C (rX2_isIn l G H.size b a fu g9 L10 (g9 10 4) p1 z_ (g14, L15) hf16) (kR rfl) hP hD hS rfl hl.1 rfl (Nat.le_of_ble_eq_true rfl) dX2_tryFrom_58 (fun x13 u_ H locs e_ hP hD hS => ?_)
          have e_ : x13 = z_ := e_
          subst e_
          have hP : va_P G.1 vwCl (zw G (XS b) 105 a g14 L15) H := hP
          have hD : va_D A (zw G (XS b) 105 a g14 L15) := hD
          refine lv_if_ne (x := x13) (tgt := 83) hx hb dX2_tryFrom_61 (by decide) (fun c17 => ?_) (fun c17 => ?_)
          ·
            have h := ite_e c17 h
            refine lv_aload_n hx hb dX2_tryFrom_83 rfl (lv_at hl 0 rfl) ?_
            refine lv_iload_n hx hb dX2_tryFrom_84 rfl (lv_at hl 1 rfl) ?_
            refine lv_iload_n hx hb dX2_tryFrom_85 rfl (lv_at hl 2 rfl) ?_
            obtain ⟨z_, g19, L20, hf21, h⟩ := cb_some h
            refine x_callVv (rest := []) li_X2_89 C (rX2_tryGapsOf_10_L4 l G H.size b a fu g14 L15 p1 p2 z_ (g19, L20) hf21) (kR rfl) hP hD hS 10 2 rfl (zat (by decide) xs_10) rfl hl.1 rfl (Nat.le_of_ble_eq_true rfl) dX2_tryFrom_86 (fun u_ H locs e_ hP hD hS => ?_)
            have hP : va_P G.1 vwCl (zw G (XS b) 105 a g19 L20) H := hP
            have hD : va_D A (zw G (XS b) 105 a g19 L20) := hD
            exact J89 g19 L20 H locs ls h hP hD hS (lv_sub hl [] rfl)
          ·
            have h := ite_t c17 h
            refine lv_aload_n hx hb dX2_tryFrom_64 rfl (lv_at hl 0 rfl) ?_
            refine x_getr (Or.inl fl_X2_18) C hP (by decide) xs_10 rfl dX2_tryFrom_65 ?_
            refine lv_iload_n hx hb dX2_tryFrom_68 rfl (lv_at hl 1 rfl) ?_
            obtain ⟨z_, g23, L24, hf25, h⟩ := cb_some h
            refine x_callNv (rest := []) li_X2_86 C (rX1_runOne_8 l G H.size b a fu g14 L15 p1 z_ (g23, L24) hf25) (kR rfl) hP hD hS 8 1 rfl (zat (by decide) xs_8) rfl hl.1 rfl (Nat.le_of_ble_eq_true rfl) dX2_tryFrom_69 (fun u_ H locs e_ hP hD hS => ?_)
            have hP : va_P G.1 vwCl (zw G (XS b) 105 a g23 L24) H := hP
            have hD : va_D A (zw G (XS b) 105 a g23 L24) := hD
            refine lv_aload_n hx hb dX2_tryFrom_72 rfl (lv_at hl 0 rfl) ?_
            refine lv_iload_n hx hb dX2_tryFrom_73 rfl (lv_at hl 1 rfl) ?_
            refine lv_iconst (v := 1) hx hb dX2_tryFrom_74 (by decide) ?_
            refine lv_iadd hx hb dX2_tryFrom_75 ?_
            refine lv_iload_n hx hb dX2_tryFrom_76 rfl (lv_at hl 2 rfl) ?_
            obtain ⟨z_, g27, L28, hf29, h⟩ := cb_some h
            refine x_callVv (rest := []) li_X2_60 C (rX2_tryFrom_10_L3 l G H.size b a fu g23 L24 (p1 + 1) p2 z_ (g27, L28) hf29) (kR rfl) hP hD hS 10 2 rfl (zat (by decide) xs_10) rfl hl.1 rfl (Nat.le_of_ble_eq_true rfl) dX2_tryFrom_77 (fun u_ H locs e_ hP hD hS => ?_)
            have hP : va_P G.1 vwCl (zw G (XS b) 105 a g27 L28) H := hP
            have hD : va_D A (zw G (XS b) 105 a g27 L28) := hD
            refine lv_goto (tgt := 89) hx hb dX2_tryFrom_80 (by decide) ?_
            exact J89 g27 L28 H locs ls h hP hD hS (lv_sub hl [] rfl)
        ·
          have h := ite_t c12 h
          refine lv_aload_n hx hb dX2_tryFrom_42 rfl (lv_at hl 0 rfl) ?_
          refine lv_iload_n hx hb dX2_tryFrom_43 rfl (lv_at hl 1 rfl) ?_
          refine lv_iconst (v := 1) hx hb dX2_tryFrom_44 (by decide) ?_
          refine lv_iadd hx hb dX2_tryFrom_45 ?_
          refine lv_iload_n hx hb dX2_tryFrom_46 rfl (lv_at hl 2 rfl) ?_
          obtain ⟨z_, g31, L32, hf33, h⟩ := cb_some h
          refine x_callVv (rest := []) li_X2_60 C (rX2_tryFrom_10_L3 l G H.size b a fu g9 L10 (p1 + 1) p2 z_ (g31, L32) hf33) (kR rfl) hP hD hS 10 2 rfl (zat (by decide) xs_10) rfl hl.1 rfl (Nat.le_of_ble_eq_true rfl) dX2_tryFrom_47 (fun u_ H locs e_ hP hD hS => ?_)
          have hP : va_P G.1 vwCl (zw G (XS b) 105 a g31 L32) H := hP
          have hD : va_D A (zw G (XS b) 105 a g31 L32) := hD
          refine lv_goto (tgt := 89) hx hb dX2_tryFrom_50 (by decide) ?_
          exact J89 g31 L32 H locs ls h hP hD hS (lv_sub hl [] rfl)
      ·
        have h := ite_e c7 h
        exact J23 p2 g L H locs ls h hP hD hS (lv_sub hl [0, 2] rfl)
  ·
    have h := ite_e c1 h
    exact y_vret C hr hlk hP hD hS h (Nat.le_of_ble_eq_true rfl) (Nat.le_of_ble_eq_true rfl) dX2_tryFrom_8
set_option maxHeartbeats 4000000 in
set_option maxRecDepth 100000 in
theorem rX2_tryGapsOf_10_L5 (l : Launch) (G : kG) (sz : Nat) (b : Nat) (a : Nat → Nat) (fu : Nat) (g : Nat → Nat → Int32) (L : Nat → Nat → Int64) (p1 : Int32) (p2 : Int32) (res : Unit) (s9 : zS) (h : fX2_tryGapsOf_10 fu (fX2_tryFrom_10 fu 4) p1 p2 g L = some (res, s9)) : kM l yX2_tryGapsOf cX2_tryGapsOf 5 none { frames := 18, cells := 0, slots := 0, locals := 387 } G [.ref (a 10), .int p1, .int p2] (zw G (XS b) 105 a g L) sz (kQv G (S := Unit) (fun _ => True) (fun _ => zw G (XS b) 105 a s9.1 s9.2)) := by
  refine kM.of (by decide) (Nat.le_of_ble_eq_true rfl) ?_
  intro p e s m below meth c A ls H C hr hlk hnm hP hD hS hl
  have C : kC G p s m c cX2_tryGapsOf 5 RX2 A := C
  have hx := C.1
  have hb := C.2.1
  have hl : lv_has ls 5 [(0, .ref (a 10)), (1, .int p1), (2, .int p2)] := hl
  obtain ⟨locs, hlocs⟩ : ∃ q : List Loc, q = [] := ⟨_, rfl⟩
  rw [← hlocs] at hS
  rw [← hlocs]
  unfold fX2_tryGapsOf_10 at h
  refine lv_iconst (v := -1) hx hb dX2_tryGapsOf_0 (by decide) ?_
  refine lv_istore_n (lv' := [(3, .int (-1)), (0, .ref (a 10)), (1, .int p1), (2, .int p2)]) hx hb dX2_tryGapsOf_1 rfl hl (by decide) rfl (fun ls hl => ?_)
  refine lv_iconst (v := 0) hx hb dX2_tryGapsOf_2 (by decide) ?_
  refine lv_istore (lv' := [(4, .int 0), (3, .int (-1)), (0, .ref (a 10)), (1, .int p1), (2, .int p2)]) hx hb dX2_tryGapsOf_3 hl (by decide) rfl (fun ls hl => ?_)
  have lp5 : ∀ (v1 : Int32) (v2 : Int32), ∀ (n : Nat) (v : Int32 × Int32 × (Nat → Nat → Int32) × (Nat → Nat → Int64)), whileK (fun k v => fX2_tryGapsOf_10_s5 fu (fX2_tryFrom_10 fu 4) v1 v2 k v.1 v.2.1 v.2.2.1 v.2.2.2) n v = some (res, s9) → ∀ (H : Heap) (locs : List Loc) (ls : Array Slot), va_P G.1 vwCl (zw G (XS b) 105 a (v.2.2.1) (v.2.2.2)) H → va_D A (zw G (XS b) 105 a (v.2.2.1) (v.2.2.2)) → va_S A s.heap H locs → lv_has ls 5 [(0, .ref (a 10)), (1, .int v1), (2, .int v2), (3, .int (v.1)), (4, .int (v.2.1))] → W p l e { frames := 18, cells := 0, slots := 0, locals := 387 } s m [.ref (a 10), .int p1, .int p2].toArray below meth c H locs 0 0 (MQ below ((kQv G (S := Unit) (fun _ => True) (fun _ => zw G (XS b) 105 a s9.1 s9.2)) A) [.ref (a 10), .int p1, .int p2].toArray s 0 0 A) (F0 m 5 ls []) := by
    intro v1 v2
    refine while_ind (fun k5 ih5 v h => ?_)
    obtain ⟨v3, v4, g, L⟩ := v
    intro H locs ls hP hD hS hl
    have h : fX2_tryGapsOf_10_s5 fu (fX2_tryFrom_10 fu 4) v1 v2 k5 v3 v4 g L = some (res, s9) := h
    have hP : va_P G.1 vwCl (zw G (XS b) 105 a g L) H := hP
    have hD : va_D A (zw G (XS b) 105 a g L) := hD
    have hl : lv_has ls 5 [(0, .ref (a 10)), (1, .int v1), (2, .int v2), (3, .int v3), (4, .int v4)] := hl
    show W p l e { frames := 18, cells := 0, slots := 0, locals := 387 } s m [.ref (a 10), .int p1, .int p2].toArray below meth c H locs 0 0 (MQ below ((kQv G (S := Unit) (fun _ => True) (fun _ => zw G (XS b) 105 a s9.1 s9.2)) A) [.ref (a 10), .int p1, .int p2].toArray s 0 0 A) (F0 m 5 ls [])
    unfold fX2_tryGapsOf_10_s5 at h
    refine lv_iload hx hb dX2_tryGapsOf_5 (lv_at hl 4 rfl) ?_
    refine lv_iconst (v := 4) hx hb dX2_tryGapsOf_7 (by decide) ?_
    refine lv_icmp_gt (x := v4) (y := 4) (tgt := 70) hx hb dX2_tryGapsOf_8 (by decide) (fun c1 => ?_) (fun c1 => ?_)
    ·
      have h := ite_t c1 h
      exact y_vret C hr hlk hP hD hS h (Nat.le_of_ble_eq_true rfl) (Nat.le_of_ble_eq_true rfl) dX2_tryGapsOf_70
    ·
      have h := ite_e c1 h
      refine lv_aload_n hx hb dX2_tryGapsOf_11 rfl (lv_at hl 0 rfl) ?_
      refine x_getr (Or.inl fl_X2_28) C hP (by decide) xs_10 rfl dX2_tryGapsOf_12 ?_
      refine x_getr (Or.inr fl_X2_45) C hP (by decide) xs_6 rfl dX2_tryGapsOf_15 ?_
      refine lv_iload_n hx hb dX2_tryGapsOf_18 rfl (lv_at hl 1 rfl) ?_
      refine lv_iload hx hb dX2_tryGapsOf_19 (lv_at hl 4 rfl) ?_
      refine y_ast C hP hD hS (by decide) xs_26 dX2_tryGapsOf_21 h (fun g2 H locs h hP hD hS => ?_)
      refine lv_aload_n hx hb dX2_tryGapsOf_22 rfl (lv_at hl 0 rfl) ?_
      refine x_getr (Or.inl fl_X2_18) C hP (by decide) xs_10 rfl dX2_tryGapsOf_23 ?_
      refine lv_iload_n hx hb dX2_tryGapsOf_26 rfl (lv_at hl 1 rfl) ?_
      obtain ⟨z_, g4, L5, hf6, h⟩ := cb_some h
      refine x_callNv (rest := []) li_X2_86 C (rX1_runOne_8 l G H.size b a fu g2 L v1 z_ (g4, L5) hf6) (kR rfl) hP hD hS 8 1 rfl (zat (by decide) xs_8) rfl hl.1 rfl (Nat.le_of_ble_eq_true rfl) dX2_tryGapsOf_27 (fun u_ H locs e_ hP hD hS => ?_)
      have hP : va_P G.1 vwCl (zw G (XS b) 105 a g4 L5) H := hP
      have hD : va_D A (zw G (XS b) 105 a g4 L5) := hD
      refine lv_aload_n hx hb dX2_tryGapsOf_30 rfl (lv_at hl 0 rfl) ?_
      refine x_getr (Or.inl fl_X2_18) C hP (by decide) xs_10 rfl dX2_tryGapsOf_31 ?_
      refine x_getr (Or.inr fl_X2_92) C hP (by decide) xs_8 rfl dX2_tryGapsOf_34 ?_
      refine lv_iload_n hx hb dX2_tryGapsOf_37 rfl (lv_at hl 1 rfl) ?_
      refine y_ald C hP (by decide) xs_44 dX2_tryGapsOf_38 h (fun h => ?_)
      refine lv_iload_n hx hb dX2_tryGapsOf_39 rfl (lv_at hl 3 rfl) ?_
      have J64 : ∀ (v3 : Int32) (v4 : Int32) (g : Nat → Nat → Int32) (L : Nat → Nat → Int64) (H : Heap) (locs : List Loc) (ls : Array Slot), fX2_tryGapsOf_10_p64 fu (fX2_tryFrom_10 fu 4) k5 v1 v2 v3 v4 g L = some (res, s9) → va_P G.1 vwCl (zw G (XS b) 105 a g L) H → va_D A (zw G (XS b) 105 a g L) → va_S A s.heap H locs → lv_has ls 5 [(0, .ref (a 10)), (1, .int v1), (2, .int v2), (3, .int v3), (4, .int v4)] → W p l e { frames := 18, cells := 0, slots := 0, locals := 387 } s m [.ref (a 10), .int p1, .int p2].toArray below meth c H locs 0 0 (MQ below ((kQv G (S := Unit) (fun _ => True) (fun _ => zw G (XS b) 105 a s9.1 s9.2)) A) [.ref (a 10), .int p1, .int p2].toArray s 0 0 A) (F0 m 64 ls []) := by
        intro v3 v4 g L H locs ls h hP hD hS hl
        unfold fX2_tryGapsOf_10_p64 at h
        refine lv_iinc (v := (v4 + 1)) (lv' := [(4, .int (v4 + 1)), (0, .ref (a 10)), (1, .int v1), (2, .int v2), (3, .int v3)]) hx hb dX2_tryGapsOf_64 hl (k := 4) rfl rfl (by decide) rfl (fun ls hl => ?_)
        refine lv_goto (tgt := 5) hx hb dX2_tryGapsOf_67 (by decide) ?_
        exact ih5 (v3, (v4 + 1), g, L) h H locs ls hP hD hS (lv_sub hl [1, 2, 3, 4, 0] rfl)
      refine lv_icmp_eq (x := (g4 44 (Int32.toNatClampNeg v1))) (y := v3) (tgt := 64) hx hb dX2_tryGapsOf_40 (by decide) (fun c7 => ?_) (fun c7 => ?_)
      ·
        have h := ite_t c7 h
        exact J64 v3 v4 g4 L5 H locs ls h hP hD hS (lv_sub hl [0, 1, 2, 3, 4] rfl)
      ·
        have h := ite_e c7 h
        refine lv_aload_n hx hb dX2_tryGapsOf_43 rfl (lv_at hl 0 rfl) ?_
        refine x_getr (Or.inl fl_X2_18) C hP (by decide) xs_10 rfl dX2_tryGapsOf_44 ?_
        refine x_getr (Or.inr fl_X2_92) C hP (by decide) xs_8 rfl dX2_tryGapsOf_47 ?_
        refine lv_iload_n hx hb dX2_tryGapsOf_50 rfl (lv_at hl 1 rfl) ?_
        refine y_ald C hP (by decide) xs_44 dX2_tryGapsOf_51 h (fun h => ?_)
        refine y_let h (fun x8 h => ?_)
        refine lv_istore_n (lv' := [(3, .int x8), (0, .ref (a 10)), (1, .int v1), (2, .int v2), (4, .int v4)]) hx hb dX2_tryGapsOf_52 rfl hl (by decide) rfl (fun ls hl => ?_)
        refine lv_aload_n hx hb dX2_tryGapsOf_53 rfl (lv_at hl 1 rfl) ?_
        refine lv_iload_n hx hb dX2_tryGapsOf_54 rfl (lv_at hl 2 rfl) ?_
        refine lv_iconst (v := 1) hx hb dX2_tryGapsOf_55 (by decide) ?_
        refine lv_iadd hx hb dX2_tryGapsOf_56 ?_
        refine lv_iload_n hx hb dX2_tryGapsOf_57 rfl (lv_at hl 3 rfl) ?_
        refine lv_iload hx hb dX2_tryGapsOf_58 (lv_at hl 4 rfl) ?_
        refine lv_iadd hx hb dX2_tryGapsOf_60 ?_
        obtain ⟨z_, g10, L11, hf12, h⟩ := cb_some h
        refine x_callVv (rest := []) li_X2_60 C (rX2_tryFrom_10_L4 l G H.size b a fu g4 L5 (v1 + 1) (v2 + v4) z_ (g10, L11) hf12) (kR rfl) hP hD hS 10 2 rfl (zat (by decide) xs_10) rfl hl.1 rfl (Nat.le_of_ble_eq_true rfl) dX2_tryGapsOf_61 (fun u_ H locs e_ hP hD hS => ?_)
        have hP : va_P G.1 vwCl (zw G (XS b) 105 a g10 L11) H := hP
        have hD : va_D A (zw G (XS b) 105 a g10 L11) := hD
        exact J64 x8 v4 g10 L11 H locs ls h hP hD hS (lv_sub hl [1, 2, 3, 0, 4] rfl)
  exact lp5 p1 p2 fu ((-1), 0, g, L) h H locs ls hP hD hS (lv_sub hl [2, 3, 4, 1, 0] rfl)
set_option maxHeartbeats 4000000 in
set_option maxRecDepth 100000 in
theorem rX2_tryFrom_10_L5 (l : Launch) (G : kG) (sz : Nat) (b : Nat) (a : Nat → Nat) (fu : Nat) (g : Nat → Nat → Int32) (L : Nat → Nat → Int64) (p1 : Int32) (p2 : Int32) (res : Unit) (s9 : zS) (h : fX2_tryFrom_10 fu 5 p1 p2 g L = some (res, s9)) : kM l yX2_tryFrom cX2_tryFrom 3 none { frames := 19, cells := 0, slots := 0, locals := 411 } G [.ref (a 10), .int p1, .int p2] (zw G (XS b) 105 a g L) sz (kQv G (S := Unit) (fun _ => True) (fun _ => zw G (XS b) 105 a s9.1 s9.2)) := by
  refine kM.of (by decide) (Nat.le_of_ble_eq_true rfl) ?_
  intro p e s m below meth c A ls H C hr hlk hnm hP hD hS hl
  have C : kC G p s m c cX2_tryFrom 3 RX2 A := C
  have hx := C.1
  have hb := C.2.1
  have hl : lv_has ls 3 [(0, .ref (a 10)), (1, .int p1), (2, .int p2)] := hl
  obtain ⟨locs, hlocs⟩ : ∃ q : List Loc, q = [] := ⟨_, rfl⟩
  rw [← hlocs] at hS
  rw [← hlocs]
  rw [fX2_tryFrom_10_succ] at h
  unfold fX2_tryFrom_10B at h
  refine lv_iload_n hx hb dX2_tryFrom_0 rfl (lv_at hl 2 rfl) ?_
  refine lv_aload_n hx hb dX2_tryFrom_1 rfl (lv_at hl 0 rfl) ?_
  refine x_getv (v := .int (g 10 8)) (Or.inl fl_X2_39) C hP (by decide) xs_10 rfl dX2_tryFrom_2 ?_
  refine lv_icmp_lt (x := p2) (y := (g 10 8)) (tgt := 9) hx hb dX2_tryFrom_5 (by decide) (fun c1 => ?_) (fun c1 => ?_)
  ·
    have h := ite_t c1 h
    refine lv_iload_n hx hb dX2_tryFrom_9 rfl (lv_at hl 1 rfl) ?_
    refine lv_aload_n hx hb dX2_tryFrom_10 rfl (lv_at hl 0 rfl) ?_
    refine x_getv (v := .int (g 10 5)) (Or.inl fl_X2_36) C hP (by decide) xs_10 rfl dX2_tryFrom_11 ?_
    have J89 : ∀ (g : Nat → Nat → Int32) (L : Nat → Nat → Int64) (H : Heap) (locs : List Loc) (ls : Array Slot), fX2_tryFrom_10_p89 fu (fX2_tryFrom_10 fu 4) g L = some (res, s9) → va_P G.1 vwCl (zw G (XS b) 105 a g L) H → va_D A (zw G (XS b) 105 a g L) → va_S A s.heap H locs → lv_has ls 3 [] → W p l e { frames := 19, cells := 0, slots := 0, locals := 411 } s m [.ref (a 10), .int p1, .int p2].toArray below meth c H locs 0 0 (MQ below ((kQv G (S := Unit) (fun _ => True) (fun _ => zw G (XS b) 105 a s9.1 s9.2)) A) [.ref (a 10), .int p1, .int p2].toArray s 0 0 A) (F0 m 89 ls []) := by
      intro g L H locs ls h hP hD hS hl
      unfold fX2_tryFrom_10_p89 at h
      exact y_vret C hr hlk hP hD hS h (Nat.le_of_ble_eq_true rfl) (Nat.le_of_ble_eq_true rfl) dX2_tryFrom_89
    have J23 : ∀ (v2 : Int32) (g : Nat → Nat → Int32) (L : Nat → Nat → Int64) (H : Heap) (locs : List Loc) (ls : Array Slot), fX2_tryFrom_10_p23 fu (fX2_tryFrom_10 fu 4) v2 g L = some (res, s9) → va_P G.1 vwCl (zw G (XS b) 105 a g L) H → va_D A (zw G (XS b) 105 a g L) → va_S A s.heap H locs → lv_has ls 3 [(0, .ref (a 10)), (2, .int v2)] → W p l e { frames := 19, cells := 0, slots := 0, locals := 411 } s m [.ref (a 10), .int p1, .int p2].toArray below meth c H locs 0 0 (MQ below ((kQv G (S := Unit) (fun _ => True) (fun _ => zw G (XS b) 105 a s9.1 s9.2)) A) [.ref (a 10), .int p1, .int p2].toArray s 0 0 A) (F0 m 23 ls []) := by
      intro v2 g L H locs ls h hP hD hS hl
      unfold fX2_tryFrom_10_p23 at h
      refine lv_aload_n hx hb dX2_tryFrom_23 rfl (lv_at hl 0 rfl) ?_
      refine lv_iload_n hx hb dX2_tryFrom_24 rfl (lv_at hl 1 rfl) ?_
      obtain ⟨z_, g3, L4, hf5, h⟩ := cb_some h
      refine x_callVv (rest := []) li_X2_82 C (rX2_takeIfOnTime_10 l G H.size b a fu g L v2 z_ (g3, L4) hf5) (kR rfl) hP hD hS 10 2 rfl (zat (by decide) xs_10) rfl hl.1 rfl (Nat.le_of_ble_eq_true rfl) dX2_tryFrom_25 (fun u_ H locs e_ hP hD hS => ?_)
      have hP : va_P G.1 vwCl (zw G (XS b) 105 a g3 L4) H := hP
      have hD : va_D A (zw G (XS b) 105 a g3 L4) := hD
      refine lv_goto (tgt := 89) hx hb dX2_tryFrom_28 (by decide) ?_
      exact J89 g3 L4 H locs ls h hP hD hS (lv_sub hl [] rfl)
    refine lv_icmp_gt (x := p1) (y := (g 10 5)) (tgt := 23) hx hb dX2_tryFrom_14 (by decide) (fun c6 => ?_) (fun c6 => ?_)
    ·
      have h := ite_t c6 h
      exact J23 p2 g L H locs ls h hP hD hS (lv_sub hl [0, 2] rfl)
    ·
      have h := ite_e c6 h
      refine lv_iload_n hx hb dX2_tryFrom_17 rfl (lv_at hl 1 rfl) ?_
      refine lv_bipush (v := 12) hx hb dX2_tryFrom_18 (by decide) ?_
      refine lv_icmp_lt (x := p1) (y := 12) (tgt := 31) hx hb dX2_tryFrom_20 (by decide) (fun c7 => ?_) (fun c7 => ?_)
      ·
        have h := ite_t c7 h
        refine lv_aload_n hx hb dX2_tryFrom_31 rfl (lv_at hl 0 rfl) ?_
        refine x_getv (v := .int (g 10 7)) (Or.inl fl_X2_64) C hP (by decide) xs_10 rfl dX2_tryFrom_32 ?_
        refine lv_iload_n hx hb dX2_tryFrom_35 rfl (lv_at hl 1 rfl) ?_
        obtain ⟨z_, g9, L10, hf11, h⟩ := cb_some h
        refine x_callSi (rest := []) li_X2_56 C (rX2_isIn l G H.size b a fu g L (g 10 7) p1 z_ (g9, L10) hf11) (kR rfl) hP hD hS rfl hl.1 rfl (Nat.le_of_ble_eq_true rfl) dX2_tryFrom_36 (fun x8 u_ H locs e_ hP hD hS => ?_)
        have e_ : x8 = z_ := e_
        subst e_
        have hP : va_P G.1 vwCl (zw G (XS b) 105 a g9 L10) H := hP
        have hD : va_D A (zw G (XS b) 105 a g9 L10) := hD
        refine lv_if_ne (x := x8) (tgt := 53) hx hb dX2_tryFrom_39 (by decide) (fun c12 => ?_) (fun c12 => ?_)
        ·
          have h := ite_e c12 h
          refine lv_aload_n hx hb dX2_tryFrom_53 rfl (lv_at hl 0 rfl) ?_
          refine x_getv (v := .int (g9 10 4)) (Or.inl fl_X2_29) C hP (by decide) xs_10 rfl dX2_tryFrom_54 ?_
          refine lv_iload_n hx hb dX2_tryFrom_57 rfl (lv_at hl 1 rfl) ?_
          obtain ⟨z_, g14, L15, hf16, h⟩ := cb_some h
          refine x_callSi (rest := []) li_X2_56 C (rX2_isIn l G H.size b a fu g9 L10 (g9 10 4) p1 z_ (g14, L15) hf16) (kR rfl) hP hD hS rfl hl.1 rfl (Nat.le_of_ble_eq_true rfl) dX2_tryFrom_58 (fun x13 u_ H locs e_ hP hD hS => ?_)
          have e_ : x13 = z_ := e_
          subst e_
          have hP : va_P G.1 vwCl (zw G (XS b) 105 a g14 L15) H := hP
          have hD : va_D A (zw G (XS b) 105 a g14 L15) := hD
          refine lv_if_ne (x := x13) (tgt := 83) hx hb dX2_tryFrom_61 (by decide) (fun c17 => ?_) (fun c17 => ?_)
          ·
            have h := ite_e c17 h
            refine lv_aload_n hx hb dX2_tryFrom_83 rfl (lv_at hl 0 rfl) ?_
            refine lv_iload_n hx hb dX2_tryFrom_84 rfl (lv_at hl 1 rfl) ?_
            refine lv_iload_n hx hb dX2_tryFrom_85 rfl (lv_at hl 2 rfl) ?_
            obtain ⟨z_, g19, L20, hf21, h⟩ := cb_some h
            refine x_callVv (rest := []) li_X2_89 C (rX2_tryGapsOf_10_L5 l G H.size b a fu g14 L15 p1 p2 z_ (g19, L20) hf21) (kR rfl) hP hD hS 10 2 rfl (zat (by decide) xs_10) rfl hl.1 rfl (Nat.le_of_ble_eq_true rfl) dX2_tryFrom_86 (fun u_ H locs e_ hP hD hS => ?_)
            have hP : va_P G.1 vwCl (zw G (XS b) 105 a g19 L20) H := hP
            have hD : va_D A (zw G (XS b) 105 a g19 L20) := hD
            exact J89 g19 L20 H locs ls h hP hD hS (lv_sub hl [] rfl)
          ·
            have h := ite_t c17 h
            refine lv_aload_n hx hb dX2_tryFrom_64 rfl (lv_at hl 0 rfl) ?_
            refine x_getr (Or.inl fl_X2_18) C hP (by decide) xs_10 rfl dX2_tryFrom_65 ?_
            refine lv_iload_n hx hb dX2_tryFrom_68 rfl (lv_at hl 1 rfl) ?_
            obtain ⟨z_, g23, L24, hf25, h⟩ := cb_some h
            refine x_callNv (rest := []) li_X2_86 C (rX1_runOne_8 l G H.size b a fu g14 L15 p1 z_ (g23, L24) hf25) (kR rfl) hP hD hS 8 1 rfl (zat (by decide) xs_8) rfl hl.1 rfl (Nat.le_of_ble_eq_true rfl) dX2_tryFrom_69 (fun u_ H locs e_ hP hD hS => ?_)
            have hP : va_P G.1 vwCl (zw G (XS b) 105 a g23 L24) H := hP
            have hD : va_D A (zw G (XS b) 105 a g23 L24) := hD
            refine lv_aload_n hx hb dX2_tryFrom_72 rfl (lv_at hl 0 rfl) ?_
            refine lv_iload_n hx hb dX2_tryFrom_73 rfl (lv_at hl 1 rfl) ?_
            refine lv_iconst (v := 1) hx hb dX2_tryFrom_74 (by decide) ?_
            refine lv_iadd hx hb dX2_tryFrom_75 ?_
            refine lv_iload_n hx hb dX2_tryFrom_76 rfl (lv_at hl 2 rfl) ?_
            obtain ⟨z_, g27, L28, hf29, h⟩ := cb_some h
            refine x_callVv (rest := []) li_X2_60 C (rX2_tryFrom_10_L4 l G H.size b a fu g23 L24 (p1 + 1) p2 z_ (g27, L28) hf29) (kR rfl) hP hD hS 10 2 rfl (zat (by decide) xs_10) rfl hl.1 rfl (Nat.le_of_ble_eq_true rfl) dX2_tryFrom_77 (fun u_ H locs e_ hP hD hS => ?_)
            have hP : va_P G.1 vwCl (zw G (XS b) 105 a g27 L28) H := hP
            have hD : va_D A (zw G (XS b) 105 a g27 L28) := hD
            refine lv_goto (tgt := 89) hx hb dX2_tryFrom_80 (by decide) ?_
            exact J89 g27 L28 H locs ls h hP hD hS (lv_sub hl [] rfl)
        ·
          have h := ite_t c12 h
          refine lv_aload_n hx hb dX2_tryFrom_42 rfl (lv_at hl 0 rfl) ?_
          refine lv_iload_n hx hb dX2_tryFrom_43 rfl (lv_at hl 1 rfl) ?_
          refine lv_iconst (v := 1) hx hb dX2_tryFrom_44 (by decide) ?_
          refine lv_iadd hx hb dX2_tryFrom_45 ?_
          refine lv_iload_n hx hb dX2_tryFrom_46 rfl (lv_at hl 2 rfl) ?_
          obtain ⟨z_, g31, L32, hf33, h⟩ := cb_some h
          refine x_callVv (rest := []) li_X2_60 C (rX2_tryFrom_10_L4 l G H.size b a fu g9 L10 (p1 + 1) p2 z_ (g31, L32) hf33) (kR rfl) hP hD hS 10 2 rfl (zat (by decide) xs_10) rfl hl.1 rfl (Nat.le_of_ble_eq_true rfl) dX2_tryFrom_47 (fun u_ H locs e_ hP hD hS => ?_)
          have hP : va_P G.1 vwCl (zw G (XS b) 105 a g31 L32) H := hP
          have hD : va_D A (zw G (XS b) 105 a g31 L32) := hD
          refine lv_goto (tgt := 89) hx hb dX2_tryFrom_50 (by decide) ?_
          exact J89 g31 L32 H locs ls h hP hD hS (lv_sub hl [] rfl)
      ·
        have h := ite_e c7 h
        exact J23 p2 g L H locs ls h hP hD hS (lv_sub hl [0, 2] rfl)
  ·
    have h := ite_e c1 h
    exact y_vret C hr hlk hP hD hS h (Nat.le_of_ble_eq_true rfl) (Nat.le_of_ble_eq_true rfl) dX2_tryFrom_8
set_option maxHeartbeats 4000000 in
set_option maxRecDepth 100000 in
theorem rX2_tryGapsOf_10_L6 (l : Launch) (G : kG) (sz : Nat) (b : Nat) (a : Nat → Nat) (fu : Nat) (g : Nat → Nat → Int32) (L : Nat → Nat → Int64) (p1 : Int32) (p2 : Int32) (res : Unit) (s9 : zS) (h : fX2_tryGapsOf_10 fu (fX2_tryFrom_10 fu 5) p1 p2 g L = some (res, s9)) : kM l yX2_tryGapsOf cX2_tryGapsOf 5 none { frames := 20, cells := 0, slots := 0, locals := 433 } G [.ref (a 10), .int p1, .int p2] (zw G (XS b) 105 a g L) sz (kQv G (S := Unit) (fun _ => True) (fun _ => zw G (XS b) 105 a s9.1 s9.2)) := by
  refine kM.of (by decide) (Nat.le_of_ble_eq_true rfl) ?_
  intro p e s m below meth c A ls H C hr hlk hnm hP hD hS hl
  have C : kC G p s m c cX2_tryGapsOf 5 RX2 A := C
  have hx := C.1
  have hb := C.2.1
  have hl : lv_has ls 5 [(0, .ref (a 10)), (1, .int p1), (2, .int p2)] := hl
  obtain ⟨locs, hlocs⟩ : ∃ q : List Loc, q = [] := ⟨_, rfl⟩
  rw [← hlocs] at hS
  rw [← hlocs]
  unfold fX2_tryGapsOf_10 at h
  refine lv_iconst (v := -1) hx hb dX2_tryGapsOf_0 (by decide) ?_
  refine lv_istore_n (lv' := [(3, .int (-1)), (0, .ref (a 10)), (1, .int p1), (2, .int p2)]) hx hb dX2_tryGapsOf_1 rfl hl (by decide) rfl (fun ls hl => ?_)
  refine lv_iconst (v := 0) hx hb dX2_tryGapsOf_2 (by decide) ?_
  refine lv_istore (lv' := [(4, .int 0), (3, .int (-1)), (0, .ref (a 10)), (1, .int p1), (2, .int p2)]) hx hb dX2_tryGapsOf_3 hl (by decide) rfl (fun ls hl => ?_)
  have lp5 : ∀ (v1 : Int32) (v2 : Int32), ∀ (n : Nat) (v : Int32 × Int32 × (Nat → Nat → Int32) × (Nat → Nat → Int64)), whileK (fun k v => fX2_tryGapsOf_10_s5 fu (fX2_tryFrom_10 fu 5) v1 v2 k v.1 v.2.1 v.2.2.1 v.2.2.2) n v = some (res, s9) → ∀ (H : Heap) (locs : List Loc) (ls : Array Slot), va_P G.1 vwCl (zw G (XS b) 105 a (v.2.2.1) (v.2.2.2)) H → va_D A (zw G (XS b) 105 a (v.2.2.1) (v.2.2.2)) → va_S A s.heap H locs → lv_has ls 5 [(0, .ref (a 10)), (1, .int v1), (2, .int v2), (3, .int (v.1)), (4, .int (v.2.1))] → W p l e { frames := 20, cells := 0, slots := 0, locals := 433 } s m [.ref (a 10), .int p1, .int p2].toArray below meth c H locs 0 0 (MQ below ((kQv G (S := Unit) (fun _ => True) (fun _ => zw G (XS b) 105 a s9.1 s9.2)) A) [.ref (a 10), .int p1, .int p2].toArray s 0 0 A) (F0 m 5 ls []) := by
    intro v1 v2
    refine while_ind (fun k5 ih5 v h => ?_)
    obtain ⟨v3, v4, g, L⟩ := v
    intro H locs ls hP hD hS hl
    have h : fX2_tryGapsOf_10_s5 fu (fX2_tryFrom_10 fu 5) v1 v2 k5 v3 v4 g L = some (res, s9) := h
    have hP : va_P G.1 vwCl (zw G (XS b) 105 a g L) H := hP
    have hD : va_D A (zw G (XS b) 105 a g L) := hD
    have hl : lv_has ls 5 [(0, .ref (a 10)), (1, .int v1), (2, .int v2), (3, .int v3), (4, .int v4)] := hl
    show W p l e { frames := 20, cells := 0, slots := 0, locals := 433 } s m [.ref (a 10), .int p1, .int p2].toArray below meth c H locs 0 0 (MQ below ((kQv G (S := Unit) (fun _ => True) (fun _ => zw G (XS b) 105 a s9.1 s9.2)) A) [.ref (a 10), .int p1, .int p2].toArray s 0 0 A) (F0 m 5 ls [])
    unfold fX2_tryGapsOf_10_s5 at h
    refine lv_iload hx hb dX2_tryGapsOf_5 (lv_at hl 4 rfl) ?_
    refine lv_iconst (v := 4) hx hb dX2_tryGapsOf_7 (by decide) ?_
    refine lv_icmp_gt (x := v4) (y := 4) (tgt := 70) hx hb dX2_tryGapsOf_8 (by decide) (fun c1 => ?_) (fun c1 => ?_)
    ·
      have h := ite_t c1 h
      exact y_vret C hr hlk hP hD hS h (Nat.le_of_ble_eq_true rfl) (Nat.le_of_ble_eq_true rfl) dX2_tryGapsOf_70
    ·
      have h := ite_e c1 h
      refine lv_aload_n hx hb dX2_tryGapsOf_11 rfl (lv_at hl 0 rfl) ?_
      refine x_getr (Or.inl fl_X2_28) C hP (by decide) xs_10 rfl dX2_tryGapsOf_12 ?_
      refine x_getr (Or.inr fl_X2_45) C hP (by decide) xs_6 rfl dX2_tryGapsOf_15 ?_
      refine lv_iload_n hx hb dX2_tryGapsOf_18 rfl (lv_at hl 1 rfl) ?_
      refine lv_iload hx hb dX2_tryGapsOf_19 (lv_at hl 4 rfl) ?_
      refine y_ast C hP hD hS (by decide) xs_26 dX2_tryGapsOf_21 h (fun g2 H locs h hP hD hS => ?_)
      refine lv_aload_n hx hb dX2_tryGapsOf_22 rfl (lv_at hl 0 rfl) ?_
      refine x_getr (Or.inl fl_X2_18) C hP (by decide) xs_10 rfl dX2_tryGapsOf_23 ?_
      refine lv_iload_n hx hb dX2_tryGapsOf_26 rfl (lv_at hl 1 rfl) ?_
      obtain ⟨z_, g4, L5, hf6, h⟩ := cb_some h
      refine x_callNv (rest := []) li_X2_86 C (rX1_runOne_8 l G H.size b a fu g2 L v1 z_ (g4, L5) hf6) (kR rfl) hP hD hS 8 1 rfl (zat (by decide) xs_8) rfl hl.1 rfl (Nat.le_of_ble_eq_true rfl) dX2_tryGapsOf_27 (fun u_ H locs e_ hP hD hS => ?_)
      have hP : va_P G.1 vwCl (zw G (XS b) 105 a g4 L5) H := hP
      have hD : va_D A (zw G (XS b) 105 a g4 L5) := hD
      refine lv_aload_n hx hb dX2_tryGapsOf_30 rfl (lv_at hl 0 rfl) ?_
      refine x_getr (Or.inl fl_X2_18) C hP (by decide) xs_10 rfl dX2_tryGapsOf_31 ?_
      refine x_getr (Or.inr fl_X2_92) C hP (by decide) xs_8 rfl dX2_tryGapsOf_34 ?_
      refine lv_iload_n hx hb dX2_tryGapsOf_37 rfl (lv_at hl 1 rfl) ?_
      refine y_ald C hP (by decide) xs_44 dX2_tryGapsOf_38 h (fun h => ?_)
      refine lv_iload_n hx hb dX2_tryGapsOf_39 rfl (lv_at hl 3 rfl) ?_
      have J64 : ∀ (v3 : Int32) (v4 : Int32) (g : Nat → Nat → Int32) (L : Nat → Nat → Int64) (H : Heap) (locs : List Loc) (ls : Array Slot), fX2_tryGapsOf_10_p64 fu (fX2_tryFrom_10 fu 5) k5 v1 v2 v3 v4 g L = some (res, s9) → va_P G.1 vwCl (zw G (XS b) 105 a g L) H → va_D A (zw G (XS b) 105 a g L) → va_S A s.heap H locs → lv_has ls 5 [(0, .ref (a 10)), (1, .int v1), (2, .int v2), (3, .int v3), (4, .int v4)] → W p l e { frames := 20, cells := 0, slots := 0, locals := 433 } s m [.ref (a 10), .int p1, .int p2].toArray below meth c H locs 0 0 (MQ below ((kQv G (S := Unit) (fun _ => True) (fun _ => zw G (XS b) 105 a s9.1 s9.2)) A) [.ref (a 10), .int p1, .int p2].toArray s 0 0 A) (F0 m 64 ls []) := by
        intro v3 v4 g L H locs ls h hP hD hS hl
        unfold fX2_tryGapsOf_10_p64 at h
        refine lv_iinc (v := (v4 + 1)) (lv' := [(4, .int (v4 + 1)), (0, .ref (a 10)), (1, .int v1), (2, .int v2), (3, .int v3)]) hx hb dX2_tryGapsOf_64 hl (k := 4) rfl rfl (by decide) rfl (fun ls hl => ?_)
        refine lv_goto (tgt := 5) hx hb dX2_tryGapsOf_67 (by decide) ?_
        exact ih5 (v3, (v4 + 1), g, L) h H locs ls hP hD hS (lv_sub hl [1, 2, 3, 4, 0] rfl)
      refine lv_icmp_eq (x := (g4 44 (Int32.toNatClampNeg v1))) (y := v3) (tgt := 64) hx hb dX2_tryGapsOf_40 (by decide) (fun c7 => ?_) (fun c7 => ?_)
      ·
        have h := ite_t c7 h
        exact J64 v3 v4 g4 L5 H locs ls h hP hD hS (lv_sub hl [0, 1, 2, 3, 4] rfl)
      ·
        have h := ite_e c7 h
        refine lv_aload_n hx hb dX2_tryGapsOf_43 rfl (lv_at hl 0 rfl) ?_
        refine x_getr (Or.inl fl_X2_18) C hP (by decide) xs_10 rfl dX2_tryGapsOf_44 ?_
        refine x_getr (Or.inr fl_X2_92) C hP (by decide) xs_8 rfl dX2_tryGapsOf_47 ?_
        refine lv_iload_n hx hb dX2_tryGapsOf_50 rfl (lv_at hl 1 rfl) ?_
        refine y_ald C hP (by decide) xs_44 dX2_tryGapsOf_51 h (fun h => ?_)
        refine y_let h (fun x8 h => ?_)
        refine lv_istore_n (lv' := [(3, .int x8), (0, .ref (a 10)), (1, .int v1), (2, .int v2), (4, .int v4)]) hx hb dX2_tryGapsOf_52 rfl hl (by decide) rfl (fun ls hl => ?_)
        refine lv_aload_n hx hb dX2_tryGapsOf_53 rfl (lv_at hl 1 rfl) ?_
        refine lv_iload_n hx hb dX2_tryGapsOf_54 rfl (lv_at hl 2 rfl) ?_
        refine lv_iconst (v := 1) hx hb dX2_tryGapsOf_55 (by decide) ?_
        refine lv_iadd hx hb dX2_tryGapsOf_56 ?_
        refine lv_iload_n hx hb dX2_tryGapsOf_57 rfl (lv_at hl 3 rfl) ?_
        refine lv_iload hx hb dX2_tryGapsOf_58 (lv_at hl 4 rfl) ?_
        refine lv_iadd hx hb dX2_tryGapsOf_60 ?_
        obtain ⟨z_, g10, L11, hf12, h⟩ := cb_some h
        refine x_callVv (rest := []) li_X2_60 C (rX2_tryFrom_10_L5 l G H.size b a fu g4 L5 (v1 + 1) (v2 + v4) z_ (g10, L11) hf12) (kR rfl) hP hD hS 10 2 rfl (zat (by decide) xs_10) rfl hl.1 rfl (Nat.le_of_ble_eq_true rfl) dX2_tryGapsOf_61 (fun u_ H locs e_ hP hD hS => ?_)
        have hP : va_P G.1 vwCl (zw G (XS b) 105 a g10 L11) H := hP
        have hD : va_D A (zw G (XS b) 105 a g10 L11) := hD
        exact J64 x8 v4 g10 L11 H locs ls h hP hD hS (lv_sub hl [1, 2, 3, 0, 4] rfl)
  exact lp5 p1 p2 fu ((-1), 0, g, L) h H locs ls hP hD hS (lv_sub hl [2, 3, 4, 1, 0] rfl)
set_option maxHeartbeats 4000000 in
set_option maxRecDepth 100000 in
theorem rX2_tryFrom_10_L6 (l : Launch) (G : kG) (sz : Nat) (b : Nat) (a : Nat → Nat) (fu : Nat) (g : Nat → Nat → Int32) (L : Nat → Nat → Int64) (p1 : Int32) (p2 : Int32) (res : Unit) (s9 : zS) (h : fX2_tryFrom_10 fu 6 p1 p2 g L = some (res, s9)) : kM l yX2_tryFrom cX2_tryFrom 3 none { frames := 21, cells := 0, slots := 0, locals := 457 } G [.ref (a 10), .int p1, .int p2] (zw G (XS b) 105 a g L) sz (kQv G (S := Unit) (fun _ => True) (fun _ => zw G (XS b) 105 a s9.1 s9.2)) := by
  refine kM.of (by decide) (Nat.le_of_ble_eq_true rfl) ?_
  intro p e s m below meth c A ls H C hr hlk hnm hP hD hS hl
  have C : kC G p s m c cX2_tryFrom 3 RX2 A := C
  have hx := C.1
  have hb := C.2.1
  have hl : lv_has ls 3 [(0, .ref (a 10)), (1, .int p1), (2, .int p2)] := hl
  obtain ⟨locs, hlocs⟩ : ∃ q : List Loc, q = [] := ⟨_, rfl⟩
  rw [← hlocs] at hS
  rw [← hlocs]
  rw [fX2_tryFrom_10_succ] at h
  unfold fX2_tryFrom_10B at h
  refine lv_iload_n hx hb dX2_tryFrom_0 rfl (lv_at hl 2 rfl) ?_
  refine lv_aload_n hx hb dX2_tryFrom_1 rfl (lv_at hl 0 rfl) ?_
  refine x_getv (v := .int (g 10 8)) (Or.inl fl_X2_39) C hP (by decide) xs_10 rfl dX2_tryFrom_2 ?_
  refine lv_icmp_lt (x := p2) (y := (g 10 8)) (tgt := 9) hx hb dX2_tryFrom_5 (by decide) (fun c1 => ?_) (fun c1 => ?_)
  ·
    have h := ite_t c1 h
    refine lv_iload_n hx hb dX2_tryFrom_9 rfl (lv_at hl 1 rfl) ?_
    refine lv_aload_n hx hb dX2_tryFrom_10 rfl (lv_at hl 0 rfl) ?_
    refine x_getv (v := .int (g 10 5)) (Or.inl fl_X2_36) C hP (by decide) xs_10 rfl dX2_tryFrom_11 ?_
    have J89 : ∀ (g : Nat → Nat → Int32) (L : Nat → Nat → Int64) (H : Heap) (locs : List Loc) (ls : Array Slot), fX2_tryFrom_10_p89 fu (fX2_tryFrom_10 fu 5) g L = some (res, s9) → va_P G.1 vwCl (zw G (XS b) 105 a g L) H → va_D A (zw G (XS b) 105 a g L) → va_S A s.heap H locs → lv_has ls 3 [] → W p l e { frames := 21, cells := 0, slots := 0, locals := 457 } s m [.ref (a 10), .int p1, .int p2].toArray below meth c H locs 0 0 (MQ below ((kQv G (S := Unit) (fun _ => True) (fun _ => zw G (XS b) 105 a s9.1 s9.2)) A) [.ref (a 10), .int p1, .int p2].toArray s 0 0 A) (F0 m 89 ls []) := by
      intro g L H locs ls h hP hD hS hl
      unfold fX2_tryFrom_10_p89 at h
      exact y_vret C hr hlk hP hD hS h (Nat.le_of_ble_eq_true rfl) (Nat.le_of_ble_eq_true rfl) dX2_tryFrom_89
    have J23 : ∀ (v2 : Int32) (g : Nat → Nat → Int32) (L : Nat → Nat → Int64) (H : Heap) (locs : List Loc) (ls : Array Slot), fX2_tryFrom_10_p23 fu (fX2_tryFrom_10 fu 5) v2 g L = some (res, s9) → va_P G.1 vwCl (zw G (XS b) 105 a g L) H → va_D A (zw G (XS b) 105 a g L) → va_S A s.heap H locs → lv_has ls 3 [(0, .ref (a 10)), (2, .int v2)] → W p l e { frames := 21, cells := 0, slots := 0, locals := 457 } s m [.ref (a 10), .int p1, .int p2].toArray below meth c H locs 0 0 (MQ below ((kQv G (S := Unit) (fun _ => True) (fun _ => zw G (XS b) 105 a s9.1 s9.2)) A) [.ref (a 10), .int p1, .int p2].toArray s 0 0 A) (F0 m 23 ls []) := by
      intro v2 g L H locs ls h hP hD hS hl
      unfold fX2_tryFrom_10_p23 at h
      refine lv_aload_n hx hb dX2_tryFrom_23 rfl (lv_at hl 0 rfl) ?_
      refine lv_iload_n hx hb dX2_tryFrom_24 rfl (lv_at hl 1 rfl) ?_
      obtain ⟨z_, g3, L4, hf5, h⟩ := cb_some h
      refine x_callVv (rest := []) li_X2_82 C (rX2_takeIfOnTime_10 l G H.size b a fu g L v2 z_ (g3, L4) hf5) (kR rfl) hP hD hS 10 2 rfl (zat (by decide) xs_10) rfl hl.1 rfl (Nat.le_of_ble_eq_true rfl) dX2_tryFrom_25 (fun u_ H locs e_ hP hD hS => ?_)
      have hP : va_P G.1 vwCl (zw G (XS b) 105 a g3 L4) H := hP
      have hD : va_D A (zw G (XS b) 105 a g3 L4) := hD
      refine lv_goto (tgt := 89) hx hb dX2_tryFrom_28 (by decide) ?_
      exact J89 g3 L4 H locs ls h hP hD hS (lv_sub hl [] rfl)
    refine lv_icmp_gt (x := p1) (y := (g 10 5)) (tgt := 23) hx hb dX2_tryFrom_14 (by decide) (fun c6 => ?_) (fun c6 => ?_)
    ·
      have h := ite_t c6 h
      exact J23 p2 g L H locs ls h hP hD hS (lv_sub hl [0, 2] rfl)
    ·
      have h := ite_e c6 h
      refine lv_iload_n hx hb dX2_tryFrom_17 rfl (lv_at hl 1 rfl) ?_
      refine lv_bipush (v := 12) hx hb dX2_tryFrom_18 (by decide) ?_
      refine lv_icmp_lt (x := p1) (y := 12) (tgt := 31) hx hb dX2_tryFrom_20 (by decide) (fun c7 => ?_) (fun c7 => ?_)
      ·
        have h := ite_t c7 h
        refine lv_aload_n hx hb dX2_tryFrom_31 rfl (lv_at hl 0 rfl) ?_
        refine x_getv (v := .int (g 10 7)) (Or.inl fl_X2_64) C hP (by decide) xs_10 rfl dX2_tryFrom_32 ?_
        refine lv_iload_n hx hb dX2_tryFrom_35 rfl (lv_at hl 1 rfl) ?_
        obtain ⟨z_, g9, L10, hf11, h⟩ := cb_some h
        refine x_callSi (rest := []) li_X2_56 C (rX2_isIn l G H.size b a fu g L (g 10 7) p1 z_ (g9, L10) hf11) (kR rfl) hP hD hS rfl hl.1 rfl (Nat.le_of_ble_eq_true rfl) dX2_tryFrom_36 (fun x8 u_ H locs e_ hP hD hS => ?_)
        have e_ : x8 = z_ := e_
        subst e_
        have hP : va_P G.1 vwCl (zw G (XS b) 105 a g9 L10) H := hP
        have hD : va_D A (zw G (XS b) 105 a g9 L10) := hD
        refine lv_if_ne (x := x8) (tgt := 53) hx hb dX2_tryFrom_39 (by decide) (fun c12 => ?_) (fun c12 => ?_)
        ·
          have h := ite_e c12 h
          refine lv_aload_n hx hb dX2_tryFrom_53 rfl (lv_at hl 0 rfl) ?_
          refine x_getv (v := .int (g9 10 4)) (Or.inl fl_X2_29) C hP (by decide) xs_10 rfl dX2_tryFrom_54 ?_
          refine lv_iload_n hx hb dX2_tryFrom_57 rfl (lv_at hl 1 rfl) ?_
          obtain ⟨z_, g14, L15, hf16, h⟩ := cb_some h
          refine x_callSi (rest := []) li_X2_56 C (rX2_isIn l G H.size b a fu g9 L10 (g9 10 4) p1 z_ (g14, L15) hf16) (kR rfl) hP hD hS rfl hl.1 rfl (Nat.le_of_ble_eq_true rfl) dX2_tryFrom_58 (fun x13 u_ H locs e_ hP hD hS => ?_)
          have e_ : x13 = z_ := e_
          subst e_
          have hP : va_P G.1 vwCl (zw G (XS b) 105 a g14 L15) H := hP
          have hD : va_D A (zw G (XS b) 105 a g14 L15) := hD
          refine lv_if_ne (x := x13) (tgt := 83) hx hb dX2_tryFrom_61 (by decide) (fun c17 => ?_) (fun c17 => ?_)
          ·
            have h := ite_e c17 h
            refine lv_aload_n hx hb dX2_tryFrom_83 rfl (lv_at hl 0 rfl) ?_
            refine lv_iload_n hx hb dX2_tryFrom_84 rfl (lv_at hl 1 rfl) ?_
            refine lv_iload_n hx hb dX2_tryFrom_85 rfl (lv_at hl 2 rfl) ?_
            obtain ⟨z_, g19, L20, hf21, h⟩ := cb_some h
            refine x_callVv (rest := []) li_X2_89 C (rX2_tryGapsOf_10_L6 l G H.size b a fu g14 L15 p1 p2 z_ (g19, L20) hf21) (kR rfl) hP hD hS 10 2 rfl (zat (by decide) xs_10) rfl hl.1 rfl (Nat.le_of_ble_eq_true rfl) dX2_tryFrom_86 (fun u_ H locs e_ hP hD hS => ?_)
            have hP : va_P G.1 vwCl (zw G (XS b) 105 a g19 L20) H := hP
            have hD : va_D A (zw G (XS b) 105 a g19 L20) := hD
            exact J89 g19 L20 H locs ls h hP hD hS (lv_sub hl [] rfl)
          ·
            have h := ite_t c17 h
            refine lv_aload_n hx hb dX2_tryFrom_64 rfl (lv_at hl 0 rfl) ?_
            refine x_getr (Or.inl fl_X2_18) C hP (by decide) xs_10 rfl dX2_tryFrom_65 ?_
            refine lv_iload_n hx hb dX2_tryFrom_68 rfl (lv_at hl 1 rfl) ?_
            obtain ⟨z_, g23, L24, hf25, h⟩ := cb_some h
            refine x_callNv (rest := []) li_X2_86 C (rX1_runOne_8 l G H.size b a fu g14 L15 p1 z_ (g23, L24) hf25) (kR rfl) hP hD hS 8 1 rfl (zat (by decide) xs_8) rfl hl.1 rfl (Nat.le_of_ble_eq_true rfl) dX2_tryFrom_69 (fun u_ H locs e_ hP hD hS => ?_)
            have hP : va_P G.1 vwCl (zw G (XS b) 105 a g23 L24) H := hP
            have hD : va_D A (zw G (XS b) 105 a g23 L24) := hD
            refine lv_aload_n hx hb dX2_tryFrom_72 rfl (lv_at hl 0 rfl) ?_
            refine lv_iload_n hx hb dX2_tryFrom_73 rfl (lv_at hl 1 rfl) ?_
            refine lv_iconst (v := 1) hx hb dX2_tryFrom_74 (by decide) ?_
            refine lv_iadd hx hb dX2_tryFrom_75 ?_
            refine lv_iload_n hx hb dX2_tryFrom_76 rfl (lv_at hl 2 rfl) ?_
            obtain ⟨z_, g27, L28, hf29, h⟩ := cb_some h
            refine x_callVv (rest := []) li_X2_60 C (rX2_tryFrom_10_L5 l G H.size b a fu g23 L24 (p1 + 1) p2 z_ (g27, L28) hf29) (kR rfl) hP hD hS 10 2 rfl (zat (by decide) xs_10) rfl hl.1 rfl (Nat.le_of_ble_eq_true rfl) dX2_tryFrom_77 (fun u_ H locs e_ hP hD hS => ?_)
            have hP : va_P G.1 vwCl (zw G (XS b) 105 a g27 L28) H := hP
            have hD : va_D A (zw G (XS b) 105 a g27 L28) := hD
            refine lv_goto (tgt := 89) hx hb dX2_tryFrom_80 (by decide) ?_
            exact J89 g27 L28 H locs ls h hP hD hS (lv_sub hl [] rfl)
        ·
          have h := ite_t c12 h
          refine lv_aload_n hx hb dX2_tryFrom_42 rfl (lv_at hl 0 rfl) ?_
          refine lv_iload_n hx hb dX2_tryFrom_43 rfl (lv_at hl 1 rfl) ?_
          refine lv_iconst (v := 1) hx hb dX2_tryFrom_44 (by decide) ?_
          refine lv_iadd hx hb dX2_tryFrom_45 ?_
          refine lv_iload_n hx hb dX2_tryFrom_46 rfl (lv_at hl 2 rfl) ?_
          obtain ⟨z_, g31, L32, hf33, h⟩ := cb_some h
          refine x_callVv (rest := []) li_X2_60 C (rX2_tryFrom_10_L5 l G H.size b a fu g9 L10 (p1 + 1) p2 z_ (g31, L32) hf33) (kR rfl) hP hD hS 10 2 rfl (zat (by decide) xs_10) rfl hl.1 rfl (Nat.le_of_ble_eq_true rfl) dX2_tryFrom_47 (fun u_ H locs e_ hP hD hS => ?_)
          have hP : va_P G.1 vwCl (zw G (XS b) 105 a g31 L32) H := hP
          have hD : va_D A (zw G (XS b) 105 a g31 L32) := hD
          refine lv_goto (tgt := 89) hx hb dX2_tryFrom_50 (by decide) ?_
          exact J89 g31 L32 H locs ls h hP hD hS (lv_sub hl [] rfl)
      ·
        have h := ite_e c7 h
        exact J23 p2 g L H locs ls h hP hD hS (lv_sub hl [0, 2] rfl)
  ·
    have h := ite_e c1 h
    exact y_vret C hr hlk hP hD hS h (Nat.le_of_ble_eq_true rfl) (Nat.le_of_ble_eq_true rfl) dX2_tryFrom_8
set_option maxHeartbeats 4000000 in
set_option maxRecDepth 100000 in
theorem rX2_tryGapsOf_10_L7 (l : Launch) (G : kG) (sz : Nat) (b : Nat) (a : Nat → Nat) (fu : Nat) (g : Nat → Nat → Int32) (L : Nat → Nat → Int64) (p1 : Int32) (p2 : Int32) (res : Unit) (s9 : zS) (h : fX2_tryGapsOf_10 fu (fX2_tryFrom_10 fu 6) p1 p2 g L = some (res, s9)) : kM l yX2_tryGapsOf cX2_tryGapsOf 5 none { frames := 22, cells := 0, slots := 0, locals := 479 } G [.ref (a 10), .int p1, .int p2] (zw G (XS b) 105 a g L) sz (kQv G (S := Unit) (fun _ => True) (fun _ => zw G (XS b) 105 a s9.1 s9.2)) := by
  refine kM.of (by decide) (Nat.le_of_ble_eq_true rfl) ?_
  intro p e s m below meth c A ls H C hr hlk hnm hP hD hS hl
  have C : kC G p s m c cX2_tryGapsOf 5 RX2 A := C
  have hx := C.1
  have hb := C.2.1
  have hl : lv_has ls 5 [(0, .ref (a 10)), (1, .int p1), (2, .int p2)] := hl
  obtain ⟨locs, hlocs⟩ : ∃ q : List Loc, q = [] := ⟨_, rfl⟩
  rw [← hlocs] at hS
  rw [← hlocs]
  unfold fX2_tryGapsOf_10 at h
  refine lv_iconst (v := -1) hx hb dX2_tryGapsOf_0 (by decide) ?_
  refine lv_istore_n (lv' := [(3, .int (-1)), (0, .ref (a 10)), (1, .int p1), (2, .int p2)]) hx hb dX2_tryGapsOf_1 rfl hl (by decide) rfl (fun ls hl => ?_)
  refine lv_iconst (v := 0) hx hb dX2_tryGapsOf_2 (by decide) ?_
  refine lv_istore (lv' := [(4, .int 0), (3, .int (-1)), (0, .ref (a 10)), (1, .int p1), (2, .int p2)]) hx hb dX2_tryGapsOf_3 hl (by decide) rfl (fun ls hl => ?_)
  have lp5 : ∀ (v1 : Int32) (v2 : Int32), ∀ (n : Nat) (v : Int32 × Int32 × (Nat → Nat → Int32) × (Nat → Nat → Int64)), whileK (fun k v => fX2_tryGapsOf_10_s5 fu (fX2_tryFrom_10 fu 6) v1 v2 k v.1 v.2.1 v.2.2.1 v.2.2.2) n v = some (res, s9) → ∀ (H : Heap) (locs : List Loc) (ls : Array Slot), va_P G.1 vwCl (zw G (XS b) 105 a (v.2.2.1) (v.2.2.2)) H → va_D A (zw G (XS b) 105 a (v.2.2.1) (v.2.2.2)) → va_S A s.heap H locs → lv_has ls 5 [(0, .ref (a 10)), (1, .int v1), (2, .int v2), (3, .int (v.1)), (4, .int (v.2.1))] → W p l e { frames := 22, cells := 0, slots := 0, locals := 479 } s m [.ref (a 10), .int p1, .int p2].toArray below meth c H locs 0 0 (MQ below ((kQv G (S := Unit) (fun _ => True) (fun _ => zw G (XS b) 105 a s9.1 s9.2)) A) [.ref (a 10), .int p1, .int p2].toArray s 0 0 A) (F0 m 5 ls []) := by
    intro v1 v2
    refine while_ind (fun k5 ih5 v h => ?_)
    obtain ⟨v3, v4, g, L⟩ := v
    intro H locs ls hP hD hS hl
    have h : fX2_tryGapsOf_10_s5 fu (fX2_tryFrom_10 fu 6) v1 v2 k5 v3 v4 g L = some (res, s9) := h
    have hP : va_P G.1 vwCl (zw G (XS b) 105 a g L) H := hP
    have hD : va_D A (zw G (XS b) 105 a g L) := hD
    have hl : lv_has ls 5 [(0, .ref (a 10)), (1, .int v1), (2, .int v2), (3, .int v3), (4, .int v4)] := hl
    show W p l e { frames := 22, cells := 0, slots := 0, locals := 479 } s m [.ref (a 10), .int p1, .int p2].toArray below meth c H locs 0 0 (MQ below ((kQv G (S := Unit) (fun _ => True) (fun _ => zw G (XS b) 105 a s9.1 s9.2)) A) [.ref (a 10), .int p1, .int p2].toArray s 0 0 A) (F0 m 5 ls [])
    unfold fX2_tryGapsOf_10_s5 at h
    refine lv_iload hx hb dX2_tryGapsOf_5 (lv_at hl 4 rfl) ?_
    refine lv_iconst (v := 4) hx hb dX2_tryGapsOf_7 (by decide) ?_
    refine lv_icmp_gt (x := v4) (y := 4) (tgt := 70) hx hb dX2_tryGapsOf_8 (by decide) (fun c1 => ?_) (fun c1 => ?_)
    ·
      have h := ite_t c1 h
      exact y_vret C hr hlk hP hD hS h (Nat.le_of_ble_eq_true rfl) (Nat.le_of_ble_eq_true rfl) dX2_tryGapsOf_70
    ·
      have h := ite_e c1 h
      refine lv_aload_n hx hb dX2_tryGapsOf_11 rfl (lv_at hl 0 rfl) ?_
      refine x_getr (Or.inl fl_X2_28) C hP (by decide) xs_10 rfl dX2_tryGapsOf_12 ?_
      refine x_getr (Or.inr fl_X2_45) C hP (by decide) xs_6 rfl dX2_tryGapsOf_15 ?_
      refine lv_iload_n hx hb dX2_tryGapsOf_18 rfl (lv_at hl 1 rfl) ?_
      refine lv_iload hx hb dX2_tryGapsOf_19 (lv_at hl 4 rfl) ?_
      refine y_ast C hP hD hS (by decide) xs_26 dX2_tryGapsOf_21 h (fun g2 H locs h hP hD hS => ?_)
      refine lv_aload_n hx hb dX2_tryGapsOf_22 rfl (lv_at hl 0 rfl) ?_
      refine x_getr (Or.inl fl_X2_18) C hP (by decide) xs_10 rfl dX2_tryGapsOf_23 ?_
      refine lv_iload_n hx hb dX2_tryGapsOf_26 rfl (lv_at hl 1 rfl) ?_
      obtain ⟨z_, g4, L5, hf6, h⟩ := cb_some h
      refine x_callNv (rest := []) li_X2_86 C (rX1_runOne_8 l G H.size b a fu g2 L v1 z_ (g4, L5) hf6) (kR rfl) hP hD hS 8 1 rfl (zat (by decide) xs_8) rfl hl.1 rfl (Nat.le_of_ble_eq_true rfl) dX2_tryGapsOf_27 (fun u_ H locs e_ hP hD hS => ?_)
      have hP : va_P G.1 vwCl (zw G (XS b) 105 a g4 L5) H := hP
      have hD : va_D A (zw G (XS b) 105 a g4 L5) := hD
      refine lv_aload_n hx hb dX2_tryGapsOf_30 rfl (lv_at hl 0 rfl) ?_
      refine x_getr (Or.inl fl_X2_18) C hP (by decide) xs_10 rfl dX2_tryGapsOf_31 ?_
      refine x_getr (Or.inr fl_X2_92) C hP (by decide) xs_8 rfl dX2_tryGapsOf_34 ?_
      refine lv_iload_n hx hb dX2_tryGapsOf_37 rfl (lv_at hl 1 rfl) ?_
      refine y_ald C hP (by decide) xs_44 dX2_tryGapsOf_38 h (fun h => ?_)
      refine lv_iload_n hx hb dX2_tryGapsOf_39 rfl (lv_at hl 3 rfl) ?_
      have J64 : ∀ (v3 : Int32) (v4 : Int32) (g : Nat → Nat → Int32) (L : Nat → Nat → Int64) (H : Heap) (locs : List Loc) (ls : Array Slot), fX2_tryGapsOf_10_p64 fu (fX2_tryFrom_10 fu 6) k5 v1 v2 v3 v4 g L = some (res, s9) → va_P G.1 vwCl (zw G (XS b) 105 a g L) H → va_D A (zw G (XS b) 105 a g L) → va_S A s.heap H locs → lv_has ls 5 [(0, .ref (a 10)), (1, .int v1), (2, .int v2), (3, .int v3), (4, .int v4)] → W p l e { frames := 22, cells := 0, slots := 0, locals := 479 } s m [.ref (a 10), .int p1, .int p2].toArray below meth c H locs 0 0 (MQ below ((kQv G (S := Unit) (fun _ => True) (fun _ => zw G (XS b) 105 a s9.1 s9.2)) A) [.ref (a 10), .int p1, .int p2].toArray s 0 0 A) (F0 m 64 ls []) := by
        intro v3 v4 g L H locs ls h hP hD hS hl
        unfold fX2_tryGapsOf_10_p64 at h
        refine lv_iinc (v := (v4 + 1)) (lv' := [(4, .int (v4 + 1)), (0, .ref (a 10)), (1, .int v1), (2, .int v2), (3, .int v3)]) hx hb dX2_tryGapsOf_64 hl (k := 4) rfl rfl (by decide) rfl (fun ls hl => ?_)
        refine lv_goto (tgt := 5) hx hb dX2_tryGapsOf_67 (by decide) ?_
        exact ih5 (v3, (v4 + 1), g, L) h H locs ls hP hD hS (lv_sub hl [1, 2, 3, 4, 0] rfl)
      refine lv_icmp_eq (x := (g4 44 (Int32.toNatClampNeg v1))) (y := v3) (tgt := 64) hx hb dX2_tryGapsOf_40 (by decide) (fun c7 => ?_) (fun c7 => ?_)
      ·
        have h := ite_t c7 h
        exact J64 v3 v4 g4 L5 H locs ls h hP hD hS (lv_sub hl [0, 1, 2, 3, 4] rfl)
      ·
        have h := ite_e c7 h
        refine lv_aload_n hx hb dX2_tryGapsOf_43 rfl (lv_at hl 0 rfl) ?_
        refine x_getr (Or.inl fl_X2_18) C hP (by decide) xs_10 rfl dX2_tryGapsOf_44 ?_
        refine x_getr (Or.inr fl_X2_92) C hP (by decide) xs_8 rfl dX2_tryGapsOf_47 ?_
        refine lv_iload_n hx hb dX2_tryGapsOf_50 rfl (lv_at hl 1 rfl) ?_
        refine y_ald C hP (by decide) xs_44 dX2_tryGapsOf_51 h (fun h => ?_)
        refine y_let h (fun x8 h => ?_)
        refine lv_istore_n (lv' := [(3, .int x8), (0, .ref (a 10)), (1, .int v1), (2, .int v2), (4, .int v4)]) hx hb dX2_tryGapsOf_52 rfl hl (by decide) rfl (fun ls hl => ?_)
        refine lv_aload_n hx hb dX2_tryGapsOf_53 rfl (lv_at hl 1 rfl) ?_
        refine lv_iload_n hx hb dX2_tryGapsOf_54 rfl (lv_at hl 2 rfl) ?_
        refine lv_iconst (v := 1) hx hb dX2_tryGapsOf_55 (by decide) ?_
        refine lv_iadd hx hb dX2_tryGapsOf_56 ?_
        refine lv_iload_n hx hb dX2_tryGapsOf_57 rfl (lv_at hl 3 rfl) ?_
        refine lv_iload hx hb dX2_tryGapsOf_58 (lv_at hl 4 rfl) ?_
        refine lv_iadd hx hb dX2_tryGapsOf_60 ?_
        obtain ⟨z_, g10, L11, hf12, h⟩ := cb_some h
        refine x_callVv (rest := []) li_X2_60 C (rX2_tryFrom_10_L6 l G H.size b a fu g4 L5 (v1 + 1) (v2 + v4) z_ (g10, L11) hf12) (kR rfl) hP hD hS 10 2 rfl (zat (by decide) xs_10) rfl hl.1 rfl (Nat.le_of_ble_eq_true rfl) dX2_tryGapsOf_61 (fun u_ H locs e_ hP hD hS => ?_)
        have hP : va_P G.1 vwCl (zw G (XS b) 105 a g10 L11) H := hP
        have hD : va_D A (zw G (XS b) 105 a g10 L11) := hD
        exact J64 x8 v4 g10 L11 H locs ls h hP hD hS (lv_sub hl [1, 2, 3, 0, 4] rfl)
  exact lp5 p1 p2 fu ((-1), 0, g, L) h H locs ls hP hD hS (lv_sub hl [2, 3, 4, 1, 0] rfl)
set_option maxHeartbeats 4000000 in
set_option maxRecDepth 100000 in
theorem rX2_tryFrom_10_L7 (l : Launch) (G : kG) (sz : Nat) (b : Nat) (a : Nat → Nat) (fu : Nat) (g : Nat → Nat → Int32) (L : Nat → Nat → Int64) (p1 : Int32) (p2 : Int32) (res : Unit) (s9 : zS) (h : fX2_tryFrom_10 fu 7 p1 p2 g L = some (res, s9)) : kM l yX2_tryFrom cX2_tryFrom 3 none { frames := 23, cells := 0, slots := 0, locals := 503 } G [.ref (a 10), .int p1, .int p2] (zw G (XS b) 105 a g L) sz (kQv G (S := Unit) (fun _ => True) (fun _ => zw G (XS b) 105 a s9.1 s9.2)) := by
  refine kM.of (by decide) (Nat.le_of_ble_eq_true rfl) ?_
  intro p e s m below meth c A ls H C hr hlk hnm hP hD hS hl
  have C : kC G p s m c cX2_tryFrom 3 RX2 A := C
  have hx := C.1
  have hb := C.2.1
  have hl : lv_has ls 3 [(0, .ref (a 10)), (1, .int p1), (2, .int p2)] := hl
  obtain ⟨locs, hlocs⟩ : ∃ q : List Loc, q = [] := ⟨_, rfl⟩
  rw [← hlocs] at hS
  rw [← hlocs]
  rw [fX2_tryFrom_10_succ] at h
  unfold fX2_tryFrom_10B at h
  refine lv_iload_n hx hb dX2_tryFrom_0 rfl (lv_at hl 2 rfl) ?_
  refine lv_aload_n hx hb dX2_tryFrom_1 rfl (lv_at hl 0 rfl) ?_
  refine x_getv (v := .int (g 10 8)) (Or.inl fl_X2_39) C hP (by decide) xs_10 rfl dX2_tryFrom_2 ?_
  refine lv_icmp_lt (x := p2) (y := (g 10 8)) (tgt := 9) hx hb dX2_tryFrom_5 (by decide) (fun c1 => ?_) (fun c1 => ?_)
  ·
    have h := ite_t c1 h
    refine lv_iload_n hx hb dX2_tryFrom_9 rfl (lv_at hl 1 rfl) ?_
    refine lv_aload_n hx hb dX2_tryFrom_10 rfl (lv_at hl 0 rfl) ?_
    refine x_getv (v := .int (g 10 5)) (Or.inl fl_X2_36) C hP (by decide) xs_10 rfl dX2_tryFrom_11 ?_
    have J89 : ∀ (g : Nat → Nat → Int32) (L : Nat → Nat → Int64) (H : Heap) (locs : List Loc) (ls : Array Slot), fX2_tryFrom_10_p89 fu (fX2_tryFrom_10 fu 6) g L = some (res, s9) → va_P G.1 vwCl (zw G (XS b) 105 a g L) H → va_D A (zw G (XS b) 105 a g L) → va_S A s.heap H locs → lv_has ls 3 [] → W p l e { frames := 23, cells := 0, slots := 0, locals := 503 } s m [.ref (a 10), .int p1, .int p2].toArray below meth c H locs 0 0 (MQ below ((kQv G (S := Unit) (fun _ => True) (fun _ => zw G (XS b) 105 a s9.1 s9.2)) A) [.ref (a 10), .int p1, .int p2].toArray s 0 0 A) (F0 m 89 ls []) := by
      intro g L H locs ls h hP hD hS hl
      unfold fX2_tryFrom_10_p89 at h
      exact y_vret C hr hlk hP hD hS h (Nat.le_of_ble_eq_true rfl) (Nat.le_of_ble_eq_true rfl) dX2_tryFrom_89
    have J23 : ∀ (v2 : Int32) (g : Nat → Nat → Int32) (L : Nat → Nat → Int64) (H : Heap) (locs : List Loc) (ls : Array Slot), fX2_tryFrom_10_p23 fu (fX2_tryFrom_10 fu 6) v2 g L = some (res, s9) → va_P G.1 vwCl (zw G (XS b) 105 a g L) H → va_D A (zw G (XS b) 105 a g L) → va_S A s.heap H locs → lv_has ls 3 [(0, .ref (a 10)), (2, .int v2)] → W p l e { frames := 23, cells := 0, slots := 0, locals := 503 } s m [.ref (a 10), .int p1, .int p2].toArray below meth c H locs 0 0 (MQ below ((kQv G (S := Unit) (fun _ => True) (fun _ => zw G (XS b) 105 a s9.1 s9.2)) A) [.ref (a 10), .int p1, .int p2].toArray s 0 0 A) (F0 m 23 ls []) := by
      intro v2 g L H locs ls h hP hD hS hl
      unfold fX2_tryFrom_10_p23 at h
      refine lv_aload_n hx hb dX2_tryFrom_23 rfl (lv_at hl 0 rfl) ?_
      refine lv_iload_n hx hb dX2_tryFrom_24 rfl (lv_at hl 1 rfl) ?_
      obtain ⟨z_, g3, L4, hf5, h⟩ := cb_some h
      refine x_callVv (rest := []) li_X2_82 C (rX2_takeIfOnTime_10 l G H.size b a fu g L v2 z_ (g3, L4) hf5) (kR rfl) hP hD hS 10 2 rfl (zat (by decide) xs_10) rfl hl.1 rfl (Nat.le_of_ble_eq_true rfl) dX2_tryFrom_25 (fun u_ H locs e_ hP hD hS => ?_)
      have hP : va_P G.1 vwCl (zw G (XS b) 105 a g3 L4) H := hP
      have hD : va_D A (zw G (XS b) 105 a g3 L4) := hD
      refine lv_goto (tgt := 89) hx hb dX2_tryFrom_28 (by decide) ?_
      exact J89 g3 L4 H locs ls h hP hD hS (lv_sub hl [] rfl)
    refine lv_icmp_gt (x := p1) (y := (g 10 5)) (tgt := 23) hx hb dX2_tryFrom_14 (by decide) (fun c6 => ?_) (fun c6 => ?_)
    ·
      have h := ite_t c6 h
      exact J23 p2 g L H locs ls h hP hD hS (lv_sub hl [0, 2] rfl)
    ·
      have h := ite_e c6 h
      refine lv_iload_n hx hb dX2_tryFrom_17 rfl (lv_at hl 1 rfl) ?_
      refine lv_bipush (v := 12) hx hb dX2_tryFrom_18 (by decide) ?_
      refine lv_icmp_lt (x := p1) (y := 12) (tgt := 31) hx hb dX2_tryFrom_20 (by decide) (fun c7 => ?_) (fun c7 => ?_)
      ·
        have h := ite_t c7 h
        refine lv_aload_n hx hb dX2_tryFrom_31 rfl (lv_at hl 0 rfl) ?_
        refine x_getv (v := .int (g 10 7)) (Or.inl fl_X2_64) C hP (by decide) xs_10 rfl dX2_tryFrom_32 ?_
        refine lv_iload_n hx hb dX2_tryFrom_35 rfl (lv_at hl 1 rfl) ?_
        obtain ⟨z_, g9, L10, hf11, h⟩ := cb_some h
        refine x_callSi (rest := []) li_X2_56 C (rX2_isIn l G H.size b a fu g L (g 10 7) p1 z_ (g9, L10) hf11) (kR rfl) hP hD hS rfl hl.1 rfl (Nat.le_of_ble_eq_true rfl) dX2_tryFrom_36 (fun x8 u_ H locs e_ hP hD hS => ?_)
        have e_ : x8 = z_ := e_
        subst e_
        have hP : va_P G.1 vwCl (zw G (XS b) 105 a g9 L10) H := hP
        have hD : va_D A (zw G (XS b) 105 a g9 L10) := hD
        refine lv_if_ne (x := x8) (tgt := 53) hx hb dX2_tryFrom_39 (by decide) (fun c12 => ?_) (fun c12 => ?_)
        ·
          have h := ite_e c12 h
          refine lv_aload_n hx hb dX2_tryFrom_53 rfl (lv_at hl 0 rfl) ?_
          refine x_getv (v := .int (g9 10 4)) (Or.inl fl_X2_29) C hP (by decide) xs_10 rfl dX2_tryFrom_54 ?_
          refine lv_iload_n hx hb dX2_tryFrom_57 rfl (lv_at hl 1 rfl) ?_
          obtain ⟨z_, g14, L15, hf16, h⟩ := cb_some h
          refine x_callSi (rest := []) li_X2_56 C (rX2_isIn l G H.size b a fu g9 L10 (g9 10 4) p1 z_ (g14, L15) hf16) (kR rfl) hP hD hS rfl hl.1 rfl (Nat.le_of_ble_eq_true rfl) dX2_tryFrom_58 (fun x13 u_ H locs e_ hP hD hS => ?_)
          have e_ : x13 = z_ := e_
          subst e_
          have hP : va_P G.1 vwCl (zw G (XS b) 105 a g14 L15) H := hP
          have hD : va_D A (zw G (XS b) 105 a g14 L15) := hD
          refine lv_if_ne (x := x13) (tgt := 83) hx hb dX2_tryFrom_61 (by decide) (fun c17 => ?_) (fun c17 => ?_)
          ·
            have h := ite_e c17 h
            refine lv_aload_n hx hb dX2_tryFrom_83 rfl (lv_at hl 0 rfl) ?_
            refine lv_iload_n hx hb dX2_tryFrom_84 rfl (lv_at hl 1 rfl) ?_
            refine lv_iload_n hx hb dX2_tryFrom_85 rfl (lv_at hl 2 rfl) ?_
            obtain ⟨z_, g19, L20, hf21, h⟩ := cb_some h
            refine x_callVv (rest := []) li_X2_89 C (rX2_tryGapsOf_10_L7 l G H.size b a fu g14 L15 p1 p2 z_ (g19, L20) hf21) (kR rfl) hP hD hS 10 2 rfl (zat (by decide) xs_10) rfl hl.1 rfl (Nat.le_of_ble_eq_true rfl) dX2_tryFrom_86 (fun u_ H locs e_ hP hD hS => ?_)
            have hP : va_P G.1 vwCl (zw G (XS b) 105 a g19 L20) H := hP
            have hD : va_D A (zw G (XS b) 105 a g19 L20) := hD
            exact J89 g19 L20 H locs ls h hP hD hS (lv_sub hl [] rfl)
          ·
            have h := ite_t c17 h
            refine lv_aload_n hx hb dX2_tryFrom_64 rfl (lv_at hl 0 rfl) ?_
            refine x_getr (Or.inl fl_X2_18) C hP (by decide) xs_10 rfl dX2_tryFrom_65 ?_
            refine lv_iload_n hx hb dX2_tryFrom_68 rfl (lv_at hl 1 rfl) ?_
            obtain ⟨z_, g23, L24, hf25, h⟩ := cb_some h
            refine x_callNv (rest := []) li_X2_86 C (rX1_runOne_8 l G H.size b a fu g14 L15 p1 z_ (g23, L24) hf25) (kR rfl) hP hD hS 8 1 rfl (zat (by decide) xs_8) rfl hl.1 rfl (Nat.le_of_ble_eq_true rfl) dX2_tryFrom_69 (fun u_ H locs e_ hP hD hS => ?_)
            have hP : va_P G.1 vwCl (zw G (XS b) 105 a g23 L24) H := hP
            have hD : va_D A (zw G (XS b) 105 a g23 L24) := hD
            refine lv_aload_n hx hb dX2_tryFrom_72 rfl (lv_at hl 0 rfl) ?_
            refine lv_iload_n hx hb dX2_tryFrom_73 rfl (lv_at hl 1 rfl) ?_
            refine lv_iconst (v := 1) hx hb dX2_tryFrom_74 (by decide) ?_
            refine lv_iadd hx hb dX2_tryFrom_75 ?_
            refine lv_iload_n hx hb dX2_tryFrom_76 rfl (lv_at hl 2 rfl) ?_
            obtain ⟨z_, g27, L28, hf29, h⟩ := cb_some h
            refine x_callVv (rest := []) li_X2_60 C (rX2_tryFrom_10_L6 l G H.size b a fu g23 L24 (p1 + 1) p2 z_ (g27, L28) hf29) (kR rfl) hP hD hS 10 2 rfl (zat (by decide) xs_10) rfl hl.1 rfl (Nat.le_of_ble_eq_true rfl) dX2_tryFrom_77 (fun u_ H locs e_ hP hD hS => ?_)
            have hP : va_P G.1 vwCl (zw G (XS b) 105 a g27 L28) H := hP
            have hD : va_D A (zw G (XS b) 105 a g27 L28) := hD
            refine lv_goto (tgt := 89) hx hb dX2_tryFrom_80 (by decide) ?_
            exact J89 g27 L28 H locs ls h hP hD hS (lv_sub hl [] rfl)
        ·
          have h := ite_t c12 h
          refine lv_aload_n hx hb dX2_tryFrom_42 rfl (lv_at hl 0 rfl) ?_
          refine lv_iload_n hx hb dX2_tryFrom_43 rfl (lv_at hl 1 rfl) ?_
          refine lv_iconst (v := 1) hx hb dX2_tryFrom_44 (by decide) ?_
          refine lv_iadd hx hb dX2_tryFrom_45 ?_
          refine lv_iload_n hx hb dX2_tryFrom_46 rfl (lv_at hl 2 rfl) ?_
          obtain ⟨z_, g31, L32, hf33, h⟩ := cb_some h
          refine x_callVv (rest := []) li_X2_60 C (rX2_tryFrom_10_L6 l G H.size b a fu g9 L10 (p1 + 1) p2 z_ (g31, L32) hf33) (kR rfl) hP hD hS 10 2 rfl (zat (by decide) xs_10) rfl hl.1 rfl (Nat.le_of_ble_eq_true rfl) dX2_tryFrom_47 (fun u_ H locs e_ hP hD hS => ?_)
          have hP : va_P G.1 vwCl (zw G (XS b) 105 a g31 L32) H := hP
          have hD : va_D A (zw G (XS b) 105 a g31 L32) := hD
          refine lv_goto (tgt := 89) hx hb dX2_tryFrom_50 (by decide) ?_
          exact J89 g31 L32 H locs ls h hP hD hS (lv_sub hl [] rfl)
      ·
        have h := ite_e c7 h
        exact J23 p2 g L H locs ls h hP hD hS (lv_sub hl [0, 2] rfl)
  ·
    have h := ite_e c1 h
    exact y_vret C hr hlk hP hD hS h (Nat.le_of_ble_eq_true rfl) (Nat.le_of_ble_eq_true rfl) dX2_tryFrom_8
set_option maxHeartbeats 4000000 in
set_option maxRecDepth 100000 in
theorem rX2_tryGapsOf_10_L8 (l : Launch) (G : kG) (sz : Nat) (b : Nat) (a : Nat → Nat) (fu : Nat) (g : Nat → Nat → Int32) (L : Nat → Nat → Int64) (p1 : Int32) (p2 : Int32) (res : Unit) (s9 : zS) (h : fX2_tryGapsOf_10 fu (fX2_tryFrom_10 fu 7) p1 p2 g L = some (res, s9)) : kM l yX2_tryGapsOf cX2_tryGapsOf 5 none { frames := 24, cells := 0, slots := 0, locals := 525 } G [.ref (a 10), .int p1, .int p2] (zw G (XS b) 105 a g L) sz (kQv G (S := Unit) (fun _ => True) (fun _ => zw G (XS b) 105 a s9.1 s9.2)) := by
  refine kM.of (by decide) (Nat.le_of_ble_eq_true rfl) ?_
  intro p e s m below meth c A ls H C hr hlk hnm hP hD hS hl
  have C : kC G p s m c cX2_tryGapsOf 5 RX2 A := C
  have hx := C.1
  have hb := C.2.1
  have hl : lv_has ls 5 [(0, .ref (a 10)), (1, .int p1), (2, .int p2)] := hl
  obtain ⟨locs, hlocs⟩ : ∃ q : List Loc, q = [] := ⟨_, rfl⟩
  rw [← hlocs] at hS
  rw [← hlocs]
  unfold fX2_tryGapsOf_10 at h
  refine lv_iconst (v := -1) hx hb dX2_tryGapsOf_0 (by decide) ?_
  refine lv_istore_n (lv' := [(3, .int (-1)), (0, .ref (a 10)), (1, .int p1), (2, .int p2)]) hx hb dX2_tryGapsOf_1 rfl hl (by decide) rfl (fun ls hl => ?_)
  refine lv_iconst (v := 0) hx hb dX2_tryGapsOf_2 (by decide) ?_
  refine lv_istore (lv' := [(4, .int 0), (3, .int (-1)), (0, .ref (a 10)), (1, .int p1), (2, .int p2)]) hx hb dX2_tryGapsOf_3 hl (by decide) rfl (fun ls hl => ?_)
  have lp5 : ∀ (v1 : Int32) (v2 : Int32), ∀ (n : Nat) (v : Int32 × Int32 × (Nat → Nat → Int32) × (Nat → Nat → Int64)), whileK (fun k v => fX2_tryGapsOf_10_s5 fu (fX2_tryFrom_10 fu 7) v1 v2 k v.1 v.2.1 v.2.2.1 v.2.2.2) n v = some (res, s9) → ∀ (H : Heap) (locs : List Loc) (ls : Array Slot), va_P G.1 vwCl (zw G (XS b) 105 a (v.2.2.1) (v.2.2.2)) H → va_D A (zw G (XS b) 105 a (v.2.2.1) (v.2.2.2)) → va_S A s.heap H locs → lv_has ls 5 [(0, .ref (a 10)), (1, .int v1), (2, .int v2), (3, .int (v.1)), (4, .int (v.2.1))] → W p l e { frames := 24, cells := 0, slots := 0, locals := 525 } s m [.ref (a 10), .int p1, .int p2].toArray below meth c H locs 0 0 (MQ below ((kQv G (S := Unit) (fun _ => True) (fun _ => zw G (XS b) 105 a s9.1 s9.2)) A) [.ref (a 10), .int p1, .int p2].toArray s 0 0 A) (F0 m 5 ls []) := by
    intro v1 v2
    refine while_ind (fun k5 ih5 v h => ?_)
    obtain ⟨v3, v4, g, L⟩ := v
    intro H locs ls hP hD hS hl
    have h : fX2_tryGapsOf_10_s5 fu (fX2_tryFrom_10 fu 7) v1 v2 k5 v3 v4 g L = some (res, s9) := h
    have hP : va_P G.1 vwCl (zw G (XS b) 105 a g L) H := hP
    have hD : va_D A (zw G (XS b) 105 a g L) := hD
    have hl : lv_has ls 5 [(0, .ref (a 10)), (1, .int v1), (2, .int v2), (3, .int v3), (4, .int v4)] := hl
    show W p l e { frames := 24, cells := 0, slots := 0, locals := 525 } s m [.ref (a 10), .int p1, .int p2].toArray below meth c H locs 0 0 (MQ below ((kQv G (S := Unit) (fun _ => True) (fun _ => zw G (XS b) 105 a s9.1 s9.2)) A) [.ref (a 10), .int p1, .int p2].toArray s 0 0 A) (F0 m 5 ls [])
    unfold fX2_tryGapsOf_10_s5 at h
    refine lv_iload hx hb dX2_tryGapsOf_5 (lv_at hl 4 rfl) ?_
    refine lv_iconst (v := 4) hx hb dX2_tryGapsOf_7 (by decide) ?_
    refine lv_icmp_gt (x := v4) (y := 4) (tgt := 70) hx hb dX2_tryGapsOf_8 (by decide) (fun c1 => ?_) (fun c1 => ?_)
    ·
      have h := ite_t c1 h
      exact y_vret C hr hlk hP hD hS h (Nat.le_of_ble_eq_true rfl) (Nat.le_of_ble_eq_true rfl) dX2_tryGapsOf_70
    ·
      have h := ite_e c1 h
      refine lv_aload_n hx hb dX2_tryGapsOf_11 rfl (lv_at hl 0 rfl) ?_
      refine x_getr (Or.inl fl_X2_28) C hP (by decide) xs_10 rfl dX2_tryGapsOf_12 ?_
      refine x_getr (Or.inr fl_X2_45) C hP (by decide) xs_6 rfl dX2_tryGapsOf_15 ?_
      refine lv_iload_n hx hb dX2_tryGapsOf_18 rfl (lv_at hl 1 rfl) ?_
      refine lv_iload hx hb dX2_tryGapsOf_19 (lv_at hl 4 rfl) ?_
      refine y_ast C hP hD hS (by decide) xs_26 dX2_tryGapsOf_21 h (fun g2 H locs h hP hD hS => ?_)
      refine lv_aload_n hx hb dX2_tryGapsOf_22 rfl (lv_at hl 0 rfl) ?_
      refine x_getr (Or.inl fl_X2_18) C hP (by decide) xs_10 rfl dX2_tryGapsOf_23 ?_
      refine lv_iload_n hx hb dX2_tryGapsOf_26 rfl (lv_at hl 1 rfl) ?_
      obtain ⟨z_, g4, L5, hf6, h⟩ := cb_some h
      refine x_callNv (rest := []) li_X2_86 C (rX1_runOne_8 l G H.size b a fu g2 L v1 z_ (g4, L5) hf6) (kR rfl) hP hD hS 8 1 rfl (zat (by decide) xs_8) rfl hl.1 rfl (Nat.le_of_ble_eq_true rfl) dX2_tryGapsOf_27 (fun u_ H locs e_ hP hD hS => ?_)
      have hP : va_P G.1 vwCl (zw G (XS b) 105 a g4 L5) H := hP
      have hD : va_D A (zw G (XS b) 105 a g4 L5) := hD
      refine lv_aload_n hx hb dX2_tryGapsOf_30 rfl (lv_at hl 0 rfl) ?_
      refine x_getr (Or.inl fl_X2_18) C hP (by decide) xs_10 rfl dX2_tryGapsOf_31 ?_
      refine x_getr (Or.inr fl_X2_92) C hP (by decide) xs_8 rfl dX2_tryGapsOf_34 ?_
      refine lv_iload_n hx hb dX2_tryGapsOf_37 rfl (lv_at hl 1 rfl) ?_
      refine y_ald C hP (by decide) xs_44 dX2_tryGapsOf_38 h (fun h => ?_)
      refine lv_iload_n hx hb dX2_tryGapsOf_39 rfl (lv_at hl 3 rfl) ?_
      have J64 : ∀ (v3 : Int32) (v4 : Int32) (g : Nat → Nat → Int32) (L : Nat → Nat → Int64) (H : Heap) (locs : List Loc) (ls : Array Slot), fX2_tryGapsOf_10_p64 fu (fX2_tryFrom_10 fu 7) k5 v1 v2 v3 v4 g L = some (res, s9) → va_P G.1 vwCl (zw G (XS b) 105 a g L) H → va_D A (zw G (XS b) 105 a g L) → va_S A s.heap H locs → lv_has ls 5 [(0, .ref (a 10)), (1, .int v1), (2, .int v2), (3, .int v3), (4, .int v4)] → W p l e { frames := 24, cells := 0, slots := 0, locals := 525 } s m [.ref (a 10), .int p1, .int p2].toArray below meth c H locs 0 0 (MQ below ((kQv G (S := Unit) (fun _ => True) (fun _ => zw G (XS b) 105 a s9.1 s9.2)) A) [.ref (a 10), .int p1, .int p2].toArray s 0 0 A) (F0 m 64 ls []) := by
        intro v3 v4 g L H locs ls h hP hD hS hl
        unfold fX2_tryGapsOf_10_p64 at h
        refine lv_iinc (v := (v4 + 1)) (lv' := [(4, .int (v4 + 1)), (0, .ref (a 10)), (1, .int v1), (2, .int v2), (3, .int v3)]) hx hb dX2_tryGapsOf_64 hl (k := 4) rfl rfl (by decide) rfl (fun ls hl => ?_)
        refine lv_goto (tgt := 5) hx hb dX2_tryGapsOf_67 (by decide) ?_
        exact ih5 (v3, (v4 + 1), g, L) h H locs ls hP hD hS (lv_sub hl [1, 2, 3, 4, 0] rfl)
      refine lv_icmp_eq (x := (g4 44 (Int32.toNatClampNeg v1))) (y := v3) (tgt := 64) hx hb dX2_tryGapsOf_40 (by decide) (fun c7 => ?_) (fun c7 => ?_)
      ·
        have h := ite_t c7 h
        exact J64 v3 v4 g4 L5 H locs ls h hP hD hS (lv_sub hl [0, 1, 2, 3, 4] rfl)
      ·
        have h := ite_e c7 h
        refine lv_aload_n hx hb dX2_tryGapsOf_43 rfl (lv_at hl 0 rfl) ?_
        refine x_getr (Or.inl fl_X2_18) C hP (by decide) xs_10 rfl dX2_tryGapsOf_44 ?_
        refine x_getr (Or.inr fl_X2_92) C hP (by decide) xs_8 rfl dX2_tryGapsOf_47 ?_
        refine lv_iload_n hx hb dX2_tryGapsOf_50 rfl (lv_at hl 1 rfl) ?_
        refine y_ald C hP (by decide) xs_44 dX2_tryGapsOf_51 h (fun h => ?_)
        refine y_let h (fun x8 h => ?_)
        refine lv_istore_n (lv' := [(3, .int x8), (0, .ref (a 10)), (1, .int v1), (2, .int v2), (4, .int v4)]) hx hb dX2_tryGapsOf_52 rfl hl (by decide) rfl (fun ls hl => ?_)
        refine lv_aload_n hx hb dX2_tryGapsOf_53 rfl (lv_at hl 1 rfl) ?_
        refine lv_iload_n hx hb dX2_tryGapsOf_54 rfl (lv_at hl 2 rfl) ?_
        refine lv_iconst (v := 1) hx hb dX2_tryGapsOf_55 (by decide) ?_
        refine lv_iadd hx hb dX2_tryGapsOf_56 ?_
        refine lv_iload_n hx hb dX2_tryGapsOf_57 rfl (lv_at hl 3 rfl) ?_
        refine lv_iload hx hb dX2_tryGapsOf_58 (lv_at hl 4 rfl) ?_
        refine lv_iadd hx hb dX2_tryGapsOf_60 ?_
        obtain ⟨z_, g10, L11, hf12, h⟩ := cb_some h
        refine x_callVv (rest := []) li_X2_60 C (rX2_tryFrom_10_L7 l G H.size b a fu g4 L5 (v1 + 1) (v2 + v4) z_ (g10, L11) hf12) (kR rfl) hP hD hS 10 2 rfl (zat (by decide) xs_10) rfl hl.1 rfl (Nat.le_of_ble_eq_true rfl) dX2_tryGapsOf_61 (fun u_ H locs e_ hP hD hS => ?_)
        have hP : va_P G.1 vwCl (zw G (XS b) 105 a g10 L11) H := hP
        have hD : va_D A (zw G (XS b) 105 a g10 L11) := hD
        exact J64 x8 v4 g10 L11 H locs ls h hP hD hS (lv_sub hl [1, 2, 3, 0, 4] rfl)
  exact lp5 p1 p2 fu ((-1), 0, g, L) h H locs ls hP hD hS (lv_sub hl [2, 3, 4, 1, 0] rfl)
set_option maxHeartbeats 4000000 in
set_option maxRecDepth 100000 in
theorem rX2_tryFrom_10_L8 (l : Launch) (G : kG) (sz : Nat) (b : Nat) (a : Nat → Nat) (fu : Nat) (g : Nat → Nat → Int32) (L : Nat → Nat → Int64) (p1 : Int32) (p2 : Int32) (res : Unit) (s9 : zS) (h : fX2_tryFrom_10 fu 8 p1 p2 g L = some (res, s9)) : kM l yX2_tryFrom cX2_tryFrom 3 none { frames := 25, cells := 0, slots := 0, locals := 549 } G [.ref (a 10), .int p1, .int p2] (zw G (XS b) 105 a g L) sz (kQv G (S := Unit) (fun _ => True) (fun _ => zw G (XS b) 105 a s9.1 s9.2)) := by
  refine kM.of (by decide) (Nat.le_of_ble_eq_true rfl) ?_
  intro p e s m below meth c A ls H C hr hlk hnm hP hD hS hl
  have C : kC G p s m c cX2_tryFrom 3 RX2 A := C
  have hx := C.1
  have hb := C.2.1
  have hl : lv_has ls 3 [(0, .ref (a 10)), (1, .int p1), (2, .int p2)] := hl
  obtain ⟨locs, hlocs⟩ : ∃ q : List Loc, q = [] := ⟨_, rfl⟩
  rw [← hlocs] at hS
  rw [← hlocs]
  rw [fX2_tryFrom_10_succ] at h
  unfold fX2_tryFrom_10B at h
  refine lv_iload_n hx hb dX2_tryFrom_0 rfl (lv_at hl 2 rfl) ?_
  refine lv_aload_n hx hb dX2_tryFrom_1 rfl (lv_at hl 0 rfl) ?_
  refine x_getv (v := .int (g 10 8)) (Or.inl fl_X2_39) C hP (by decide) xs_10 rfl dX2_tryFrom_2 ?_
  refine lv_icmp_lt (x := p2) (y := (g 10 8)) (tgt := 9) hx hb dX2_tryFrom_5 (by decide) (fun c1 => ?_) (fun c1 => ?_)
  ·
    have h := ite_t c1 h
    refine lv_iload_n hx hb dX2_tryFrom_9 rfl (lv_at hl 1 rfl) ?_
    refine lv_aload_n hx hb dX2_tryFrom_10 rfl (lv_at hl 0 rfl) ?_
    refine x_getv (v := .int (g 10 5)) (Or.inl fl_X2_36) C hP (by decide) xs_10 rfl dX2_tryFrom_11 ?_
    have J89 : ∀ (g : Nat → Nat → Int32) (L : Nat → Nat → Int64) (H : Heap) (locs : List Loc) (ls : Array Slot), fX2_tryFrom_10_p89 fu (fX2_tryFrom_10 fu 7) g L = some (res, s9) → va_P G.1 vwCl (zw G (XS b) 105 a g L) H → va_D A (zw G (XS b) 105 a g L) → va_S A s.heap H locs → lv_has ls 3 [] → W p l e { frames := 25, cells := 0, slots := 0, locals := 549 } s m [.ref (a 10), .int p1, .int p2].toArray below meth c H locs 0 0 (MQ below ((kQv G (S := Unit) (fun _ => True) (fun _ => zw G (XS b) 105 a s9.1 s9.2)) A) [.ref (a 10), .int p1, .int p2].toArray s 0 0 A) (F0 m 89 ls []) := by
      intro g L H locs ls h hP hD hS hl
      unfold fX2_tryFrom_10_p89 at h
      exact y_vret C hr hlk hP hD hS h (Nat.le_of_ble_eq_true rfl) (Nat.le_of_ble_eq_true rfl) dX2_tryFrom_89
    have J23 : ∀ (v2 : Int32) (g : Nat → Nat → Int32) (L : Nat → Nat → Int64) (H : Heap) (locs : List Loc) (ls : Array Slot), fX2_tryFrom_10_p23 fu (fX2_tryFrom_10 fu 7) v2 g L = some (res, s9) → va_P G.1 vwCl (zw G (XS b) 105 a g L) H → va_D A (zw G (XS b) 105 a g L) → va_S A s.heap H locs → lv_has ls 3 [(0, .ref (a 10)), (2, .int v2)] → W p l e { frames := 25, cells := 0, slots := 0, locals := 549 } s m [.ref (a 10), .int p1, .int p2].toArray below meth c H locs 0 0 (MQ below ((kQv G (S := Unit) (fun _ => True) (fun _ => zw G (XS b) 105 a s9.1 s9.2)) A) [.ref (a 10), .int p1, .int p2].toArray s 0 0 A) (F0 m 23 ls []) := by
      intro v2 g L H locs ls h hP hD hS hl
      unfold fX2_tryFrom_10_p23 at h
      refine lv_aload_n hx hb dX2_tryFrom_23 rfl (lv_at hl 0 rfl) ?_
      refine lv_iload_n hx hb dX2_tryFrom_24 rfl (lv_at hl 1 rfl) ?_
      obtain ⟨z_, g3, L4, hf5, h⟩ := cb_some h
      refine x_callVv (rest := []) li_X2_82 C (rX2_takeIfOnTime_10 l G H.size b a fu g L v2 z_ (g3, L4) hf5) (kR rfl) hP hD hS 10 2 rfl (zat (by decide) xs_10) rfl hl.1 rfl (Nat.le_of_ble_eq_true rfl) dX2_tryFrom_25 (fun u_ H locs e_ hP hD hS => ?_)
      have hP : va_P G.1 vwCl (zw G (XS b) 105 a g3 L4) H := hP
      have hD : va_D A (zw G (XS b) 105 a g3 L4) := hD
      refine lv_goto (tgt := 89) hx hb dX2_tryFrom_28 (by decide) ?_
      exact J89 g3 L4 H locs ls h hP hD hS (lv_sub hl [] rfl)
    refine lv_icmp_gt (x := p1) (y := (g 10 5)) (tgt := 23) hx hb dX2_tryFrom_14 (by decide) (fun c6 => ?_) (fun c6 => ?_)
    ·
      have h := ite_t c6 h
      exact J23 p2 g L H locs ls h hP hD hS (lv_sub hl [0, 2] rfl)
    ·
      have h := ite_e c6 h
      refine lv_iload_n hx hb dX2_tryFrom_17 rfl (lv_at hl 1 rfl) ?_
      refine lv_bipush (v := 12) hx hb dX2_tryFrom_18 (by decide) ?_
      refine lv_icmp_lt (x := p1) (y := 12) (tgt := 31) hx hb dX2_tryFrom_20 (by decide) (fun c7 => ?_) (fun c7 => ?_)
      ·
        have h := ite_t c7 h
        refine lv_aload_n hx hb dX2_tryFrom_31 rfl (lv_at hl 0 rfl) ?_
        refine x_getv (v := .int (g 10 7)) (Or.inl fl_X2_64) C hP (by decide) xs_10 rfl dX2_tryFrom_32 ?_
        refine lv_iload_n hx hb dX2_tryFrom_35 rfl (lv_at hl 1 rfl) ?_
        obtain ⟨z_, g9, L10, hf11, h⟩ := cb_some h
        refine x_callSi (rest := []) li_X2_56 C (rX2_isIn l G H.size b a fu g L (g 10 7) p1 z_ (g9, L10) hf11) (kR rfl) hP hD hS rfl hl.1 rfl (Nat.le_of_ble_eq_true rfl) dX2_tryFrom_36 (fun x8 u_ H locs e_ hP hD hS => ?_)
        have e_ : x8 = z_ := e_
        subst e_
        have hP : va_P G.1 vwCl (zw G (XS b) 105 a g9 L10) H := hP
        have hD : va_D A (zw G (XS b) 105 a g9 L10) := hD
        refine lv_if_ne (x := x8) (tgt := 53) hx hb dX2_tryFrom_39 (by decide) (fun c12 => ?_) (fun c12 => ?_)
        ·
          have h := ite_e c12 h
          refine lv_aload_n hx hb dX2_tryFrom_53 rfl (lv_at hl 0 rfl) ?_
          refine x_getv (v := .int (g9 10 4)) (Or.inl fl_X2_29) C hP (by decide) xs_10 rfl dX2_tryFrom_54 ?_
          refine lv_iload_n hx hb dX2_tryFrom_57 rfl (lv_at hl 1 rfl) ?_
          obtain ⟨z_, g14, L15, hf16, h⟩ := cb_some h
          refine x_callSi (rest := []) li_X2_56 C (rX2_isIn l G H.size b a fu g9 L10 (g9 10 4) p1 z_ (g14, L15) hf16) (kR rfl) hP hD hS rfl hl.1 rfl (Nat.le_of_ble_eq_true rfl) dX2_tryFrom_58 (fun x13 u_ H locs e_ hP hD hS => ?_)
          have e_ : x13 = z_ := e_
          subst e_
          have hP : va_P G.1 vwCl (zw G (XS b) 105 a g14 L15) H := hP
          have hD : va_D A (zw G (XS b) 105 a g14 L15) := hD
          refine lv_if_ne (x := x13) (tgt := 83) hx hb dX2_tryFrom_61 (by decide) (fun c17 => ?_) (fun c17 => ?_)
          ·
            have h := ite_e c17 h
            refine lv_aload_n hx hb dX2_tryFrom_83 rfl (lv_at hl 0 rfl) ?_
            refine lv_iload_n hx hb dX2_tryFrom_84 rfl (lv_at hl 1 rfl) ?_
            refine lv_iload_n hx hb dX2_tryFrom_85 rfl (lv_at hl 2 rfl) ?_
            obtain ⟨z_, g19, L20, hf21, h⟩ := cb_some h
            refine x_callVv (rest := []) li_X2_89 C (rX2_tryGapsOf_10_L8 l G H.size b a fu g14 L15 p1 p2 z_ (g19, L20) hf21) (kR rfl) hP hD hS 10 2 rfl (zat (by decide) xs_10) rfl hl.1 rfl (Nat.le_of_ble_eq_true rfl) dX2_tryFrom_86 (fun u_ H locs e_ hP hD hS => ?_)
            have hP : va_P G.1 vwCl (zw G (XS b) 105 a g19 L20) H := hP
            have hD : va_D A (zw G (XS b) 105 a g19 L20) := hD
            exact J89 g19 L20 H locs ls h hP hD hS (lv_sub hl [] rfl)
          ·
            have h := ite_t c17 h
            refine lv_aload_n hx hb dX2_tryFrom_64 rfl (lv_at hl 0 rfl) ?_
            refine x_getr (Or.inl fl_X2_18) C hP (by decide) xs_10 rfl dX2_tryFrom_65 ?_
            refine lv_iload_n hx hb dX2_tryFrom_68 rfl (lv_at hl 1 rfl) ?_
            obtain ⟨z_, g23, L24, hf25, h⟩ := cb_some h
            refine x_callNv (rest := []) li_X2_86 C (rX1_runOne_8 l G H.size b a fu g14 L15 p1 z_ (g23, L24) hf25) (kR rfl) hP hD hS 8 1 rfl (zat (by decide) xs_8) rfl hl.1 rfl (Nat.le_of_ble_eq_true rfl) dX2_tryFrom_69 (fun u_ H locs e_ hP hD hS => ?_)
            have hP : va_P G.1 vwCl (zw G (XS b) 105 a g23 L24) H := hP
            have hD : va_D A (zw G (XS b) 105 a g23 L24) := hD
            refine lv_aload_n hx hb dX2_tryFrom_72 rfl (lv_at hl 0 rfl) ?_
            refine lv_iload_n hx hb dX2_tryFrom_73 rfl (lv_at hl 1 rfl) ?_
            refine lv_iconst (v := 1) hx hb dX2_tryFrom_74 (by decide) ?_
            refine lv_iadd hx hb dX2_tryFrom_75 ?_
            refine lv_iload_n hx hb dX2_tryFrom_76 rfl (lv_at hl 2 rfl) ?_
            obtain ⟨z_, g27, L28, hf29, h⟩ := cb_some h
            refine x_callVv (rest := []) li_X2_60 C (rX2_tryFrom_10_L7 l G H.size b a fu g23 L24 (p1 + 1) p2 z_ (g27, L28) hf29) (kR rfl) hP hD hS 10 2 rfl (zat (by decide) xs_10) rfl hl.1 rfl (Nat.le_of_ble_eq_true rfl) dX2_tryFrom_77 (fun u_ H locs e_ hP hD hS => ?_)
            have hP : va_P G.1 vwCl (zw G (XS b) 105 a g27 L28) H := hP
            have hD : va_D A (zw G (XS b) 105 a g27 L28) := hD
            refine lv_goto (tgt := 89) hx hb dX2_tryFrom_80 (by decide) ?_
            exact J89 g27 L28 H locs ls h hP hD hS (lv_sub hl [] rfl)
        ·
          have h := ite_t c12 h
          refine lv_aload_n hx hb dX2_tryFrom_42 rfl (lv_at hl 0 rfl) ?_
          refine lv_iload_n hx hb dX2_tryFrom_43 rfl (lv_at hl 1 rfl) ?_
          refine lv_iconst (v := 1) hx hb dX2_tryFrom_44 (by decide) ?_
          refine lv_iadd hx hb dX2_tryFrom_45 ?_
          refine lv_iload_n hx hb dX2_tryFrom_46 rfl (lv_at hl 2 rfl) ?_
          obtain ⟨z_, g31, L32, hf33, h⟩ := cb_some h
          refine x_callVv (rest := []) li_X2_60 C (rX2_tryFrom_10_L7 l G H.size b a fu g9 L10 (p1 + 1) p2 z_ (g31, L32) hf33) (kR rfl) hP hD hS 10 2 rfl (zat (by decide) xs_10) rfl hl.1 rfl (Nat.le_of_ble_eq_true rfl) dX2_tryFrom_47 (fun u_ H locs e_ hP hD hS => ?_)
          have hP : va_P G.1 vwCl (zw G (XS b) 105 a g31 L32) H := hP
          have hD : va_D A (zw G (XS b) 105 a g31 L32) := hD
          refine lv_goto (tgt := 89) hx hb dX2_tryFrom_50 (by decide) ?_
          exact J89 g31 L32 H locs ls h hP hD hS (lv_sub hl [] rfl)
      ·
        have h := ite_e c7 h
        exact J23 p2 g L H locs ls h hP hD hS (lv_sub hl [0, 2] rfl)
  ·
    have h := ite_e c1 h
    exact y_vret C hr hlk hP hD hS h (Nat.le_of_ble_eq_true rfl) (Nat.le_of_ble_eq_true rfl) dX2_tryFrom_8
set_option maxHeartbeats 4000000 in
set_option maxRecDepth 100000 in
theorem rX2_tryGapsOf_10_L9 (l : Launch) (G : kG) (sz : Nat) (b : Nat) (a : Nat → Nat) (fu : Nat) (g : Nat → Nat → Int32) (L : Nat → Nat → Int64) (p1 : Int32) (p2 : Int32) (res : Unit) (s9 : zS) (h : fX2_tryGapsOf_10 fu (fX2_tryFrom_10 fu 8) p1 p2 g L = some (res, s9)) : kM l yX2_tryGapsOf cX2_tryGapsOf 5 none { frames := 26, cells := 0, slots := 0, locals := 571 } G [.ref (a 10), .int p1, .int p2] (zw G (XS b) 105 a g L) sz (kQv G (S := Unit) (fun _ => True) (fun _ => zw G (XS b) 105 a s9.1 s9.2)) := by
  refine kM.of (by decide) (Nat.le_of_ble_eq_true rfl) ?_
  intro p e s m below meth c A ls H C hr hlk hnm hP hD hS hl
  have C : kC G p s m c cX2_tryGapsOf 5 RX2 A := C
  have hx := C.1
  have hb := C.2.1
  have hl : lv_has ls 5 [(0, .ref (a 10)), (1, .int p1), (2, .int p2)] := hl
  obtain ⟨locs, hlocs⟩ : ∃ q : List Loc, q = [] := ⟨_, rfl⟩
  rw [← hlocs] at hS
  rw [← hlocs]
  unfold fX2_tryGapsOf_10 at h
  refine lv_iconst (v := -1) hx hb dX2_tryGapsOf_0 (by decide) ?_
  refine lv_istore_n (lv' := [(3, .int (-1)), (0, .ref (a 10)), (1, .int p1), (2, .int p2)]) hx hb dX2_tryGapsOf_1 rfl hl (by decide) rfl (fun ls hl => ?_)
  refine lv_iconst (v := 0) hx hb dX2_tryGapsOf_2 (by decide) ?_
  refine lv_istore (lv' := [(4, .int 0), (3, .int (-1)), (0, .ref (a 10)), (1, .int p1), (2, .int p2)]) hx hb dX2_tryGapsOf_3 hl (by decide) rfl (fun ls hl => ?_)
  have lp5 : ∀ (v1 : Int32) (v2 : Int32), ∀ (n : Nat) (v : Int32 × Int32 × (Nat → Nat → Int32) × (Nat → Nat → Int64)), whileK (fun k v => fX2_tryGapsOf_10_s5 fu (fX2_tryFrom_10 fu 8) v1 v2 k v.1 v.2.1 v.2.2.1 v.2.2.2) n v = some (res, s9) → ∀ (H : Heap) (locs : List Loc) (ls : Array Slot), va_P G.1 vwCl (zw G (XS b) 105 a (v.2.2.1) (v.2.2.2)) H → va_D A (zw G (XS b) 105 a (v.2.2.1) (v.2.2.2)) → va_S A s.heap H locs → lv_has ls 5 [(0, .ref (a 10)), (1, .int v1), (2, .int v2), (3, .int (v.1)), (4, .int (v.2.1))] → W p l e { frames := 26, cells := 0, slots := 0, locals := 571 } s m [.ref (a 10), .int p1, .int p2].toArray below meth c H locs 0 0 (MQ below ((kQv G (S := Unit) (fun _ => True) (fun _ => zw G (XS b) 105 a s9.1 s9.2)) A) [.ref (a 10), .int p1, .int p2].toArray s 0 0 A) (F0 m 5 ls []) := by
    intro v1 v2
    refine while_ind (fun k5 ih5 v h => ?_)
    obtain ⟨v3, v4, g, L⟩ := v
    intro H locs ls hP hD hS hl
    have h : fX2_tryGapsOf_10_s5 fu (fX2_tryFrom_10 fu 8) v1 v2 k5 v3 v4 g L = some (res, s9) := h
    have hP : va_P G.1 vwCl (zw G (XS b) 105 a g L) H := hP
    have hD : va_D A (zw G (XS b) 105 a g L) := hD
    have hl : lv_has ls 5 [(0, .ref (a 10)), (1, .int v1), (2, .int v2), (3, .int v3), (4, .int v4)] := hl
    show W p l e { frames := 26, cells := 0, slots := 0, locals := 571 } s m [.ref (a 10), .int p1, .int p2].toArray below meth c H locs 0 0 (MQ below ((kQv G (S := Unit) (fun _ => True) (fun _ => zw G (XS b) 105 a s9.1 s9.2)) A) [.ref (a 10), .int p1, .int p2].toArray s 0 0 A) (F0 m 5 ls [])
    unfold fX2_tryGapsOf_10_s5 at h
    refine lv_iload hx hb dX2_tryGapsOf_5 (lv_at hl 4 rfl) ?_
    refine lv_iconst (v := 4) hx hb dX2_tryGapsOf_7 (by decide) ?_
    refine lv_icmp_gt (x := v4) (y := 4) (tgt := 70) hx hb dX2_tryGapsOf_8 (by decide) (fun c1 => ?_) (fun c1 => ?_)
    ·
      have h := ite_t c1 h
      exact y_vret C hr hlk hP hD hS h (Nat.le_of_ble_eq_true rfl) (Nat.le_of_ble_eq_true rfl) dX2_tryGapsOf_70
    ·
      have h := ite_e c1 h
      refine lv_aload_n hx hb dX2_tryGapsOf_11 rfl (lv_at hl 0 rfl) ?_
      refine x_getr (Or.inl fl_X2_28) C hP (by decide) xs_10 rfl dX2_tryGapsOf_12 ?_
      refine x_getr (Or.inr fl_X2_45) C hP (by decide) xs_6 rfl dX2_tryGapsOf_15 ?_
      refine lv_iload_n hx hb dX2_tryGapsOf_18 rfl (lv_at hl 1 rfl) ?_
      refine lv_iload hx hb dX2_tryGapsOf_19 (lv_at hl 4 rfl) ?_
      refine y_ast C hP hD hS (by decide) xs_26 dX2_tryGapsOf_21 h (fun g2 H locs h hP hD hS => ?_)
      refine lv_aload_n hx hb dX2_tryGapsOf_22 rfl (lv_at hl 0 rfl) ?_
      refine x_getr (Or.inl fl_X2_18) C hP (by decide) xs_10 rfl dX2_tryGapsOf_23 ?_
      refine lv_iload_n hx hb dX2_tryGapsOf_26 rfl (lv_at hl 1 rfl) ?_
      obtain ⟨z_, g4, L5, hf6, h⟩ := cb_some h
      refine x_callNv (rest := []) li_X2_86 C (rX1_runOne_8 l G H.size b a fu g2 L v1 z_ (g4, L5) hf6) (kR rfl) hP hD hS 8 1 rfl (zat (by decide) xs_8) rfl hl.1 rfl (Nat.le_of_ble_eq_true rfl) dX2_tryGapsOf_27 (fun u_ H locs e_ hP hD hS => ?_)
      have hP : va_P G.1 vwCl (zw G (XS b) 105 a g4 L5) H := hP
      have hD : va_D A (zw G (XS b) 105 a g4 L5) := hD
      refine lv_aload_n hx hb dX2_tryGapsOf_30 rfl (lv_at hl 0 rfl) ?_
      refine x_getr (Or.inl fl_X2_18) C hP (by decide) xs_10 rfl dX2_tryGapsOf_31 ?_
      refine x_getr (Or.inr fl_X2_92) C hP (by decide) xs_8 rfl dX2_tryGapsOf_34 ?_
      refine lv_iload_n hx hb dX2_tryGapsOf_37 rfl (lv_at hl 1 rfl) ?_
      refine y_ald C hP (by decide) xs_44 dX2_tryGapsOf_38 h (fun h => ?_)
      refine lv_iload_n hx hb dX2_tryGapsOf_39 rfl (lv_at hl 3 rfl) ?_
      have J64 : ∀ (v3 : Int32) (v4 : Int32) (g : Nat → Nat → Int32) (L : Nat → Nat → Int64) (H : Heap) (locs : List Loc) (ls : Array Slot), fX2_tryGapsOf_10_p64 fu (fX2_tryFrom_10 fu 8) k5 v1 v2 v3 v4 g L = some (res, s9) → va_P G.1 vwCl (zw G (XS b) 105 a g L) H → va_D A (zw G (XS b) 105 a g L) → va_S A s.heap H locs → lv_has ls 5 [(0, .ref (a 10)), (1, .int v1), (2, .int v2), (3, .int v3), (4, .int v4)] → W p l e { frames := 26, cells := 0, slots := 0, locals := 571 } s m [.ref (a 10), .int p1, .int p2].toArray below meth c H locs 0 0 (MQ below ((kQv G (S := Unit) (fun _ => True) (fun _ => zw G (XS b) 105 a s9.1 s9.2)) A) [.ref (a 10), .int p1, .int p2].toArray s 0 0 A) (F0 m 64 ls []) := by
        intro v3 v4 g L H locs ls h hP hD hS hl
        unfold fX2_tryGapsOf_10_p64 at h
        refine lv_iinc (v := (v4 + 1)) (lv' := [(4, .int (v4 + 1)), (0, .ref (a 10)), (1, .int v1), (2, .int v2), (3, .int v3)]) hx hb dX2_tryGapsOf_64 hl (k := 4) rfl rfl (by decide) rfl (fun ls hl => ?_)
        refine lv_goto (tgt := 5) hx hb dX2_tryGapsOf_67 (by decide) ?_
        exact ih5 (v3, (v4 + 1), g, L) h H locs ls hP hD hS (lv_sub hl [1, 2, 3, 4, 0] rfl)
      refine lv_icmp_eq (x := (g4 44 (Int32.toNatClampNeg v1))) (y := v3) (tgt := 64) hx hb dX2_tryGapsOf_40 (by decide) (fun c7 => ?_) (fun c7 => ?_)
      ·
        have h := ite_t c7 h
        exact J64 v3 v4 g4 L5 H locs ls h hP hD hS (lv_sub hl [0, 1, 2, 3, 4] rfl)
      ·
        have h := ite_e c7 h
        refine lv_aload_n hx hb dX2_tryGapsOf_43 rfl (lv_at hl 0 rfl) ?_
        refine x_getr (Or.inl fl_X2_18) C hP (by decide) xs_10 rfl dX2_tryGapsOf_44 ?_
        refine x_getr (Or.inr fl_X2_92) C hP (by decide) xs_8 rfl dX2_tryGapsOf_47 ?_
        refine lv_iload_n hx hb dX2_tryGapsOf_50 rfl (lv_at hl 1 rfl) ?_
        refine y_ald C hP (by decide) xs_44 dX2_tryGapsOf_51 h (fun h => ?_)
        refine y_let h (fun x8 h => ?_)
        refine lv_istore_n (lv' := [(3, .int x8), (0, .ref (a 10)), (1, .int v1), (2, .int v2), (4, .int v4)]) hx hb dX2_tryGapsOf_52 rfl hl (by decide) rfl (fun ls hl => ?_)
        refine lv_aload_n hx hb dX2_tryGapsOf_53 rfl (lv_at hl 1 rfl) ?_
        refine lv_iload_n hx hb dX2_tryGapsOf_54 rfl (lv_at hl 2 rfl) ?_
        refine lv_iconst (v := 1) hx hb dX2_tryGapsOf_55 (by decide) ?_
        refine lv_iadd hx hb dX2_tryGapsOf_56 ?_
        refine lv_iload_n hx hb dX2_tryGapsOf_57 rfl (lv_at hl 3 rfl) ?_
        refine lv_iload hx hb dX2_tryGapsOf_58 (lv_at hl 4 rfl) ?_
        refine lv_iadd hx hb dX2_tryGapsOf_60 ?_
        obtain ⟨z_, g10, L11, hf12, h⟩ := cb_some h
        refine x_callVv (rest := []) li_X2_60 C (rX2_tryFrom_10_L8 l G H.size b a fu g4 L5 (v1 + 1) (v2 + v4) z_ (g10, L11) hf12) (kR rfl) hP hD hS 10 2 rfl (zat (by decide) xs_10) rfl hl.1 rfl (Nat.le_of_ble_eq_true rfl) dX2_tryGapsOf_61 (fun u_ H locs e_ hP hD hS => ?_)
        have hP : va_P G.1 vwCl (zw G (XS b) 105 a g10 L11) H := hP
        have hD : va_D A (zw G (XS b) 105 a g10 L11) := hD
        exact J64 x8 v4 g10 L11 H locs ls h hP hD hS (lv_sub hl [1, 2, 3, 0, 4] rfl)
  exact lp5 p1 p2 fu ((-1), 0, g, L) h H locs ls hP hD hS (lv_sub hl [2, 3, 4, 1, 0] rfl)
set_option maxHeartbeats 4000000 in
set_option maxRecDepth 100000 in
theorem rX2_tryFrom_10_L9 (l : Launch) (G : kG) (sz : Nat) (b : Nat) (a : Nat → Nat) (fu : Nat) (g : Nat → Nat → Int32) (L : Nat → Nat → Int64) (p1 : Int32) (p2 : Int32) (res : Unit) (s9 : zS) (h : fX2_tryFrom_10 fu 9 p1 p2 g L = some (res, s9)) : kM l yX2_tryFrom cX2_tryFrom 3 none { frames := 27, cells := 0, slots := 0, locals := 595 } G [.ref (a 10), .int p1, .int p2] (zw G (XS b) 105 a g L) sz (kQv G (S := Unit) (fun _ => True) (fun _ => zw G (XS b) 105 a s9.1 s9.2)) := by
  refine kM.of (by decide) (Nat.le_of_ble_eq_true rfl) ?_
  intro p e s m below meth c A ls H C hr hlk hnm hP hD hS hl
  have C : kC G p s m c cX2_tryFrom 3 RX2 A := C
  have hx := C.1
  have hb := C.2.1
  have hl : lv_has ls 3 [(0, .ref (a 10)), (1, .int p1), (2, .int p2)] := hl
  obtain ⟨locs, hlocs⟩ : ∃ q : List Loc, q = [] := ⟨_, rfl⟩
  rw [← hlocs] at hS
  rw [← hlocs]
  rw [fX2_tryFrom_10_succ] at h
  unfold fX2_tryFrom_10B at h
  refine lv_iload_n hx hb dX2_tryFrom_0 rfl (lv_at hl 2 rfl) ?_
  refine lv_aload_n hx hb dX2_tryFrom_1 rfl (lv_at hl 0 rfl) ?_
  refine x_getv (v := .int (g 10 8)) (Or.inl fl_X2_39) C hP (by decide) xs_10 rfl dX2_tryFrom_2 ?_
  refine lv_icmp_lt (x := p2) (y := (g 10 8)) (tgt := 9) hx hb dX2_tryFrom_5 (by decide) (fun c1 => ?_) (fun c1 => ?_)
  ·
    have h := ite_t c1 h
    refine lv_iload_n hx hb dX2_tryFrom_9 rfl (lv_at hl 1 rfl) ?_
    refine lv_aload_n hx hb dX2_tryFrom_10 rfl (lv_at hl 0 rfl) ?_
    refine x_getv (v := .int (g 10 5)) (Or.inl fl_X2_36) C hP (by decide) xs_10 rfl dX2_tryFrom_11 ?_
    have J89 : ∀ (g : Nat → Nat → Int32) (L : Nat → Nat → Int64) (H : Heap) (locs : List Loc) (ls : Array Slot), fX2_tryFrom_10_p89 fu (fX2_tryFrom_10 fu 8) g L = some (res, s9) → va_P G.1 vwCl (zw G (XS b) 105 a g L) H → va_D A (zw G (XS b) 105 a g L) → va_S A s.heap H locs → lv_has ls 3 [] → W p l e { frames := 27, cells := 0, slots := 0, locals := 595 } s m [.ref (a 10), .int p1, .int p2].toArray below meth c H locs 0 0 (MQ below ((kQv G (S := Unit) (fun _ => True) (fun _ => zw G (XS b) 105 a s9.1 s9.2)) A) [.ref (a 10), .int p1, .int p2].toArray s 0 0 A) (F0 m 89 ls []) := by
      intro g L H locs ls h hP hD hS hl
      unfold fX2_tryFrom_10_p89 at h
      exact y_vret C hr hlk hP hD hS h (Nat.le_of_ble_eq_true rfl) (Nat.le_of_ble_eq_true rfl) dX2_tryFrom_89
    have J23 : ∀ (v2 : Int32) (g : Nat → Nat → Int32) (L : Nat → Nat → Int64) (H : Heap) (locs : List Loc) (ls : Array Slot), fX2_tryFrom_10_p23 fu (fX2_tryFrom_10 fu 8) v2 g L = some (res, s9) → va_P G.1 vwCl (zw G (XS b) 105 a g L) H → va_D A (zw G (XS b) 105 a g L) → va_S A s.heap H locs → lv_has ls 3 [(0, .ref (a 10)), (2, .int v2)] → W p l e { frames := 27, cells := 0, slots := 0, locals := 595 } s m [.ref (a 10), .int p1, .int p2].toArray below meth c H locs 0 0 (MQ below ((kQv G (S := Unit) (fun _ => True) (fun _ => zw G (XS b) 105 a s9.1 s9.2)) A) [.ref (a 10), .int p1, .int p2].toArray s 0 0 A) (F0 m 23 ls []) := by
      intro v2 g L H locs ls h hP hD hS hl
      unfold fX2_tryFrom_10_p23 at h
      refine lv_aload_n hx hb dX2_tryFrom_23 rfl (lv_at hl 0 rfl) ?_
      refine lv_iload_n hx hb dX2_tryFrom_24 rfl (lv_at hl 1 rfl) ?_
      obtain ⟨z_, g3, L4, hf5, h⟩ := cb_some h
      refine x_callVv (rest := []) li_X2_82 C (rX2_takeIfOnTime_10 l G H.size b a fu g L v2 z_ (g3, L4) hf5) (kR rfl) hP hD hS 10 2 rfl (zat (by decide) xs_10) rfl hl.1 rfl (Nat.le_of_ble_eq_true rfl) dX2_tryFrom_25 (fun u_ H locs e_ hP hD hS => ?_)
      have hP : va_P G.1 vwCl (zw G (XS b) 105 a g3 L4) H := hP
      have hD : va_D A (zw G (XS b) 105 a g3 L4) := hD
      refine lv_goto (tgt := 89) hx hb dX2_tryFrom_28 (by decide) ?_
      exact J89 g3 L4 H locs ls h hP hD hS (lv_sub hl [] rfl)
    refine lv_icmp_gt (x := p1) (y := (g 10 5)) (tgt := 23) hx hb dX2_tryFrom_14 (by decide) (fun c6 => ?_) (fun c6 => ?_)
    ·
      have h := ite_t c6 h
      exact J23 p2 g L H locs ls h hP hD hS (lv_sub hl [0, 2] rfl)
    ·
      have h := ite_e c6 h
      refine lv_iload_n hx hb dX2_tryFrom_17 rfl (lv_at hl 1 rfl) ?_
      refine lv_bipush (v := 12) hx hb dX2_tryFrom_18 (by decide) ?_
      refine lv_icmp_lt (x := p1) (y := 12) (tgt := 31) hx hb dX2_tryFrom_20 (by decide) (fun c7 => ?_) (fun c7 => ?_)
      ·
        have h := ite_t c7 h
        refine lv_aload_n hx hb dX2_tryFrom_31 rfl (lv_at hl 0 rfl) ?_
        refine x_getv (v := .int (g 10 7)) (Or.inl fl_X2_64) C hP (by decide) xs_10 rfl dX2_tryFrom_32 ?_
        refine lv_iload_n hx hb dX2_tryFrom_35 rfl (lv_at hl 1 rfl) ?_
        obtain ⟨z_, g9, L10, hf11, h⟩ := cb_some h
        refine x_callSi (rest := []) li_X2_56 C (rX2_isIn l G H.size b a fu g L (g 10 7) p1 z_ (g9, L10) hf11) (kR rfl) hP hD hS rfl hl.1 rfl (Nat.le_of_ble_eq_true rfl) dX2_tryFrom_36 (fun x8 u_ H locs e_ hP hD hS => ?_)
        have e_ : x8 = z_ := e_
        subst e_
        have hP : va_P G.1 vwCl (zw G (XS b) 105 a g9 L10) H := hP
        have hD : va_D A (zw G (XS b) 105 a g9 L10) := hD
        refine lv_if_ne (x := x8) (tgt := 53) hx hb dX2_tryFrom_39 (by decide) (fun c12 => ?_) (fun c12 => ?_)
        ·
          have h := ite_e c12 h
          refine lv_aload_n hx hb dX2_tryFrom_53 rfl (lv_at hl 0 rfl) ?_
          refine x_getv (v := .int (g9 10 4)) (Or.inl fl_X2_29) C hP (by decide) xs_10 rfl dX2_tryFrom_54 ?_
          refine lv_iload_n hx hb dX2_tryFrom_57 rfl (lv_at hl 1 rfl) ?_
          obtain ⟨z_, g14, L15, hf16, h⟩ := cb_some h
          refine x_callSi (rest := []) li_X2_56 C (rX2_isIn l G H.size b a fu g9 L10 (g9 10 4) p1 z_ (g14, L15) hf16) (kR rfl) hP hD hS rfl hl.1 rfl (Nat.le_of_ble_eq_true rfl) dX2_tryFrom_58 (fun x13 u_ H locs e_ hP hD hS => ?_)
          have e_ : x13 = z_ := e_
          subst e_
          have hP : va_P G.1 vwCl (zw G (XS b) 105 a g14 L15) H := hP
          have hD : va_D A (zw G (XS b) 105 a g14 L15) := hD
          refine lv_if_ne (x := x13) (tgt := 83) hx hb dX2_tryFrom_61 (by decide) (fun c17 => ?_) (fun c17 => ?_)
          ·
            have h := ite_e c17 h
            refine lv_aload_n hx hb dX2_tryFrom_83 rfl (lv_at hl 0 rfl) ?_
            refine lv_iload_n hx hb dX2_tryFrom_84 rfl (lv_at hl 1 rfl) ?_
            refine lv_iload_n hx hb dX2_tryFrom_85 rfl (lv_at hl 2 rfl) ?_
            obtain ⟨z_, g19, L20, hf21, h⟩ := cb_some h
            refine x_callVv (rest := []) li_X2_89 C (rX2_tryGapsOf_10_L9 l G H.size b a fu g14 L15 p1 p2 z_ (g19, L20) hf21) (kR rfl) hP hD hS 10 2 rfl (zat (by decide) xs_10) rfl hl.1 rfl (Nat.le_of_ble_eq_true rfl) dX2_tryFrom_86 (fun u_ H locs e_ hP hD hS => ?_)
            have hP : va_P G.1 vwCl (zw G (XS b) 105 a g19 L20) H := hP
            have hD : va_D A (zw G (XS b) 105 a g19 L20) := hD
            exact J89 g19 L20 H locs ls h hP hD hS (lv_sub hl [] rfl)
          ·
            have h := ite_t c17 h
            refine lv_aload_n hx hb dX2_tryFrom_64 rfl (lv_at hl 0 rfl) ?_
            refine x_getr (Or.inl fl_X2_18) C hP (by decide) xs_10 rfl dX2_tryFrom_65 ?_
            refine lv_iload_n hx hb dX2_tryFrom_68 rfl (lv_at hl 1 rfl) ?_
            obtain ⟨z_, g23, L24, hf25, h⟩ := cb_some h
            refine x_callNv (rest := []) li_X2_86 C (rX1_runOne_8 l G H.size b a fu g14 L15 p1 z_ (g23, L24) hf25) (kR rfl) hP hD hS 8 1 rfl (zat (by decide) xs_8) rfl hl.1 rfl (Nat.le_of_ble_eq_true rfl) dX2_tryFrom_69 (fun u_ H locs e_ hP hD hS => ?_)
            have hP : va_P G.1 vwCl (zw G (XS b) 105 a g23 L24) H := hP
            have hD : va_D A (zw G (XS b) 105 a g23 L24) := hD
            refine lv_aload_n hx hb dX2_tryFrom_72 rfl (lv_at hl 0 rfl) ?_
            refine lv_iload_n hx hb dX2_tryFrom_73 rfl (lv_at hl 1 rfl) ?_
            refine lv_iconst (v := 1) hx hb dX2_tryFrom_74 (by decide) ?_
            refine lv_iadd hx hb dX2_tryFrom_75 ?_
            refine lv_iload_n hx hb dX2_tryFrom_76 rfl (lv_at hl 2 rfl) ?_
            obtain ⟨z_, g27, L28, hf29, h⟩ := cb_some h
            refine x_callVv (rest := []) li_X2_60 C (rX2_tryFrom_10_L8 l G H.size b a fu g23 L24 (p1 + 1) p2 z_ (g27, L28) hf29) (kR rfl) hP hD hS 10 2 rfl (zat (by decide) xs_10) rfl hl.1 rfl (Nat.le_of_ble_eq_true rfl) dX2_tryFrom_77 (fun u_ H locs e_ hP hD hS => ?_)
            have hP : va_P G.1 vwCl (zw G (XS b) 105 a g27 L28) H := hP
            have hD : va_D A (zw G (XS b) 105 a g27 L28) := hD
            refine lv_goto (tgt := 89) hx hb dX2_tryFrom_80 (by decide) ?_
            exact J89 g27 L28 H locs ls h hP hD hS (lv_sub hl [] rfl)
        ·
          have h := ite_t c12 h
          refine lv_aload_n hx hb dX2_tryFrom_42 rfl (lv_at hl 0 rfl) ?_
          refine lv_iload_n hx hb dX2_tryFrom_43 rfl (lv_at hl 1 rfl) ?_
          refine lv_iconst (v := 1) hx hb dX2_tryFrom_44 (by decide) ?_
          refine lv_iadd hx hb dX2_tryFrom_45 ?_
          refine lv_iload_n hx hb dX2_tryFrom_46 rfl (lv_at hl 2 rfl) ?_
          obtain ⟨z_, g31, L32, hf33, h⟩ := cb_some h
          refine x_callVv (rest := []) li_X2_60 C (rX2_tryFrom_10_L8 l G H.size b a fu g9 L10 (p1 + 1) p2 z_ (g31, L32) hf33) (kR rfl) hP hD hS 10 2 rfl (zat (by decide) xs_10) rfl hl.1 rfl (Nat.le_of_ble_eq_true rfl) dX2_tryFrom_47 (fun u_ H locs e_ hP hD hS => ?_)
          have hP : va_P G.1 vwCl (zw G (XS b) 105 a g31 L32) H := hP
          have hD : va_D A (zw G (XS b) 105 a g31 L32) := hD
          refine lv_goto (tgt := 89) hx hb dX2_tryFrom_50 (by decide) ?_
          exact J89 g31 L32 H locs ls h hP hD hS (lv_sub hl [] rfl)
      ·
        have h := ite_e c7 h
        exact J23 p2 g L H locs ls h hP hD hS (lv_sub hl [0, 2] rfl)
  ·
    have h := ite_e c1 h
    exact y_vret C hr hlk hP hD hS h (Nat.le_of_ble_eq_true rfl) (Nat.le_of_ble_eq_true rfl) dX2_tryFrom_8
set_option maxHeartbeats 4000000 in
set_option maxRecDepth 100000 in
theorem rX2_tryGapsOf_10_L10 (l : Launch) (G : kG) (sz : Nat) (b : Nat) (a : Nat → Nat) (fu : Nat) (g : Nat → Nat → Int32) (L : Nat → Nat → Int64) (p1 : Int32) (p2 : Int32) (res : Unit) (s9 : zS) (h : fX2_tryGapsOf_10 fu (fX2_tryFrom_10 fu 9) p1 p2 g L = some (res, s9)) : kM l yX2_tryGapsOf cX2_tryGapsOf 5 none { frames := 28, cells := 0, slots := 0, locals := 617 } G [.ref (a 10), .int p1, .int p2] (zw G (XS b) 105 a g L) sz (kQv G (S := Unit) (fun _ => True) (fun _ => zw G (XS b) 105 a s9.1 s9.2)) := by
  refine kM.of (by decide) (Nat.le_of_ble_eq_true rfl) ?_
  intro p e s m below meth c A ls H C hr hlk hnm hP hD hS hl
  have C : kC G p s m c cX2_tryGapsOf 5 RX2 A := C
  have hx := C.1
  have hb := C.2.1
  have hl : lv_has ls 5 [(0, .ref (a 10)), (1, .int p1), (2, .int p2)] := hl
  obtain ⟨locs, hlocs⟩ : ∃ q : List Loc, q = [] := ⟨_, rfl⟩
  rw [← hlocs] at hS
  rw [← hlocs]
  unfold fX2_tryGapsOf_10 at h
  refine lv_iconst (v := -1) hx hb dX2_tryGapsOf_0 (by decide) ?_
  refine lv_istore_n (lv' := [(3, .int (-1)), (0, .ref (a 10)), (1, .int p1), (2, .int p2)]) hx hb dX2_tryGapsOf_1 rfl hl (by decide) rfl (fun ls hl => ?_)
  refine lv_iconst (v := 0) hx hb dX2_tryGapsOf_2 (by decide) ?_
  refine lv_istore (lv' := [(4, .int 0), (3, .int (-1)), (0, .ref (a 10)), (1, .int p1), (2, .int p2)]) hx hb dX2_tryGapsOf_3 hl (by decide) rfl (fun ls hl => ?_)
  have lp5 : ∀ (v1 : Int32) (v2 : Int32), ∀ (n : Nat) (v : Int32 × Int32 × (Nat → Nat → Int32) × (Nat → Nat → Int64)), whileK (fun k v => fX2_tryGapsOf_10_s5 fu (fX2_tryFrom_10 fu 9) v1 v2 k v.1 v.2.1 v.2.2.1 v.2.2.2) n v = some (res, s9) → ∀ (H : Heap) (locs : List Loc) (ls : Array Slot), va_P G.1 vwCl (zw G (XS b) 105 a (v.2.2.1) (v.2.2.2)) H → va_D A (zw G (XS b) 105 a (v.2.2.1) (v.2.2.2)) → va_S A s.heap H locs → lv_has ls 5 [(0, .ref (a 10)), (1, .int v1), (2, .int v2), (3, .int (v.1)), (4, .int (v.2.1))] → W p l e { frames := 28, cells := 0, slots := 0, locals := 617 } s m [.ref (a 10), .int p1, .int p2].toArray below meth c H locs 0 0 (MQ below ((kQv G (S := Unit) (fun _ => True) (fun _ => zw G (XS b) 105 a s9.1 s9.2)) A) [.ref (a 10), .int p1, .int p2].toArray s 0 0 A) (F0 m 5 ls []) := by
    intro v1 v2
    refine while_ind (fun k5 ih5 v h => ?_)
    obtain ⟨v3, v4, g, L⟩ := v
    intro H locs ls hP hD hS hl
    have h : fX2_tryGapsOf_10_s5 fu (fX2_tryFrom_10 fu 9) v1 v2 k5 v3 v4 g L = some (res, s9) := h
    have hP : va_P G.1 vwCl (zw G (XS b) 105 a g L) H := hP
    have hD : va_D A (zw G (XS b) 105 a g L) := hD
    have hl : lv_has ls 5 [(0, .ref (a 10)), (1, .int v1), (2, .int v2), (3, .int v3), (4, .int v4)] := hl
    show W p l e { frames := 28, cells := 0, slots := 0, locals := 617 } s m [.ref (a 10), .int p1, .int p2].toArray below meth c H locs 0 0 (MQ below ((kQv G (S := Unit) (fun _ => True) (fun _ => zw G (XS b) 105 a s9.1 s9.2)) A) [.ref (a 10), .int p1, .int p2].toArray s 0 0 A) (F0 m 5 ls [])
    unfold fX2_tryGapsOf_10_s5 at h
    refine lv_iload hx hb dX2_tryGapsOf_5 (lv_at hl 4 rfl) ?_
    refine lv_iconst (v := 4) hx hb dX2_tryGapsOf_7 (by decide) ?_
    refine lv_icmp_gt (x := v4) (y := 4) (tgt := 70) hx hb dX2_tryGapsOf_8 (by decide) (fun c1 => ?_) (fun c1 => ?_)
    ·
      have h := ite_t c1 h
      exact y_vret C hr hlk hP hD hS h (Nat.le_of_ble_eq_true rfl) (Nat.le_of_ble_eq_true rfl) dX2_tryGapsOf_70
    ·
      have h := ite_e c1 h
      refine lv_aload_n hx hb dX2_tryGapsOf_11 rfl (lv_at hl 0 rfl) ?_
      refine x_getr (Or.inl fl_X2_28) C hP (by decide) xs_10 rfl dX2_tryGapsOf_12 ?_
      refine x_getr (Or.inr fl_X2_45) C hP (by decide) xs_6 rfl dX2_tryGapsOf_15 ?_
      refine lv_iload_n hx hb dX2_tryGapsOf_18 rfl (lv_at hl 1 rfl) ?_
      refine lv_iload hx hb dX2_tryGapsOf_19 (lv_at hl 4 rfl) ?_
      refine y_ast C hP hD hS (by decide) xs_26 dX2_tryGapsOf_21 h (fun g2 H locs h hP hD hS => ?_)
      refine lv_aload_n hx hb dX2_tryGapsOf_22 rfl (lv_at hl 0 rfl) ?_
      refine x_getr (Or.inl fl_X2_18) C hP (by decide) xs_10 rfl dX2_tryGapsOf_23 ?_
      refine lv_iload_n hx hb dX2_tryGapsOf_26 rfl (lv_at hl 1 rfl) ?_
      obtain ⟨z_, g4, L5, hf6, h⟩ := cb_some h
      refine x_callNv (rest := []) li_X2_86 C (rX1_runOne_8 l G H.size b a fu g2 L v1 z_ (g4, L5) hf6) (kR rfl) hP hD hS 8 1 rfl (zat (by decide) xs_8) rfl hl.1 rfl (Nat.le_of_ble_eq_true rfl) dX2_tryGapsOf_27 (fun u_ H locs e_ hP hD hS => ?_)
      have hP : va_P G.1 vwCl (zw G (XS b) 105 a g4 L5) H := hP
      have hD : va_D A (zw G (XS b) 105 a g4 L5) := hD
      refine lv_aload_n hx hb dX2_tryGapsOf_30 rfl (lv_at hl 0 rfl) ?_
      refine x_getr (Or.inl fl_X2_18) C hP (by decide) xs_10 rfl dX2_tryGapsOf_31 ?_
      refine x_getr (Or.inr fl_X2_92) C hP (by decide) xs_8 rfl dX2_tryGapsOf_34 ?_
      refine lv_iload_n hx hb dX2_tryGapsOf_37 rfl (lv_at hl 1 rfl) ?_
      refine y_ald C hP (by decide) xs_44 dX2_tryGapsOf_38 h (fun h => ?_)
      refine lv_iload_n hx hb dX2_tryGapsOf_39 rfl (lv_at hl 3 rfl) ?_
      have J64 : ∀ (v3 : Int32) (v4 : Int32) (g : Nat → Nat → Int32) (L : Nat → Nat → Int64) (H : Heap) (locs : List Loc) (ls : Array Slot), fX2_tryGapsOf_10_p64 fu (fX2_tryFrom_10 fu 9) k5 v1 v2 v3 v4 g L = some (res, s9) → va_P G.1 vwCl (zw G (XS b) 105 a g L) H → va_D A (zw G (XS b) 105 a g L) → va_S A s.heap H locs → lv_has ls 5 [(0, .ref (a 10)), (1, .int v1), (2, .int v2), (3, .int v3), (4, .int v4)] → W p l e { frames := 28, cells := 0, slots := 0, locals := 617 } s m [.ref (a 10), .int p1, .int p2].toArray below meth c H locs 0 0 (MQ below ((kQv G (S := Unit) (fun _ => True) (fun _ => zw G (XS b) 105 a s9.1 s9.2)) A) [.ref (a 10), .int p1, .int p2].toArray s 0 0 A) (F0 m 64 ls []) := by
        intro v3 v4 g L H locs ls h hP hD hS hl
        unfold fX2_tryGapsOf_10_p64 at h
        refine lv_iinc (v := (v4 + 1)) (lv' := [(4, .int (v4 + 1)), (0, .ref (a 10)), (1, .int v1), (2, .int v2), (3, .int v3)]) hx hb dX2_tryGapsOf_64 hl (k := 4) rfl rfl (by decide) rfl (fun ls hl => ?_)
        refine lv_goto (tgt := 5) hx hb dX2_tryGapsOf_67 (by decide) ?_
        exact ih5 (v3, (v4 + 1), g, L) h H locs ls hP hD hS (lv_sub hl [1, 2, 3, 4, 0] rfl)
      refine lv_icmp_eq (x := (g4 44 (Int32.toNatClampNeg v1))) (y := v3) (tgt := 64) hx hb dX2_tryGapsOf_40 (by decide) (fun c7 => ?_) (fun c7 => ?_)
      ·
        have h := ite_t c7 h
        exact J64 v3 v4 g4 L5 H locs ls h hP hD hS (lv_sub hl [0, 1, 2, 3, 4] rfl)
      ·
        have h := ite_e c7 h
        refine lv_aload_n hx hb dX2_tryGapsOf_43 rfl (lv_at hl 0 rfl) ?_
        refine x_getr (Or.inl fl_X2_18) C hP (by decide) xs_10 rfl dX2_tryGapsOf_44 ?_
        refine x_getr (Or.inr fl_X2_92) C hP (by decide) xs_8 rfl dX2_tryGapsOf_47 ?_
        refine lv_iload_n hx hb dX2_tryGapsOf_50 rfl (lv_at hl 1 rfl) ?_
        refine y_ald C hP (by decide) xs_44 dX2_tryGapsOf_51 h (fun h => ?_)
        refine y_let h (fun x8 h => ?_)
        refine lv_istore_n (lv' := [(3, .int x8), (0, .ref (a 10)), (1, .int v1), (2, .int v2), (4, .int v4)]) hx hb dX2_tryGapsOf_52 rfl hl (by decide) rfl (fun ls hl => ?_)
        refine lv_aload_n hx hb dX2_tryGapsOf_53 rfl (lv_at hl 1 rfl) ?_
        refine lv_iload_n hx hb dX2_tryGapsOf_54 rfl (lv_at hl 2 rfl) ?_
        refine lv_iconst (v := 1) hx hb dX2_tryGapsOf_55 (by decide) ?_
        refine lv_iadd hx hb dX2_tryGapsOf_56 ?_
        refine lv_iload_n hx hb dX2_tryGapsOf_57 rfl (lv_at hl 3 rfl) ?_
        refine lv_iload hx hb dX2_tryGapsOf_58 (lv_at hl 4 rfl) ?_
        refine lv_iadd hx hb dX2_tryGapsOf_60 ?_
        obtain ⟨z_, g10, L11, hf12, h⟩ := cb_some h
        refine x_callVv (rest := []) li_X2_60 C (rX2_tryFrom_10_L9 l G H.size b a fu g4 L5 (v1 + 1) (v2 + v4) z_ (g10, L11) hf12) (kR rfl) hP hD hS 10 2 rfl (zat (by decide) xs_10) rfl hl.1 rfl (Nat.le_of_ble_eq_true rfl) dX2_tryGapsOf_61 (fun u_ H locs e_ hP hD hS => ?_)
        have hP : va_P G.1 vwCl (zw G (XS b) 105 a g10 L11) H := hP
        have hD : va_D A (zw G (XS b) 105 a g10 L11) := hD
        exact J64 x8 v4 g10 L11 H locs ls h hP hD hS (lv_sub hl [1, 2, 3, 0, 4] rfl)
  exact lp5 p1 p2 fu ((-1), 0, g, L) h H locs ls hP hD hS (lv_sub hl [2, 3, 4, 1, 0] rfl)
set_option maxHeartbeats 4000000 in
set_option maxRecDepth 100000 in
theorem rX2_tryFrom_10_L10 (l : Launch) (G : kG) (sz : Nat) (b : Nat) (a : Nat → Nat) (fu : Nat) (g : Nat → Nat → Int32) (L : Nat → Nat → Int64) (p1 : Int32) (p2 : Int32) (res : Unit) (s9 : zS) (h : fX2_tryFrom_10 fu 10 p1 p2 g L = some (res, s9)) : kM l yX2_tryFrom cX2_tryFrom 3 none { frames := 29, cells := 0, slots := 0, locals := 641 } G [.ref (a 10), .int p1, .int p2] (zw G (XS b) 105 a g L) sz (kQv G (S := Unit) (fun _ => True) (fun _ => zw G (XS b) 105 a s9.1 s9.2)) := by
  refine kM.of (by decide) (Nat.le_of_ble_eq_true rfl) ?_
  intro p e s m below meth c A ls H C hr hlk hnm hP hD hS hl
  have C : kC G p s m c cX2_tryFrom 3 RX2 A := C
  have hx := C.1
  have hb := C.2.1
  have hl : lv_has ls 3 [(0, .ref (a 10)), (1, .int p1), (2, .int p2)] := hl
  obtain ⟨locs, hlocs⟩ : ∃ q : List Loc, q = [] := ⟨_, rfl⟩
  rw [← hlocs] at hS
  rw [← hlocs]
  rw [fX2_tryFrom_10_succ] at h
  unfold fX2_tryFrom_10B at h
  refine lv_iload_n hx hb dX2_tryFrom_0 rfl (lv_at hl 2 rfl) ?_
  refine lv_aload_n hx hb dX2_tryFrom_1 rfl (lv_at hl 0 rfl) ?_
  refine x_getv (v := .int (g 10 8)) (Or.inl fl_X2_39) C hP (by decide) xs_10 rfl dX2_tryFrom_2 ?_
  refine lv_icmp_lt (x := p2) (y := (g 10 8)) (tgt := 9) hx hb dX2_tryFrom_5 (by decide) (fun c1 => ?_) (fun c1 => ?_)
  ·
    have h := ite_t c1 h
    refine lv_iload_n hx hb dX2_tryFrom_9 rfl (lv_at hl 1 rfl) ?_
    refine lv_aload_n hx hb dX2_tryFrom_10 rfl (lv_at hl 0 rfl) ?_
    refine x_getv (v := .int (g 10 5)) (Or.inl fl_X2_36) C hP (by decide) xs_10 rfl dX2_tryFrom_11 ?_
    have J89 : ∀ (g : Nat → Nat → Int32) (L : Nat → Nat → Int64) (H : Heap) (locs : List Loc) (ls : Array Slot), fX2_tryFrom_10_p89 fu (fX2_tryFrom_10 fu 9) g L = some (res, s9) → va_P G.1 vwCl (zw G (XS b) 105 a g L) H → va_D A (zw G (XS b) 105 a g L) → va_S A s.heap H locs → lv_has ls 3 [] → W p l e { frames := 29, cells := 0, slots := 0, locals := 641 } s m [.ref (a 10), .int p1, .int p2].toArray below meth c H locs 0 0 (MQ below ((kQv G (S := Unit) (fun _ => True) (fun _ => zw G (XS b) 105 a s9.1 s9.2)) A) [.ref (a 10), .int p1, .int p2].toArray s 0 0 A) (F0 m 89 ls []) := by
      intro g L H locs ls h hP hD hS hl
      unfold fX2_tryFrom_10_p89 at h
      exact y_vret C hr hlk hP hD hS h (Nat.le_of_ble_eq_true rfl) (Nat.le_of_ble_eq_true rfl) dX2_tryFrom_89
    have J23 : ∀ (v2 : Int32) (g : Nat → Nat → Int32) (L : Nat → Nat → Int64) (H : Heap) (locs : List Loc) (ls : Array Slot), fX2_tryFrom_10_p23 fu (fX2_tryFrom_10 fu 9) v2 g L = some (res, s9) → va_P G.1 vwCl (zw G (XS b) 105 a g L) H → va_D A (zw G (XS b) 105 a g L) → va_S A s.heap H locs → lv_has ls 3 [(0, .ref (a 10)), (2, .int v2)] → W p l e { frames := 29, cells := 0, slots := 0, locals := 641 } s m [.ref (a 10), .int p1, .int p2].toArray below meth c H locs 0 0 (MQ below ((kQv G (S := Unit) (fun _ => True) (fun _ => zw G (XS b) 105 a s9.1 s9.2)) A) [.ref (a 10), .int p1, .int p2].toArray s 0 0 A) (F0 m 23 ls []) := by
      intro v2 g L H locs ls h hP hD hS hl
      unfold fX2_tryFrom_10_p23 at h
      refine lv_aload_n hx hb dX2_tryFrom_23 rfl (lv_at hl 0 rfl) ?_
      refine lv_iload_n hx hb dX2_tryFrom_24 rfl (lv_at hl 1 rfl) ?_
      obtain ⟨z_, g3, L4, hf5, h⟩ := cb_some h
      refine x_callVv (rest := []) li_X2_82 C (rX2_takeIfOnTime_10 l G H.size b a fu g L v2 z_ (g3, L4) hf5) (kR rfl) hP hD hS 10 2 rfl (zat (by decide) xs_10) rfl hl.1 rfl (Nat.le_of_ble_eq_true rfl) dX2_tryFrom_25 (fun u_ H locs e_ hP hD hS => ?_)
      have hP : va_P G.1 vwCl (zw G (XS b) 105 a g3 L4) H := hP
      have hD : va_D A (zw G (XS b) 105 a g3 L4) := hD
      refine lv_goto (tgt := 89) hx hb dX2_tryFrom_28 (by decide) ?_
      exact J89 g3 L4 H locs ls h hP hD hS (lv_sub hl [] rfl)
    refine lv_icmp_gt (x := p1) (y := (g 10 5)) (tgt := 23) hx hb dX2_tryFrom_14 (by decide) (fun c6 => ?_) (fun c6 => ?_)
    ·
      have h := ite_t c6 h
      exact J23 p2 g L H locs ls h hP hD hS (lv_sub hl [0, 2] rfl)
    ·
      have h := ite_e c6 h
      refine lv_iload_n hx hb dX2_tryFrom_17 rfl (lv_at hl 1 rfl) ?_
      refine lv_bipush (v := 12) hx hb dX2_tryFrom_18 (by decide) ?_
      refine lv_icmp_lt (x := p1) (y := 12) (tgt := 31) hx hb dX2_tryFrom_20 (by decide) (fun c7 => ?_) (fun c7 => ?_)
      ·
        have h := ite_t c7 h
        refine lv_aload_n hx hb dX2_tryFrom_31 rfl (lv_at hl 0 rfl) ?_
        refine x_getv (v := .int (g 10 7)) (Or.inl fl_X2_64) C hP (by decide) xs_10 rfl dX2_tryFrom_32 ?_
        refine lv_iload_n hx hb dX2_tryFrom_35 rfl (lv_at hl 1 rfl) ?_
        obtain ⟨z_, g9, L10, hf11, h⟩ := cb_some h
        refine x_callSi (rest := []) li_X2_56 C (rX2_isIn l G H.size b a fu g L (g 10 7) p1 z_ (g9, L10) hf11) (kR rfl) hP hD hS rfl hl.1 rfl (Nat.le_of_ble_eq_true rfl) dX2_tryFrom_36 (fun x8 u_ H locs e_ hP hD hS => ?_)
        have e_ : x8 = z_ := e_
        subst e_
        have hP : va_P G.1 vwCl (zw G (XS b) 105 a g9 L10) H := hP
        have hD : va_D A (zw G (XS b) 105 a g9 L10) := hD
        refine lv_if_ne (x := x8) (tgt := 53) hx hb dX2_tryFrom_39 (by decide) (fun c12 => ?_) (fun c12 => ?_)
        ·
          have h := ite_e c12 h
          refine lv_aload_n hx hb dX2_tryFrom_53 rfl (lv_at hl 0 rfl) ?_
          refine x_getv (v := .int (g9 10 4)) (Or.inl fl_X2_29) C hP (by decide) xs_10 rfl dX2_tryFrom_54 ?_
          refine lv_iload_n hx hb dX2_tryFrom_57 rfl (lv_at hl 1 rfl) ?_
          obtain ⟨z_, g14, L15, hf16, h⟩ := cb_some h
          refine x_callSi (rest := []) li_X2_56 C (rX2_isIn l G H.size b a fu g9 L10 (g9 10 4) p1 z_ (g14, L15) hf16) (kR rfl) hP hD hS rfl hl.1 rfl (Nat.le_of_ble_eq_true rfl) dX2_tryFrom_58 (fun x13 u_ H locs e_ hP hD hS => ?_)
          have e_ : x13 = z_ := e_
          subst e_
          have hP : va_P G.1 vwCl (zw G (XS b) 105 a g14 L15) H := hP
          have hD : va_D A (zw G (XS b) 105 a g14 L15) := hD
          refine lv_if_ne (x := x13) (tgt := 83) hx hb dX2_tryFrom_61 (by decide) (fun c17 => ?_) (fun c17 => ?_)
          ·
            have h := ite_e c17 h
            refine lv_aload_n hx hb dX2_tryFrom_83 rfl (lv_at hl 0 rfl) ?_
            refine lv_iload_n hx hb dX2_tryFrom_84 rfl (lv_at hl 1 rfl) ?_
            refine lv_iload_n hx hb dX2_tryFrom_85 rfl (lv_at hl 2 rfl) ?_
            obtain ⟨z_, g19, L20, hf21, h⟩ := cb_some h
            refine x_callVv (rest := []) li_X2_89 C (rX2_tryGapsOf_10_L10 l G H.size b a fu g14 L15 p1 p2 z_ (g19, L20) hf21) (kR rfl) hP hD hS 10 2 rfl (zat (by decide) xs_10) rfl hl.1 rfl (Nat.le_of_ble_eq_true rfl) dX2_tryFrom_86 (fun u_ H locs e_ hP hD hS => ?_)
            have hP : va_P G.1 vwCl (zw G (XS b) 105 a g19 L20) H := hP
            have hD : va_D A (zw G (XS b) 105 a g19 L20) := hD
            exact J89 g19 L20 H locs ls h hP hD hS (lv_sub hl [] rfl)
          ·
            have h := ite_t c17 h
            refine lv_aload_n hx hb dX2_tryFrom_64 rfl (lv_at hl 0 rfl) ?_
            refine x_getr (Or.inl fl_X2_18) C hP (by decide) xs_10 rfl dX2_tryFrom_65 ?_
            refine lv_iload_n hx hb dX2_tryFrom_68 rfl (lv_at hl 1 rfl) ?_
            obtain ⟨z_, g23, L24, hf25, h⟩ := cb_some h
            refine x_callNv (rest := []) li_X2_86 C (rX1_runOne_8 l G H.size b a fu g14 L15 p1 z_ (g23, L24) hf25) (kR rfl) hP hD hS 8 1 rfl (zat (by decide) xs_8) rfl hl.1 rfl (Nat.le_of_ble_eq_true rfl) dX2_tryFrom_69 (fun u_ H locs e_ hP hD hS => ?_)
            have hP : va_P G.1 vwCl (zw G (XS b) 105 a g23 L24) H := hP
            have hD : va_D A (zw G (XS b) 105 a g23 L24) := hD
            refine lv_aload_n hx hb dX2_tryFrom_72 rfl (lv_at hl 0 rfl) ?_
            refine lv_iload_n hx hb dX2_tryFrom_73 rfl (lv_at hl 1 rfl) ?_
            refine lv_iconst (v := 1) hx hb dX2_tryFrom_74 (by decide) ?_
            refine lv_iadd hx hb dX2_tryFrom_75 ?_
            refine lv_iload_n hx hb dX2_tryFrom_76 rfl (lv_at hl 2 rfl) ?_
            obtain ⟨z_, g27, L28, hf29, h⟩ := cb_some h
            refine x_callVv (rest := []) li_X2_60 C (rX2_tryFrom_10_L9 l G H.size b a fu g23 L24 (p1 + 1) p2 z_ (g27, L28) hf29) (kR rfl) hP hD hS 10 2 rfl (zat (by decide) xs_10) rfl hl.1 rfl (Nat.le_of_ble_eq_true rfl) dX2_tryFrom_77 (fun u_ H locs e_ hP hD hS => ?_)
            have hP : va_P G.1 vwCl (zw G (XS b) 105 a g27 L28) H := hP
            have hD : va_D A (zw G (XS b) 105 a g27 L28) := hD
            refine lv_goto (tgt := 89) hx hb dX2_tryFrom_80 (by decide) ?_
            exact J89 g27 L28 H locs ls h hP hD hS (lv_sub hl [] rfl)
        ·
          have h := ite_t c12 h
          refine lv_aload_n hx hb dX2_tryFrom_42 rfl (lv_at hl 0 rfl) ?_
          refine lv_iload_n hx hb dX2_tryFrom_43 rfl (lv_at hl 1 rfl) ?_
          refine lv_iconst (v := 1) hx hb dX2_tryFrom_44 (by decide) ?_
          refine lv_iadd hx hb dX2_tryFrom_45 ?_
          refine lv_iload_n hx hb dX2_tryFrom_46 rfl (lv_at hl 2 rfl) ?_
          obtain ⟨z_, g31, L32, hf33, h⟩ := cb_some h
          refine x_callVv (rest := []) li_X2_60 C (rX2_tryFrom_10_L9 l G H.size b a fu g9 L10 (p1 + 1) p2 z_ (g31, L32) hf33) (kR rfl) hP hD hS 10 2 rfl (zat (by decide) xs_10) rfl hl.1 rfl (Nat.le_of_ble_eq_true rfl) dX2_tryFrom_47 (fun u_ H locs e_ hP hD hS => ?_)
          have hP : va_P G.1 vwCl (zw G (XS b) 105 a g31 L32) H := hP
          have hD : va_D A (zw G (XS b) 105 a g31 L32) := hD
          refine lv_goto (tgt := 89) hx hb dX2_tryFrom_50 (by decide) ?_
          exact J89 g31 L32 H locs ls h hP hD hS (lv_sub hl [] rfl)
      ·
        have h := ite_e c7 h
        exact J23 p2 g L H locs ls h hP hD hS (lv_sub hl [0, 2] rfl)
  ·
    have h := ite_e c1 h
    exact y_vret C hr hlk hP hD hS h (Nat.le_of_ble_eq_true rfl) (Nat.le_of_ble_eq_true rfl) dX2_tryFrom_8
set_option maxHeartbeats 4000000 in
set_option maxRecDepth 100000 in
theorem rX2_tryGapsOf_10_L11 (l : Launch) (G : kG) (sz : Nat) (b : Nat) (a : Nat → Nat) (fu : Nat) (g : Nat → Nat → Int32) (L : Nat → Nat → Int64) (p1 : Int32) (p2 : Int32) (res : Unit) (s9 : zS) (h : fX2_tryGapsOf_10 fu (fX2_tryFrom_10 fu 10) p1 p2 g L = some (res, s9)) : kM l yX2_tryGapsOf cX2_tryGapsOf 5 none { frames := 30, cells := 0, slots := 0, locals := 663 } G [.ref (a 10), .int p1, .int p2] (zw G (XS b) 105 a g L) sz (kQv G (S := Unit) (fun _ => True) (fun _ => zw G (XS b) 105 a s9.1 s9.2)) := by
  refine kM.of (by decide) (Nat.le_of_ble_eq_true rfl) ?_
  intro p e s m below meth c A ls H C hr hlk hnm hP hD hS hl
  have C : kC G p s m c cX2_tryGapsOf 5 RX2 A := C
  have hx := C.1
  have hb := C.2.1
  have hl : lv_has ls 5 [(0, .ref (a 10)), (1, .int p1), (2, .int p2)] := hl
  obtain ⟨locs, hlocs⟩ : ∃ q : List Loc, q = [] := ⟨_, rfl⟩
  rw [← hlocs] at hS
  rw [← hlocs]
  unfold fX2_tryGapsOf_10 at h
  refine lv_iconst (v := -1) hx hb dX2_tryGapsOf_0 (by decide) ?_
  refine lv_istore_n (lv' := [(3, .int (-1)), (0, .ref (a 10)), (1, .int p1), (2, .int p2)]) hx hb dX2_tryGapsOf_1 rfl hl (by decide) rfl (fun ls hl => ?_)
  refine lv_iconst (v := 0) hx hb dX2_tryGapsOf_2 (by decide) ?_
  refine lv_istore (lv' := [(4, .int 0), (3, .int (-1)), (0, .ref (a 10)), (1, .int p1), (2, .int p2)]) hx hb dX2_tryGapsOf_3 hl (by decide) rfl (fun ls hl => ?_)
  have lp5 : ∀ (v1 : Int32) (v2 : Int32), ∀ (n : Nat) (v : Int32 × Int32 × (Nat → Nat → Int32) × (Nat → Nat → Int64)), whileK (fun k v => fX2_tryGapsOf_10_s5 fu (fX2_tryFrom_10 fu 10) v1 v2 k v.1 v.2.1 v.2.2.1 v.2.2.2) n v = some (res, s9) → ∀ (H : Heap) (locs : List Loc) (ls : Array Slot), va_P G.1 vwCl (zw G (XS b) 105 a (v.2.2.1) (v.2.2.2)) H → va_D A (zw G (XS b) 105 a (v.2.2.1) (v.2.2.2)) → va_S A s.heap H locs → lv_has ls 5 [(0, .ref (a 10)), (1, .int v1), (2, .int v2), (3, .int (v.1)), (4, .int (v.2.1))] → W p l e { frames := 30, cells := 0, slots := 0, locals := 663 } s m [.ref (a 10), .int p1, .int p2].toArray below meth c H locs 0 0 (MQ below ((kQv G (S := Unit) (fun _ => True) (fun _ => zw G (XS b) 105 a s9.1 s9.2)) A) [.ref (a 10), .int p1, .int p2].toArray s 0 0 A) (F0 m 5 ls []) := by
    intro v1 v2
    refine while_ind (fun k5 ih5 v h => ?_)
    obtain ⟨v3, v4, g, L⟩ := v
    intro H locs ls hP hD hS hl
    have h : fX2_tryGapsOf_10_s5 fu (fX2_tryFrom_10 fu 10) v1 v2 k5 v3 v4 g L = some (res, s9) := h
    have hP : va_P G.1 vwCl (zw G (XS b) 105 a g L) H := hP
    have hD : va_D A (zw G (XS b) 105 a g L) := hD
    have hl : lv_has ls 5 [(0, .ref (a 10)), (1, .int v1), (2, .int v2), (3, .int v3), (4, .int v4)] := hl
    show W p l e { frames := 30, cells := 0, slots := 0, locals := 663 } s m [.ref (a 10), .int p1, .int p2].toArray below meth c H locs 0 0 (MQ below ((kQv G (S := Unit) (fun _ => True) (fun _ => zw G (XS b) 105 a s9.1 s9.2)) A) [.ref (a 10), .int p1, .int p2].toArray s 0 0 A) (F0 m 5 ls [])
    unfold fX2_tryGapsOf_10_s5 at h
    refine lv_iload hx hb dX2_tryGapsOf_5 (lv_at hl 4 rfl) ?_
    refine lv_iconst (v := 4) hx hb dX2_tryGapsOf_7 (by decide) ?_
    refine lv_icmp_gt (x := v4) (y := 4) (tgt := 70) hx hb dX2_tryGapsOf_8 (by decide) (fun c1 => ?_) (fun c1 => ?_)
    ·
      have h := ite_t c1 h
      exact y_vret C hr hlk hP hD hS h (Nat.le_of_ble_eq_true rfl) (Nat.le_of_ble_eq_true rfl) dX2_tryGapsOf_70
    ·
      have h := ite_e c1 h
      refine lv_aload_n hx hb dX2_tryGapsOf_11 rfl (lv_at hl 0 rfl) ?_
      refine x_getr (Or.inl fl_X2_28) C hP (by decide) xs_10 rfl dX2_tryGapsOf_12 ?_
      refine x_getr (Or.inr fl_X2_45) C hP (by decide) xs_6 rfl dX2_tryGapsOf_15 ?_
      refine lv_iload_n hx hb dX2_tryGapsOf_18 rfl (lv_at hl 1 rfl) ?_
      refine lv_iload hx hb dX2_tryGapsOf_19 (lv_at hl 4 rfl) ?_
      refine y_ast C hP hD hS (by decide) xs_26 dX2_tryGapsOf_21 h (fun g2 H locs h hP hD hS => ?_)
      refine lv_aload_n hx hb dX2_tryGapsOf_22 rfl (lv_at hl 0 rfl) ?_
      refine x_getr (Or.inl fl_X2_18) C hP (by decide) xs_10 rfl dX2_tryGapsOf_23 ?_
      refine lv_iload_n hx hb dX2_tryGapsOf_26 rfl (lv_at hl 1 rfl) ?_
      obtain ⟨z_, g4, L5, hf6, h⟩ := cb_some h
      refine x_callNv (rest := []) li_X2_86 C (rX1_runOne_8 l G H.size b a fu g2 L v1 z_ (g4, L5) hf6) (kR rfl) hP hD hS 8 1 rfl (zat (by decide) xs_8) rfl hl.1 rfl (Nat.le_of_ble_eq_true rfl) dX2_tryGapsOf_27 (fun u_ H locs e_ hP hD hS => ?_)
      have hP : va_P G.1 vwCl (zw G (XS b) 105 a g4 L5) H := hP
      have hD : va_D A (zw G (XS b) 105 a g4 L5) := hD
      refine lv_aload_n hx hb dX2_tryGapsOf_30 rfl (lv_at hl 0 rfl) ?_
      refine x_getr (Or.inl fl_X2_18) C hP (by decide) xs_10 rfl dX2_tryGapsOf_31 ?_
      refine x_getr (Or.inr fl_X2_92) C hP (by decide) xs_8 rfl dX2_tryGapsOf_34 ?_
      refine lv_iload_n hx hb dX2_tryGapsOf_37 rfl (lv_at hl 1 rfl) ?_
      refine y_ald C hP (by decide) xs_44 dX2_tryGapsOf_38 h (fun h => ?_)
      refine lv_iload_n hx hb dX2_tryGapsOf_39 rfl (lv_at hl 3 rfl) ?_
      have J64 : ∀ (v3 : Int32) (v4 : Int32) (g : Nat → Nat → Int32) (L : Nat → Nat → Int64) (H : Heap) (locs : List Loc) (ls : Array Slot), fX2_tryGapsOf_10_p64 fu (fX2_tryFrom_10 fu 10) k5 v1 v2 v3 v4 g L = some (res, s9) → va_P G.1 vwCl (zw G (XS b) 105 a g L) H → va_D A (zw G (XS b) 105 a g L) → va_S A s.heap H locs → lv_has ls 5 [(0, .ref (a 10)), (1, .int v1), (2, .int v2), (3, .int v3), (4, .int v4)] → W p l e { frames := 30, cells := 0, slots := 0, locals := 663 } s m [.ref (a 10), .int p1, .int p2].toArray below meth c H locs 0 0 (MQ below ((kQv G (S := Unit) (fun _ => True) (fun _ => zw G (XS b) 105 a s9.1 s9.2)) A) [.ref (a 10), .int p1, .int p2].toArray s 0 0 A) (F0 m 64 ls []) := by
        intro v3 v4 g L H locs ls h hP hD hS hl
        unfold fX2_tryGapsOf_10_p64 at h
        refine lv_iinc (v := (v4 + 1)) (lv' := [(4, .int (v4 + 1)), (0, .ref (a 10)), (1, .int v1), (2, .int v2), (3, .int v3)]) hx hb dX2_tryGapsOf_64 hl (k := 4) rfl rfl (by decide) rfl (fun ls hl => ?_)
        refine lv_goto (tgt := 5) hx hb dX2_tryGapsOf_67 (by decide) ?_
        exact ih5 (v3, (v4 + 1), g, L) h H locs ls hP hD hS (lv_sub hl [1, 2, 3, 4, 0] rfl)
      refine lv_icmp_eq (x := (g4 44 (Int32.toNatClampNeg v1))) (y := v3) (tgt := 64) hx hb dX2_tryGapsOf_40 (by decide) (fun c7 => ?_) (fun c7 => ?_)
      ·
        have h := ite_t c7 h
        exact J64 v3 v4 g4 L5 H locs ls h hP hD hS (lv_sub hl [0, 1, 2, 3, 4] rfl)
      ·
        have h := ite_e c7 h
        refine lv_aload_n hx hb dX2_tryGapsOf_43 rfl (lv_at hl 0 rfl) ?_
        refine x_getr (Or.inl fl_X2_18) C hP (by decide) xs_10 rfl dX2_tryGapsOf_44 ?_
        refine x_getr (Or.inr fl_X2_92) C hP (by decide) xs_8 rfl dX2_tryGapsOf_47 ?_
        refine lv_iload_n hx hb dX2_tryGapsOf_50 rfl (lv_at hl 1 rfl) ?_
        refine y_ald C hP (by decide) xs_44 dX2_tryGapsOf_51 h (fun h => ?_)
        refine y_let h (fun x8 h => ?_)
        refine lv_istore_n (lv' := [(3, .int x8), (0, .ref (a 10)), (1, .int v1), (2, .int v2), (4, .int v4)]) hx hb dX2_tryGapsOf_52 rfl hl (by decide) rfl (fun ls hl => ?_)
        refine lv_aload_n hx hb dX2_tryGapsOf_53 rfl (lv_at hl 1 rfl) ?_
        refine lv_iload_n hx hb dX2_tryGapsOf_54 rfl (lv_at hl 2 rfl) ?_
        refine lv_iconst (v := 1) hx hb dX2_tryGapsOf_55 (by decide) ?_
        refine lv_iadd hx hb dX2_tryGapsOf_56 ?_
        refine lv_iload_n hx hb dX2_tryGapsOf_57 rfl (lv_at hl 3 rfl) ?_
        refine lv_iload hx hb dX2_tryGapsOf_58 (lv_at hl 4 rfl) ?_
        refine lv_iadd hx hb dX2_tryGapsOf_60 ?_
        obtain ⟨z_, g10, L11, hf12, h⟩ := cb_some h
        refine x_callVv (rest := []) li_X2_60 C (rX2_tryFrom_10_L10 l G H.size b a fu g4 L5 (v1 + 1) (v2 + v4) z_ (g10, L11) hf12) (kR rfl) hP hD hS 10 2 rfl (zat (by decide) xs_10) rfl hl.1 rfl (Nat.le_of_ble_eq_true rfl) dX2_tryGapsOf_61 (fun u_ H locs e_ hP hD hS => ?_)
        have hP : va_P G.1 vwCl (zw G (XS b) 105 a g10 L11) H := hP
        have hD : va_D A (zw G (XS b) 105 a g10 L11) := hD
        exact J64 x8 v4 g10 L11 H locs ls h hP hD hS (lv_sub hl [1, 2, 3, 0, 4] rfl)
  exact lp5 p1 p2 fu ((-1), 0, g, L) h H locs ls hP hD hS (lv_sub hl [2, 3, 4, 1, 0] rfl)
set_option maxHeartbeats 4000000 in
set_option maxRecDepth 100000 in
theorem rX2_tryFrom_10_L11 (l : Launch) (G : kG) (sz : Nat) (b : Nat) (a : Nat → Nat) (fu : Nat) (g : Nat → Nat → Int32) (L : Nat → Nat → Int64) (p1 : Int32) (p2 : Int32) (res : Unit) (s9 : zS) (h : fX2_tryFrom_10 fu 11 p1 p2 g L = some (res, s9)) : kM l yX2_tryFrom cX2_tryFrom 3 none { frames := 31, cells := 0, slots := 0, locals := 687 } G [.ref (a 10), .int p1, .int p2] (zw G (XS b) 105 a g L) sz (kQv G (S := Unit) (fun _ => True) (fun _ => zw G (XS b) 105 a s9.1 s9.2)) := by
  refine kM.of (by decide) (Nat.le_of_ble_eq_true rfl) ?_
  intro p e s m below meth c A ls H C hr hlk hnm hP hD hS hl
  have C : kC G p s m c cX2_tryFrom 3 RX2 A := C
  have hx := C.1
  have hb := C.2.1
  have hl : lv_has ls 3 [(0, .ref (a 10)), (1, .int p1), (2, .int p2)] := hl
  obtain ⟨locs, hlocs⟩ : ∃ q : List Loc, q = [] := ⟨_, rfl⟩
  rw [← hlocs] at hS
  rw [← hlocs]
  rw [fX2_tryFrom_10_succ] at h
  unfold fX2_tryFrom_10B at h
  refine lv_iload_n hx hb dX2_tryFrom_0 rfl (lv_at hl 2 rfl) ?_
  refine lv_aload_n hx hb dX2_tryFrom_1 rfl (lv_at hl 0 rfl) ?_
  refine x_getv (v := .int (g 10 8)) (Or.inl fl_X2_39) C hP (by decide) xs_10 rfl dX2_tryFrom_2 ?_
  refine lv_icmp_lt (x := p2) (y := (g 10 8)) (tgt := 9) hx hb dX2_tryFrom_5 (by decide) (fun c1 => ?_) (fun c1 => ?_)
  ·
    have h := ite_t c1 h
    refine lv_iload_n hx hb dX2_tryFrom_9 rfl (lv_at hl 1 rfl) ?_
    refine lv_aload_n hx hb dX2_tryFrom_10 rfl (lv_at hl 0 rfl) ?_
    refine x_getv (v := .int (g 10 5)) (Or.inl fl_X2_36) C hP (by decide) xs_10 rfl dX2_tryFrom_11 ?_
    have J89 : ∀ (g : Nat → Nat → Int32) (L : Nat → Nat → Int64) (H : Heap) (locs : List Loc) (ls : Array Slot), fX2_tryFrom_10_p89 fu (fX2_tryFrom_10 fu 10) g L = some (res, s9) → va_P G.1 vwCl (zw G (XS b) 105 a g L) H → va_D A (zw G (XS b) 105 a g L) → va_S A s.heap H locs → lv_has ls 3 [] → W p l e { frames := 31, cells := 0, slots := 0, locals := 687 } s m [.ref (a 10), .int p1, .int p2].toArray below meth c H locs 0 0 (MQ below ((kQv G (S := Unit) (fun _ => True) (fun _ => zw G (XS b) 105 a s9.1 s9.2)) A) [.ref (a 10), .int p1, .int p2].toArray s 0 0 A) (F0 m 89 ls []) := by
      intro g L H locs ls h hP hD hS hl
      unfold fX2_tryFrom_10_p89 at h
      exact y_vret C hr hlk hP hD hS h (Nat.le_of_ble_eq_true rfl) (Nat.le_of_ble_eq_true rfl) dX2_tryFrom_89
    have J23 : ∀ (v2 : Int32) (g : Nat → Nat → Int32) (L : Nat → Nat → Int64) (H : Heap) (locs : List Loc) (ls : Array Slot), fX2_tryFrom_10_p23 fu (fX2_tryFrom_10 fu 10) v2 g L = some (res, s9) → va_P G.1 vwCl (zw G (XS b) 105 a g L) H → va_D A (zw G (XS b) 105 a g L) → va_S A s.heap H locs → lv_has ls 3 [(0, .ref (a 10)), (2, .int v2)] → W p l e { frames := 31, cells := 0, slots := 0, locals := 687 } s m [.ref (a 10), .int p1, .int p2].toArray below meth c H locs 0 0 (MQ below ((kQv G (S := Unit) (fun _ => True) (fun _ => zw G (XS b) 105 a s9.1 s9.2)) A) [.ref (a 10), .int p1, .int p2].toArray s 0 0 A) (F0 m 23 ls []) := by
      intro v2 g L H locs ls h hP hD hS hl
      unfold fX2_tryFrom_10_p23 at h
      refine lv_aload_n hx hb dX2_tryFrom_23 rfl (lv_at hl 0 rfl) ?_
      refine lv_iload_n hx hb dX2_tryFrom_24 rfl (lv_at hl 1 rfl) ?_
      obtain ⟨z_, g3, L4, hf5, h⟩ := cb_some h
      refine x_callVv (rest := []) li_X2_82 C (rX2_takeIfOnTime_10 l G H.size b a fu g L v2 z_ (g3, L4) hf5) (kR rfl) hP hD hS 10 2 rfl (zat (by decide) xs_10) rfl hl.1 rfl (Nat.le_of_ble_eq_true rfl) dX2_tryFrom_25 (fun u_ H locs e_ hP hD hS => ?_)
      have hP : va_P G.1 vwCl (zw G (XS b) 105 a g3 L4) H := hP
      have hD : va_D A (zw G (XS b) 105 a g3 L4) := hD
      refine lv_goto (tgt := 89) hx hb dX2_tryFrom_28 (by decide) ?_
      exact J89 g3 L4 H locs ls h hP hD hS (lv_sub hl [] rfl)
    refine lv_icmp_gt (x := p1) (y := (g 10 5)) (tgt := 23) hx hb dX2_tryFrom_14 (by decide) (fun c6 => ?_) (fun c6 => ?_)
    ·
      have h := ite_t c6 h
      exact J23 p2 g L H locs ls h hP hD hS (lv_sub hl [0, 2] rfl)
    ·
      have h := ite_e c6 h
      refine lv_iload_n hx hb dX2_tryFrom_17 rfl (lv_at hl 1 rfl) ?_
      refine lv_bipush (v := 12) hx hb dX2_tryFrom_18 (by decide) ?_
      refine lv_icmp_lt (x := p1) (y := 12) (tgt := 31) hx hb dX2_tryFrom_20 (by decide) (fun c7 => ?_) (fun c7 => ?_)
      ·
        have h := ite_t c7 h
        refine lv_aload_n hx hb dX2_tryFrom_31 rfl (lv_at hl 0 rfl) ?_
        refine x_getv (v := .int (g 10 7)) (Or.inl fl_X2_64) C hP (by decide) xs_10 rfl dX2_tryFrom_32 ?_
        refine lv_iload_n hx hb dX2_tryFrom_35 rfl (lv_at hl 1 rfl) ?_
        obtain ⟨z_, g9, L10, hf11, h⟩ := cb_some h
        refine x_callSi (rest := []) li_X2_56 C (rX2_isIn l G H.size b a fu g L (g 10 7) p1 z_ (g9, L10) hf11) (kR rfl) hP hD hS rfl hl.1 rfl (Nat.le_of_ble_eq_true rfl) dX2_tryFrom_36 (fun x8 u_ H locs e_ hP hD hS => ?_)
        have e_ : x8 = z_ := e_
        subst e_
        have hP : va_P G.1 vwCl (zw G (XS b) 105 a g9 L10) H := hP
        have hD : va_D A (zw G (XS b) 105 a g9 L10) := hD
        refine lv_if_ne (x := x8) (tgt := 53) hx hb dX2_tryFrom_39 (by decide) (fun c12 => ?_) (fun c12 => ?_)
        ·
          have h := ite_e c12 h
          refine lv_aload_n hx hb dX2_tryFrom_53 rfl (lv_at hl 0 rfl) ?_
          refine x_getv (v := .int (g9 10 4)) (Or.inl fl_X2_29) C hP (by decide) xs_10 rfl dX2_tryFrom_54 ?_
          refine lv_iload_n hx hb dX2_tryFrom_57 rfl (lv_at hl 1 rfl) ?_
          obtain ⟨z_, g14, L15, hf16, h⟩ := cb_some h
          refine x_callSi (rest := []) li_X2_56 C (rX2_isIn l G H.size b a fu g9 L10 (g9 10 4) p1 z_ (g14, L15) hf16) (kR rfl) hP hD hS rfl hl.1 rfl (Nat.le_of_ble_eq_true rfl) dX2_tryFrom_58 (fun x13 u_ H locs e_ hP hD hS => ?_)
          have e_ : x13 = z_ := e_
          subst e_
          have hP : va_P G.1 vwCl (zw G (XS b) 105 a g14 L15) H := hP
          have hD : va_D A (zw G (XS b) 105 a g14 L15) := hD
          refine lv_if_ne (x := x13) (tgt := 83) hx hb dX2_tryFrom_61 (by decide) (fun c17 => ?_) (fun c17 => ?_)
          ·
            have h := ite_e c17 h
            refine lv_aload_n hx hb dX2_tryFrom_83 rfl (lv_at hl 0 rfl) ?_
            refine lv_iload_n hx hb dX2_tryFrom_84 rfl (lv_at hl 1 rfl) ?_
            refine lv_iload_n hx hb dX2_tryFrom_85 rfl (lv_at hl 2 rfl) ?_
            obtain ⟨z_, g19, L20, hf21, h⟩ := cb_some h
            refine x_callVv (rest := []) li_X2_89 C (rX2_tryGapsOf_10_L11 l G H.size b a fu g14 L15 p1 p2 z_ (g19, L20) hf21) (kR rfl) hP hD hS 10 2 rfl (zat (by decide) xs_10) rfl hl.1 rfl (Nat.le_of_ble_eq_true rfl) dX2_tryFrom_86 (fun u_ H locs e_ hP hD hS => ?_)
            have hP : va_P G.1 vwCl (zw G (XS b) 105 a g19 L20) H := hP
            have hD : va_D A (zw G (XS b) 105 a g19 L20) := hD
            exact J89 g19 L20 H locs ls h hP hD hS (lv_sub hl [] rfl)
          ·
            have h := ite_t c17 h
            refine lv_aload_n hx hb dX2_tryFrom_64 rfl (lv_at hl 0 rfl) ?_
            refine x_getr (Or.inl fl_X2_18) C hP (by decide) xs_10 rfl dX2_tryFrom_65 ?_
            refine lv_iload_n hx hb dX2_tryFrom_68 rfl (lv_at hl 1 rfl) ?_
            obtain ⟨z_, g23, L24, hf25, h⟩ := cb_some h
            refine x_callNv (rest := []) li_X2_86 C (rX1_runOne_8 l G H.size b a fu g14 L15 p1 z_ (g23, L24) hf25) (kR rfl) hP hD hS 8 1 rfl (zat (by decide) xs_8) rfl hl.1 rfl (Nat.le_of_ble_eq_true rfl) dX2_tryFrom_69 (fun u_ H locs e_ hP hD hS => ?_)
            have hP : va_P G.1 vwCl (zw G (XS b) 105 a g23 L24) H := hP
            have hD : va_D A (zw G (XS b) 105 a g23 L24) := hD
            refine lv_aload_n hx hb dX2_tryFrom_72 rfl (lv_at hl 0 rfl) ?_
            refine lv_iload_n hx hb dX2_tryFrom_73 rfl (lv_at hl 1 rfl) ?_
            refine lv_iconst (v := 1) hx hb dX2_tryFrom_74 (by decide) ?_
            refine lv_iadd hx hb dX2_tryFrom_75 ?_
            refine lv_iload_n hx hb dX2_tryFrom_76 rfl (lv_at hl 2 rfl) ?_
            obtain ⟨z_, g27, L28, hf29, h⟩ := cb_some h
            refine x_callVv (rest := []) li_X2_60 C (rX2_tryFrom_10_L10 l G H.size b a fu g23 L24 (p1 + 1) p2 z_ (g27, L28) hf29) (kR rfl) hP hD hS 10 2 rfl (zat (by decide) xs_10) rfl hl.1 rfl (Nat.le_of_ble_eq_true rfl) dX2_tryFrom_77 (fun u_ H locs e_ hP hD hS => ?_)
            have hP : va_P G.1 vwCl (zw G (XS b) 105 a g27 L28) H := hP
            have hD : va_D A (zw G (XS b) 105 a g27 L28) := hD
            refine lv_goto (tgt := 89) hx hb dX2_tryFrom_80 (by decide) ?_
            exact J89 g27 L28 H locs ls h hP hD hS (lv_sub hl [] rfl)
        ·
          have h := ite_t c12 h
          refine lv_aload_n hx hb dX2_tryFrom_42 rfl (lv_at hl 0 rfl) ?_
          refine lv_iload_n hx hb dX2_tryFrom_43 rfl (lv_at hl 1 rfl) ?_
          refine lv_iconst (v := 1) hx hb dX2_tryFrom_44 (by decide) ?_
          refine lv_iadd hx hb dX2_tryFrom_45 ?_
          refine lv_iload_n hx hb dX2_tryFrom_46 rfl (lv_at hl 2 rfl) ?_
          obtain ⟨z_, g31, L32, hf33, h⟩ := cb_some h
          refine x_callVv (rest := []) li_X2_60 C (rX2_tryFrom_10_L10 l G H.size b a fu g9 L10 (p1 + 1) p2 z_ (g31, L32) hf33) (kR rfl) hP hD hS 10 2 rfl (zat (by decide) xs_10) rfl hl.1 rfl (Nat.le_of_ble_eq_true rfl) dX2_tryFrom_47 (fun u_ H locs e_ hP hD hS => ?_)
          have hP : va_P G.1 vwCl (zw G (XS b) 105 a g31 L32) H := hP
          have hD : va_D A (zw G (XS b) 105 a g31 L32) := hD
          refine lv_goto (tgt := 89) hx hb dX2_tryFrom_50 (by decide) ?_
          exact J89 g31 L32 H locs ls h hP hD hS (lv_sub hl [] rfl)
      ·
        have h := ite_e c7 h
        exact J23 p2 g L H locs ls h hP hD hS (lv_sub hl [0, 2] rfl)
  ·
    have h := ite_e c1 h
    exact y_vret C hr hlk hP hD hS h (Nat.le_of_ble_eq_true rfl) (Nat.le_of_ble_eq_true rfl) dX2_tryFrom_8
set_option maxHeartbeats 4000000 in
set_option maxRecDepth 100000 in
theorem rX2_tryGapsOf_10_L12 (l : Launch) (G : kG) (sz : Nat) (b : Nat) (a : Nat → Nat) (fu : Nat) (g : Nat → Nat → Int32) (L : Nat → Nat → Int64) (p1 : Int32) (p2 : Int32) (res : Unit) (s9 : zS) (h : fX2_tryGapsOf_10 fu (fX2_tryFrom_10 fu 11) p1 p2 g L = some (res, s9)) : kM l yX2_tryGapsOf cX2_tryGapsOf 5 none { frames := 32, cells := 0, slots := 0, locals := 709 } G [.ref (a 10), .int p1, .int p2] (zw G (XS b) 105 a g L) sz (kQv G (S := Unit) (fun _ => True) (fun _ => zw G (XS b) 105 a s9.1 s9.2)) := by
  refine kM.of (by decide) (Nat.le_of_ble_eq_true rfl) ?_
  intro p e s m below meth c A ls H C hr hlk hnm hP hD hS hl
  have C : kC G p s m c cX2_tryGapsOf 5 RX2 A := C
  have hx := C.1
  have hb := C.2.1
  have hl : lv_has ls 5 [(0, .ref (a 10)), (1, .int p1), (2, .int p2)] := hl
  obtain ⟨locs, hlocs⟩ : ∃ q : List Loc, q = [] := ⟨_, rfl⟩
  rw [← hlocs] at hS
  rw [← hlocs]
  unfold fX2_tryGapsOf_10 at h
  refine lv_iconst (v := -1) hx hb dX2_tryGapsOf_0 (by decide) ?_
  refine lv_istore_n (lv' := [(3, .int (-1)), (0, .ref (a 10)), (1, .int p1), (2, .int p2)]) hx hb dX2_tryGapsOf_1 rfl hl (by decide) rfl (fun ls hl => ?_)
  refine lv_iconst (v := 0) hx hb dX2_tryGapsOf_2 (by decide) ?_
  refine lv_istore (lv' := [(4, .int 0), (3, .int (-1)), (0, .ref (a 10)), (1, .int p1), (2, .int p2)]) hx hb dX2_tryGapsOf_3 hl (by decide) rfl (fun ls hl => ?_)
  have lp5 : ∀ (v1 : Int32) (v2 : Int32), ∀ (n : Nat) (v : Int32 × Int32 × (Nat → Nat → Int32) × (Nat → Nat → Int64)), whileK (fun k v => fX2_tryGapsOf_10_s5 fu (fX2_tryFrom_10 fu 11) v1 v2 k v.1 v.2.1 v.2.2.1 v.2.2.2) n v = some (res, s9) → ∀ (H : Heap) (locs : List Loc) (ls : Array Slot), va_P G.1 vwCl (zw G (XS b) 105 a (v.2.2.1) (v.2.2.2)) H → va_D A (zw G (XS b) 105 a (v.2.2.1) (v.2.2.2)) → va_S A s.heap H locs → lv_has ls 5 [(0, .ref (a 10)), (1, .int v1), (2, .int v2), (3, .int (v.1)), (4, .int (v.2.1))] → W p l e { frames := 32, cells := 0, slots := 0, locals := 709 } s m [.ref (a 10), .int p1, .int p2].toArray below meth c H locs 0 0 (MQ below ((kQv G (S := Unit) (fun _ => True) (fun _ => zw G (XS b) 105 a s9.1 s9.2)) A) [.ref (a 10), .int p1, .int p2].toArray s 0 0 A) (F0 m 5 ls []) := by
    intro v1 v2
    refine while_ind (fun k5 ih5 v h => ?_)
    obtain ⟨v3, v4, g, L⟩ := v
    intro H locs ls hP hD hS hl
    have h : fX2_tryGapsOf_10_s5 fu (fX2_tryFrom_10 fu 11) v1 v2 k5 v3 v4 g L = some (res, s9) := h
    have hP : va_P G.1 vwCl (zw G (XS b) 105 a g L) H := hP
    have hD : va_D A (zw G (XS b) 105 a g L) := hD
    have hl : lv_has ls 5 [(0, .ref (a 10)), (1, .int v1), (2, .int v2), (3, .int v3), (4, .int v4)] := hl
    show W p l e { frames := 32, cells := 0, slots := 0, locals := 709 } s m [.ref (a 10), .int p1, .int p2].toArray below meth c H locs 0 0 (MQ below ((kQv G (S := Unit) (fun _ => True) (fun _ => zw G (XS b) 105 a s9.1 s9.2)) A) [.ref (a 10), .int p1, .int p2].toArray s 0 0 A) (F0 m 5 ls [])
    unfold fX2_tryGapsOf_10_s5 at h
    refine lv_iload hx hb dX2_tryGapsOf_5 (lv_at hl 4 rfl) ?_
    refine lv_iconst (v := 4) hx hb dX2_tryGapsOf_7 (by decide) ?_
    refine lv_icmp_gt (x := v4) (y := 4) (tgt := 70) hx hb dX2_tryGapsOf_8 (by decide) (fun c1 => ?_) (fun c1 => ?_)
    ·
      have h := ite_t c1 h
      exact y_vret C hr hlk hP hD hS h (Nat.le_of_ble_eq_true rfl) (Nat.le_of_ble_eq_true rfl) dX2_tryGapsOf_70
    ·
      have h := ite_e c1 h
      refine lv_aload_n hx hb dX2_tryGapsOf_11 rfl (lv_at hl 0 rfl) ?_
      refine x_getr (Or.inl fl_X2_28) C hP (by decide) xs_10 rfl dX2_tryGapsOf_12 ?_
      refine x_getr (Or.inr fl_X2_45) C hP (by decide) xs_6 rfl dX2_tryGapsOf_15 ?_
      refine lv_iload_n hx hb dX2_tryGapsOf_18 rfl (lv_at hl 1 rfl) ?_
      refine lv_iload hx hb dX2_tryGapsOf_19 (lv_at hl 4 rfl) ?_
      refine y_ast C hP hD hS (by decide) xs_26 dX2_tryGapsOf_21 h (fun g2 H locs h hP hD hS => ?_)
      refine lv_aload_n hx hb dX2_tryGapsOf_22 rfl (lv_at hl 0 rfl) ?_
      refine x_getr (Or.inl fl_X2_18) C hP (by decide) xs_10 rfl dX2_tryGapsOf_23 ?_
      refine lv_iload_n hx hb dX2_tryGapsOf_26 rfl (lv_at hl 1 rfl) ?_
      obtain ⟨z_, g4, L5, hf6, h⟩ := cb_some h
      refine x_callNv (rest := []) li_X2_86 C (rX1_runOne_8 l G H.size b a fu g2 L v1 z_ (g4, L5) hf6) (kR rfl) hP hD hS 8 1 rfl (zat (by decide) xs_8) rfl hl.1 rfl (Nat.le_of_ble_eq_true rfl) dX2_tryGapsOf_27 (fun u_ H locs e_ hP hD hS => ?_)
      have hP : va_P G.1 vwCl (zw G (XS b) 105 a g4 L5) H := hP
      have hD : va_D A (zw G (XS b) 105 a g4 L5) := hD
      refine lv_aload_n hx hb dX2_tryGapsOf_30 rfl (lv_at hl 0 rfl) ?_
      refine x_getr (Or.inl fl_X2_18) C hP (by decide) xs_10 rfl dX2_tryGapsOf_31 ?_
      refine x_getr (Or.inr fl_X2_92) C hP (by decide) xs_8 rfl dX2_tryGapsOf_34 ?_
      refine lv_iload_n hx hb dX2_tryGapsOf_37 rfl (lv_at hl 1 rfl) ?_
      refine y_ald C hP (by decide) xs_44 dX2_tryGapsOf_38 h (fun h => ?_)
      refine lv_iload_n hx hb dX2_tryGapsOf_39 rfl (lv_at hl 3 rfl) ?_
      have J64 : ∀ (v3 : Int32) (v4 : Int32) (g : Nat → Nat → Int32) (L : Nat → Nat → Int64) (H : Heap) (locs : List Loc) (ls : Array Slot), fX2_tryGapsOf_10_p64 fu (fX2_tryFrom_10 fu 11) k5 v1 v2 v3 v4 g L = some (res, s9) → va_P G.1 vwCl (zw G (XS b) 105 a g L) H → va_D A (zw G (XS b) 105 a g L) → va_S A s.heap H locs → lv_has ls 5 [(0, .ref (a 10)), (1, .int v1), (2, .int v2), (3, .int v3), (4, .int v4)] → W p l e { frames := 32, cells := 0, slots := 0, locals := 709 } s m [.ref (a 10), .int p1, .int p2].toArray below meth c H locs 0 0 (MQ below ((kQv G (S := Unit) (fun _ => True) (fun _ => zw G (XS b) 105 a s9.1 s9.2)) A) [.ref (a 10), .int p1, .int p2].toArray s 0 0 A) (F0 m 64 ls []) := by
        intro v3 v4 g L H locs ls h hP hD hS hl
        unfold fX2_tryGapsOf_10_p64 at h
        refine lv_iinc (v := (v4 + 1)) (lv' := [(4, .int (v4 + 1)), (0, .ref (a 10)), (1, .int v1), (2, .int v2), (3, .int v3)]) hx hb dX2_tryGapsOf_64 hl (k := 4) rfl rfl (by decide) rfl (fun ls hl => ?_)
        refine lv_goto (tgt := 5) hx hb dX2_tryGapsOf_67 (by decide) ?_
        exact ih5 (v3, (v4 + 1), g, L) h H locs ls hP hD hS (lv_sub hl [1, 2, 3, 4, 0] rfl)
      refine lv_icmp_eq (x := (g4 44 (Int32.toNatClampNeg v1))) (y := v3) (tgt := 64) hx hb dX2_tryGapsOf_40 (by decide) (fun c7 => ?_) (fun c7 => ?_)
      ·
        have h := ite_t c7 h
        exact J64 v3 v4 g4 L5 H locs ls h hP hD hS (lv_sub hl [0, 1, 2, 3, 4] rfl)
      ·
        have h := ite_e c7 h
        refine lv_aload_n hx hb dX2_tryGapsOf_43 rfl (lv_at hl 0 rfl) ?_
        refine x_getr (Or.inl fl_X2_18) C hP (by decide) xs_10 rfl dX2_tryGapsOf_44 ?_
        refine x_getr (Or.inr fl_X2_92) C hP (by decide) xs_8 rfl dX2_tryGapsOf_47 ?_
        refine lv_iload_n hx hb dX2_tryGapsOf_50 rfl (lv_at hl 1 rfl) ?_
        refine y_ald C hP (by decide) xs_44 dX2_tryGapsOf_51 h (fun h => ?_)
        refine y_let h (fun x8 h => ?_)
        refine lv_istore_n (lv' := [(3, .int x8), (0, .ref (a 10)), (1, .int v1), (2, .int v2), (4, .int v4)]) hx hb dX2_tryGapsOf_52 rfl hl (by decide) rfl (fun ls hl => ?_)
        refine lv_aload_n hx hb dX2_tryGapsOf_53 rfl (lv_at hl 1 rfl) ?_
        refine lv_iload_n hx hb dX2_tryGapsOf_54 rfl (lv_at hl 2 rfl) ?_
        refine lv_iconst (v := 1) hx hb dX2_tryGapsOf_55 (by decide) ?_
        refine lv_iadd hx hb dX2_tryGapsOf_56 ?_
        refine lv_iload_n hx hb dX2_tryGapsOf_57 rfl (lv_at hl 3 rfl) ?_
        refine lv_iload hx hb dX2_tryGapsOf_58 (lv_at hl 4 rfl) ?_
        refine lv_iadd hx hb dX2_tryGapsOf_60 ?_
        obtain ⟨z_, g10, L11, hf12, h⟩ := cb_some h
        refine x_callVv (rest := []) li_X2_60 C (rX2_tryFrom_10_L11 l G H.size b a fu g4 L5 (v1 + 1) (v2 + v4) z_ (g10, L11) hf12) (kR rfl) hP hD hS 10 2 rfl (zat (by decide) xs_10) rfl hl.1 rfl (Nat.le_of_ble_eq_true rfl) dX2_tryGapsOf_61 (fun u_ H locs e_ hP hD hS => ?_)
        have hP : va_P G.1 vwCl (zw G (XS b) 105 a g10 L11) H := hP
        have hD : va_D A (zw G (XS b) 105 a g10 L11) := hD
        exact J64 x8 v4 g10 L11 H locs ls h hP hD hS (lv_sub hl [1, 2, 3, 0, 4] rfl)
  exact lp5 p1 p2 fu ((-1), 0, g, L) h H locs ls hP hD hS (lv_sub hl [2, 3, 4, 1, 0] rfl)
set_option maxHeartbeats 4000000 in
set_option maxRecDepth 100000 in
theorem rX2_tryFrom_10_L12 (l : Launch) (G : kG) (sz : Nat) (b : Nat) (a : Nat → Nat) (fu : Nat) (g : Nat → Nat → Int32) (L : Nat → Nat → Int64) (p1 : Int32) (p2 : Int32) (res : Unit) (s9 : zS) (h : fX2_tryFrom_10 fu 12 p1 p2 g L = some (res, s9)) : kM l yX2_tryFrom cX2_tryFrom 3 none { frames := 33, cells := 0, slots := 0, locals := 733 } G [.ref (a 10), .int p1, .int p2] (zw G (XS b) 105 a g L) sz (kQv G (S := Unit) (fun _ => True) (fun _ => zw G (XS b) 105 a s9.1 s9.2)) := by
  refine kM.of (by decide) (Nat.le_of_ble_eq_true rfl) ?_
  intro p e s m below meth c A ls H C hr hlk hnm hP hD hS hl
  have C : kC G p s m c cX2_tryFrom 3 RX2 A := C
  have hx := C.1
  have hb := C.2.1
  have hl : lv_has ls 3 [(0, .ref (a 10)), (1, .int p1), (2, .int p2)] := hl
  obtain ⟨locs, hlocs⟩ : ∃ q : List Loc, q = [] := ⟨_, rfl⟩
  rw [← hlocs] at hS
  rw [← hlocs]
  rw [fX2_tryFrom_10_succ] at h
  unfold fX2_tryFrom_10B at h
  refine lv_iload_n hx hb dX2_tryFrom_0 rfl (lv_at hl 2 rfl) ?_
  refine lv_aload_n hx hb dX2_tryFrom_1 rfl (lv_at hl 0 rfl) ?_
  refine x_getv (v := .int (g 10 8)) (Or.inl fl_X2_39) C hP (by decide) xs_10 rfl dX2_tryFrom_2 ?_
  refine lv_icmp_lt (x := p2) (y := (g 10 8)) (tgt := 9) hx hb dX2_tryFrom_5 (by decide) (fun c1 => ?_) (fun c1 => ?_)
  ·
    have h := ite_t c1 h
    refine lv_iload_n hx hb dX2_tryFrom_9 rfl (lv_at hl 1 rfl) ?_
    refine lv_aload_n hx hb dX2_tryFrom_10 rfl (lv_at hl 0 rfl) ?_
    refine x_getv (v := .int (g 10 5)) (Or.inl fl_X2_36) C hP (by decide) xs_10 rfl dX2_tryFrom_11 ?_
    have J89 : ∀ (g : Nat → Nat → Int32) (L : Nat → Nat → Int64) (H : Heap) (locs : List Loc) (ls : Array Slot), fX2_tryFrom_10_p89 fu (fX2_tryFrom_10 fu 11) g L = some (res, s9) → va_P G.1 vwCl (zw G (XS b) 105 a g L) H → va_D A (zw G (XS b) 105 a g L) → va_S A s.heap H locs → lv_has ls 3 [] → W p l e { frames := 33, cells := 0, slots := 0, locals := 733 } s m [.ref (a 10), .int p1, .int p2].toArray below meth c H locs 0 0 (MQ below ((kQv G (S := Unit) (fun _ => True) (fun _ => zw G (XS b) 105 a s9.1 s9.2)) A) [.ref (a 10), .int p1, .int p2].toArray s 0 0 A) (F0 m 89 ls []) := by
      intro g L H locs ls h hP hD hS hl
      unfold fX2_tryFrom_10_p89 at h
      exact y_vret C hr hlk hP hD hS h (Nat.le_of_ble_eq_true rfl) (Nat.le_of_ble_eq_true rfl) dX2_tryFrom_89
    have J23 : ∀ (v2 : Int32) (g : Nat → Nat → Int32) (L : Nat → Nat → Int64) (H : Heap) (locs : List Loc) (ls : Array Slot), fX2_tryFrom_10_p23 fu (fX2_tryFrom_10 fu 11) v2 g L = some (res, s9) → va_P G.1 vwCl (zw G (XS b) 105 a g L) H → va_D A (zw G (XS b) 105 a g L) → va_S A s.heap H locs → lv_has ls 3 [(0, .ref (a 10)), (2, .int v2)] → W p l e { frames := 33, cells := 0, slots := 0, locals := 733 } s m [.ref (a 10), .int p1, .int p2].toArray below meth c H locs 0 0 (MQ below ((kQv G (S := Unit) (fun _ => True) (fun _ => zw G (XS b) 105 a s9.1 s9.2)) A) [.ref (a 10), .int p1, .int p2].toArray s 0 0 A) (F0 m 23 ls []) := by
      intro v2 g L H locs ls h hP hD hS hl
      unfold fX2_tryFrom_10_p23 at h
      refine lv_aload_n hx hb dX2_tryFrom_23 rfl (lv_at hl 0 rfl) ?_
      refine lv_iload_n hx hb dX2_tryFrom_24 rfl (lv_at hl 1 rfl) ?_
      obtain ⟨z_, g3, L4, hf5, h⟩ := cb_some h
      refine x_callVv (rest := []) li_X2_82 C (rX2_takeIfOnTime_10 l G H.size b a fu g L v2 z_ (g3, L4) hf5) (kR rfl) hP hD hS 10 2 rfl (zat (by decide) xs_10) rfl hl.1 rfl (Nat.le_of_ble_eq_true rfl) dX2_tryFrom_25 (fun u_ H locs e_ hP hD hS => ?_)
      have hP : va_P G.1 vwCl (zw G (XS b) 105 a g3 L4) H := hP
      have hD : va_D A (zw G (XS b) 105 a g3 L4) := hD
      refine lv_goto (tgt := 89) hx hb dX2_tryFrom_28 (by decide) ?_
      exact J89 g3 L4 H locs ls h hP hD hS (lv_sub hl [] rfl)
    refine lv_icmp_gt (x := p1) (y := (g 10 5)) (tgt := 23) hx hb dX2_tryFrom_14 (by decide) (fun c6 => ?_) (fun c6 => ?_)
    ·
      have h := ite_t c6 h
      exact J23 p2 g L H locs ls h hP hD hS (lv_sub hl [0, 2] rfl)
    ·
      have h := ite_e c6 h
      refine lv_iload_n hx hb dX2_tryFrom_17 rfl (lv_at hl 1 rfl) ?_
      refine lv_bipush (v := 12) hx hb dX2_tryFrom_18 (by decide) ?_
      refine lv_icmp_lt (x := p1) (y := 12) (tgt := 31) hx hb dX2_tryFrom_20 (by decide) (fun c7 => ?_) (fun c7 => ?_)
      ·
        have h := ite_t c7 h
        refine lv_aload_n hx hb dX2_tryFrom_31 rfl (lv_at hl 0 rfl) ?_
        refine x_getv (v := .int (g 10 7)) (Or.inl fl_X2_64) C hP (by decide) xs_10 rfl dX2_tryFrom_32 ?_
        refine lv_iload_n hx hb dX2_tryFrom_35 rfl (lv_at hl 1 rfl) ?_
        obtain ⟨z_, g9, L10, hf11, h⟩ := cb_some h
        refine x_callSi (rest := []) li_X2_56 C (rX2_isIn l G H.size b a fu g L (g 10 7) p1 z_ (g9, L10) hf11) (kR rfl) hP hD hS rfl hl.1 rfl (Nat.le_of_ble_eq_true rfl) dX2_tryFrom_36 (fun x8 u_ H locs e_ hP hD hS => ?_)
        have e_ : x8 = z_ := e_
        subst e_
        have hP : va_P G.1 vwCl (zw G (XS b) 105 a g9 L10) H := hP
        have hD : va_D A (zw G (XS b) 105 a g9 L10) := hD
        refine lv_if_ne (x := x8) (tgt := 53) hx hb dX2_tryFrom_39 (by decide) (fun c12 => ?_) (fun c12 => ?_)
        ·
          have h := ite_e c12 h
          refine lv_aload_n hx hb dX2_tryFrom_53 rfl (lv_at hl 0 rfl) ?_
          refine x_getv (v := .int (g9 10 4)) (Or.inl fl_X2_29) C hP (by decide) xs_10 rfl dX2_tryFrom_54 ?_
          refine lv_iload_n hx hb dX2_tryFrom_57 rfl (lv_at hl 1 rfl) ?_
          obtain ⟨z_, g14, L15, hf16, h⟩ := cb_some h
          refine x_callSi (rest := []) li_X2_56 C (rX2_isIn l G H.size b a fu g9 L10 (g9 10 4) p1 z_ (g14, L15) hf16) (kR rfl) hP hD hS rfl hl.1 rfl (Nat.le_of_ble_eq_true rfl) dX2_tryFrom_58 (fun x13 u_ H locs e_ hP hD hS => ?_)
          have e_ : x13 = z_ := e_
          subst e_
          have hP : va_P G.1 vwCl (zw G (XS b) 105 a g14 L15) H := hP
          have hD : va_D A (zw G (XS b) 105 a g14 L15) := hD
          refine lv_if_ne (x := x13) (tgt := 83) hx hb dX2_tryFrom_61 (by decide) (fun c17 => ?_) (fun c17 => ?_)
          ·
            have h := ite_e c17 h
            refine lv_aload_n hx hb dX2_tryFrom_83 rfl (lv_at hl 0 rfl) ?_
            refine lv_iload_n hx hb dX2_tryFrom_84 rfl (lv_at hl 1 rfl) ?_
            refine lv_iload_n hx hb dX2_tryFrom_85 rfl (lv_at hl 2 rfl) ?_
            obtain ⟨z_, g19, L20, hf21, h⟩ := cb_some h
            refine x_callVv (rest := []) li_X2_89 C (rX2_tryGapsOf_10_L12 l G H.size b a fu g14 L15 p1 p2 z_ (g19, L20) hf21) (kR rfl) hP hD hS 10 2 rfl (zat (by decide) xs_10) rfl hl.1 rfl (Nat.le_of_ble_eq_true rfl) dX2_tryFrom_86 (fun u_ H locs e_ hP hD hS => ?_)
            have hP : va_P G.1 vwCl (zw G (XS b) 105 a g19 L20) H := hP
            have hD : va_D A (zw G (XS b) 105 a g19 L20) := hD
            exact J89 g19 L20 H locs ls h hP hD hS (lv_sub hl [] rfl)
          ·
            have h := ite_t c17 h
            refine lv_aload_n hx hb dX2_tryFrom_64 rfl (lv_at hl 0 rfl) ?_
            refine x_getr (Or.inl fl_X2_18) C hP (by decide) xs_10 rfl dX2_tryFrom_65 ?_
            refine lv_iload_n hx hb dX2_tryFrom_68 rfl (lv_at hl 1 rfl) ?_
            obtain ⟨z_, g23, L24, hf25, h⟩ := cb_some h
            refine x_callNv (rest := []) li_X2_86 C (rX1_runOne_8 l G H.size b a fu g14 L15 p1 z_ (g23, L24) hf25) (kR rfl) hP hD hS 8 1 rfl (zat (by decide) xs_8) rfl hl.1 rfl (Nat.le_of_ble_eq_true rfl) dX2_tryFrom_69 (fun u_ H locs e_ hP hD hS => ?_)
            have hP : va_P G.1 vwCl (zw G (XS b) 105 a g23 L24) H := hP
            have hD : va_D A (zw G (XS b) 105 a g23 L24) := hD
            refine lv_aload_n hx hb dX2_tryFrom_72 rfl (lv_at hl 0 rfl) ?_
            refine lv_iload_n hx hb dX2_tryFrom_73 rfl (lv_at hl 1 rfl) ?_
            refine lv_iconst (v := 1) hx hb dX2_tryFrom_74 (by decide) ?_
            refine lv_iadd hx hb dX2_tryFrom_75 ?_
            refine lv_iload_n hx hb dX2_tryFrom_76 rfl (lv_at hl 2 rfl) ?_
            obtain ⟨z_, g27, L28, hf29, h⟩ := cb_some h
            refine x_callVv (rest := []) li_X2_60 C (rX2_tryFrom_10_L11 l G H.size b a fu g23 L24 (p1 + 1) p2 z_ (g27, L28) hf29) (kR rfl) hP hD hS 10 2 rfl (zat (by decide) xs_10) rfl hl.1 rfl (Nat.le_of_ble_eq_true rfl) dX2_tryFrom_77 (fun u_ H locs e_ hP hD hS => ?_)
            have hP : va_P G.1 vwCl (zw G (XS b) 105 a g27 L28) H := hP
            have hD : va_D A (zw G (XS b) 105 a g27 L28) := hD
            refine lv_goto (tgt := 89) hx hb dX2_tryFrom_80 (by decide) ?_
            exact J89 g27 L28 H locs ls h hP hD hS (lv_sub hl [] rfl)
        ·
          have h := ite_t c12 h
          refine lv_aload_n hx hb dX2_tryFrom_42 rfl (lv_at hl 0 rfl) ?_
          refine lv_iload_n hx hb dX2_tryFrom_43 rfl (lv_at hl 1 rfl) ?_
          refine lv_iconst (v := 1) hx hb dX2_tryFrom_44 (by decide) ?_
          refine lv_iadd hx hb dX2_tryFrom_45 ?_
          refine lv_iload_n hx hb dX2_tryFrom_46 rfl (lv_at hl 2 rfl) ?_
          obtain ⟨z_, g31, L32, hf33, h⟩ := cb_some h
          refine x_callVv (rest := []) li_X2_60 C (rX2_tryFrom_10_L11 l G H.size b a fu g9 L10 (p1 + 1) p2 z_ (g31, L32) hf33) (kR rfl) hP hD hS 10 2 rfl (zat (by decide) xs_10) rfl hl.1 rfl (Nat.le_of_ble_eq_true rfl) dX2_tryFrom_47 (fun u_ H locs e_ hP hD hS => ?_)
          have hP : va_P G.1 vwCl (zw G (XS b) 105 a g31 L32) H := hP
          have hD : va_D A (zw G (XS b) 105 a g31 L32) := hD
          refine lv_goto (tgt := 89) hx hb dX2_tryFrom_50 (by decide) ?_
          exact J89 g31 L32 H locs ls h hP hD hS (lv_sub hl [] rfl)
      ·
        have h := ite_e c7 h
        exact J23 p2 g L H locs ls h hP hD hS (lv_sub hl [0, 2] rfl)
  ·
    have h := ite_e c1 h
    exact y_vret C hr hlk hP hD hS h (Nat.le_of_ble_eq_true rfl) (Nat.le_of_ble_eq_true rfl) dX2_tryFrom_8
set_option maxHeartbeats 4000000 in
set_option maxRecDepth 100000 in
theorem rX2_tryGapsOf_10_L13 (l : Launch) (G : kG) (sz : Nat) (b : Nat) (a : Nat → Nat) (fu : Nat) (g : Nat → Nat → Int32) (L : Nat → Nat → Int64) (p1 : Int32) (p2 : Int32) (res : Unit) (s9 : zS) (h : fX2_tryGapsOf_10 fu (fX2_tryFrom_10 fu 12) p1 p2 g L = some (res, s9)) : kM l yX2_tryGapsOf cX2_tryGapsOf 5 none { frames := 34, cells := 0, slots := 0, locals := 755 } G [.ref (a 10), .int p1, .int p2] (zw G (XS b) 105 a g L) sz (kQv G (S := Unit) (fun _ => True) (fun _ => zw G (XS b) 105 a s9.1 s9.2)) := by
  refine kM.of (by decide) (Nat.le_of_ble_eq_true rfl) ?_
  intro p e s m below meth c A ls H C hr hlk hnm hP hD hS hl
  have C : kC G p s m c cX2_tryGapsOf 5 RX2 A := C
  have hx := C.1
  have hb := C.2.1
  have hl : lv_has ls 5 [(0, .ref (a 10)), (1, .int p1), (2, .int p2)] := hl
  obtain ⟨locs, hlocs⟩ : ∃ q : List Loc, q = [] := ⟨_, rfl⟩
  rw [← hlocs] at hS
  rw [← hlocs]
  unfold fX2_tryGapsOf_10 at h
  refine lv_iconst (v := -1) hx hb dX2_tryGapsOf_0 (by decide) ?_
  refine lv_istore_n (lv' := [(3, .int (-1)), (0, .ref (a 10)), (1, .int p1), (2, .int p2)]) hx hb dX2_tryGapsOf_1 rfl hl (by decide) rfl (fun ls hl => ?_)
  refine lv_iconst (v := 0) hx hb dX2_tryGapsOf_2 (by decide) ?_
  refine lv_istore (lv' := [(4, .int 0), (3, .int (-1)), (0, .ref (a 10)), (1, .int p1), (2, .int p2)]) hx hb dX2_tryGapsOf_3 hl (by decide) rfl (fun ls hl => ?_)
  have lp5 : ∀ (v1 : Int32) (v2 : Int32), ∀ (n : Nat) (v : Int32 × Int32 × (Nat → Nat → Int32) × (Nat → Nat → Int64)), whileK (fun k v => fX2_tryGapsOf_10_s5 fu (fX2_tryFrom_10 fu 12) v1 v2 k v.1 v.2.1 v.2.2.1 v.2.2.2) n v = some (res, s9) → ∀ (H : Heap) (locs : List Loc) (ls : Array Slot), va_P G.1 vwCl (zw G (XS b) 105 a (v.2.2.1) (v.2.2.2)) H → va_D A (zw G (XS b) 105 a (v.2.2.1) (v.2.2.2)) → va_S A s.heap H locs → lv_has ls 5 [(0, .ref (a 10)), (1, .int v1), (2, .int v2), (3, .int (v.1)), (4, .int (v.2.1))] → W p l e { frames := 34, cells := 0, slots := 0, locals := 755 } s m [.ref (a 10), .int p1, .int p2].toArray below meth c H locs 0 0 (MQ below ((kQv G (S := Unit) (fun _ => True) (fun _ => zw G (XS b) 105 a s9.1 s9.2)) A) [.ref (a 10), .int p1, .int p2].toArray s 0 0 A) (F0 m 5 ls []) := by
    intro v1 v2
    refine while_ind (fun k5 ih5 v h => ?_)
    obtain ⟨v3, v4, g, L⟩ := v
    intro H locs ls hP hD hS hl
    have h : fX2_tryGapsOf_10_s5 fu (fX2_tryFrom_10 fu 12) v1 v2 k5 v3 v4 g L = some (res, s9) := h
    have hP : va_P G.1 vwCl (zw G (XS b) 105 a g L) H := hP
    have hD : va_D A (zw G (XS b) 105 a g L) := hD
    have hl : lv_has ls 5 [(0, .ref (a 10)), (1, .int v1), (2, .int v2), (3, .int v3), (4, .int v4)] := hl
    show W p l e { frames := 34, cells := 0, slots := 0, locals := 755 } s m [.ref (a 10), .int p1, .int p2].toArray below meth c H locs 0 0 (MQ below ((kQv G (S := Unit) (fun _ => True) (fun _ => zw G (XS b) 105 a s9.1 s9.2)) A) [.ref (a 10), .int p1, .int p2].toArray s 0 0 A) (F0 m 5 ls [])
    unfold fX2_tryGapsOf_10_s5 at h
    refine lv_iload hx hb dX2_tryGapsOf_5 (lv_at hl 4 rfl) ?_
    refine lv_iconst (v := 4) hx hb dX2_tryGapsOf_7 (by decide) ?_
    refine lv_icmp_gt (x := v4) (y := 4) (tgt := 70) hx hb dX2_tryGapsOf_8 (by decide) (fun c1 => ?_) (fun c1 => ?_)
    ·
      have h := ite_t c1 h
      exact y_vret C hr hlk hP hD hS h (Nat.le_of_ble_eq_true rfl) (Nat.le_of_ble_eq_true rfl) dX2_tryGapsOf_70
    ·
      have h := ite_e c1 h
      refine lv_aload_n hx hb dX2_tryGapsOf_11 rfl (lv_at hl 0 rfl) ?_
      refine x_getr (Or.inl fl_X2_28) C hP (by decide) xs_10 rfl dX2_tryGapsOf_12 ?_
      refine x_getr (Or.inr fl_X2_45) C hP (by decide) xs_6 rfl dX2_tryGapsOf_15 ?_
      refine lv_iload_n hx hb dX2_tryGapsOf_18 rfl (lv_at hl 1 rfl) ?_
      refine lv_iload hx hb dX2_tryGapsOf_19 (lv_at hl 4 rfl) ?_
      refine y_ast C hP hD hS (by decide) xs_26 dX2_tryGapsOf_21 h (fun g2 H locs h hP hD hS => ?_)
      refine lv_aload_n hx hb dX2_tryGapsOf_22 rfl (lv_at hl 0 rfl) ?_
      refine x_getr (Or.inl fl_X2_18) C hP (by decide) xs_10 rfl dX2_tryGapsOf_23 ?_
      refine lv_iload_n hx hb dX2_tryGapsOf_26 rfl (lv_at hl 1 rfl) ?_
      obtain ⟨z_, g4, L5, hf6, h⟩ := cb_some h
      refine x_callNv (rest := []) li_X2_86 C (rX1_runOne_8 l G H.size b a fu g2 L v1 z_ (g4, L5) hf6) (kR rfl) hP hD hS 8 1 rfl (zat (by decide) xs_8) rfl hl.1 rfl (Nat.le_of_ble_eq_true rfl) dX2_tryGapsOf_27 (fun u_ H locs e_ hP hD hS => ?_)
      have hP : va_P G.1 vwCl (zw G (XS b) 105 a g4 L5) H := hP
      have hD : va_D A (zw G (XS b) 105 a g4 L5) := hD
      refine lv_aload_n hx hb dX2_tryGapsOf_30 rfl (lv_at hl 0 rfl) ?_
      refine x_getr (Or.inl fl_X2_18) C hP (by decide) xs_10 rfl dX2_tryGapsOf_31 ?_
      refine x_getr (Or.inr fl_X2_92) C hP (by decide) xs_8 rfl dX2_tryGapsOf_34 ?_
      refine lv_iload_n hx hb dX2_tryGapsOf_37 rfl (lv_at hl 1 rfl) ?_
      refine y_ald C hP (by decide) xs_44 dX2_tryGapsOf_38 h (fun h => ?_)
      refine lv_iload_n hx hb dX2_tryGapsOf_39 rfl (lv_at hl 3 rfl) ?_
      have J64 : ∀ (v3 : Int32) (v4 : Int32) (g : Nat → Nat → Int32) (L : Nat → Nat → Int64) (H : Heap) (locs : List Loc) (ls : Array Slot), fX2_tryGapsOf_10_p64 fu (fX2_tryFrom_10 fu 12) k5 v1 v2 v3 v4 g L = some (res, s9) → va_P G.1 vwCl (zw G (XS b) 105 a g L) H → va_D A (zw G (XS b) 105 a g L) → va_S A s.heap H locs → lv_has ls 5 [(0, .ref (a 10)), (1, .int v1), (2, .int v2), (3, .int v3), (4, .int v4)] → W p l e { frames := 34, cells := 0, slots := 0, locals := 755 } s m [.ref (a 10), .int p1, .int p2].toArray below meth c H locs 0 0 (MQ below ((kQv G (S := Unit) (fun _ => True) (fun _ => zw G (XS b) 105 a s9.1 s9.2)) A) [.ref (a 10), .int p1, .int p2].toArray s 0 0 A) (F0 m 64 ls []) := by
        intro v3 v4 g L H locs ls h hP hD hS hl
        unfold fX2_tryGapsOf_10_p64 at h
        refine lv_iinc (v := (v4 + 1)) (lv' := [(4, .int (v4 + 1)), (0, .ref (a 10)), (1, .int v1), (2, .int v2), (3, .int v3)]) hx hb dX2_tryGapsOf_64 hl (k := 4) rfl rfl (by decide) rfl (fun ls hl => ?_)
        refine lv_goto (tgt := 5) hx hb dX2_tryGapsOf_67 (by decide) ?_
        exact ih5 (v3, (v4 + 1), g, L) h H locs ls hP hD hS (lv_sub hl [1, 2, 3, 4, 0] rfl)
      refine lv_icmp_eq (x := (g4 44 (Int32.toNatClampNeg v1))) (y := v3) (tgt := 64) hx hb dX2_tryGapsOf_40 (by decide) (fun c7 => ?_) (fun c7 => ?_)
      ·
        have h := ite_t c7 h
        exact J64 v3 v4 g4 L5 H locs ls h hP hD hS (lv_sub hl [0, 1, 2, 3, 4] rfl)
      ·
        have h := ite_e c7 h
        refine lv_aload_n hx hb dX2_tryGapsOf_43 rfl (lv_at hl 0 rfl) ?_
        refine x_getr (Or.inl fl_X2_18) C hP (by decide) xs_10 rfl dX2_tryGapsOf_44 ?_
        refine x_getr (Or.inr fl_X2_92) C hP (by decide) xs_8 rfl dX2_tryGapsOf_47 ?_
        refine lv_iload_n hx hb dX2_tryGapsOf_50 rfl (lv_at hl 1 rfl) ?_
        refine y_ald C hP (by decide) xs_44 dX2_tryGapsOf_51 h (fun h => ?_)
        refine y_let h (fun x8 h => ?_)
        refine lv_istore_n (lv' := [(3, .int x8), (0, .ref (a 10)), (1, .int v1), (2, .int v2), (4, .int v4)]) hx hb dX2_tryGapsOf_52 rfl hl (by decide) rfl (fun ls hl => ?_)
        refine lv_aload_n hx hb dX2_tryGapsOf_53 rfl (lv_at hl 1 rfl) ?_
        refine lv_iload_n hx hb dX2_tryGapsOf_54 rfl (lv_at hl 2 rfl) ?_
        refine lv_iconst (v := 1) hx hb dX2_tryGapsOf_55 (by decide) ?_
        refine lv_iadd hx hb dX2_tryGapsOf_56 ?_
        refine lv_iload_n hx hb dX2_tryGapsOf_57 rfl (lv_at hl 3 rfl) ?_
        refine lv_iload hx hb dX2_tryGapsOf_58 (lv_at hl 4 rfl) ?_
        refine lv_iadd hx hb dX2_tryGapsOf_60 ?_
        obtain ⟨z_, g10, L11, hf12, h⟩ := cb_some h
        refine x_callVv (rest := []) li_X2_60 C (rX2_tryFrom_10_L12 l G H.size b a fu g4 L5 (v1 + 1) (v2 + v4) z_ (g10, L11) hf12) (kR rfl) hP hD hS 10 2 rfl (zat (by decide) xs_10) rfl hl.1 rfl (Nat.le_of_ble_eq_true rfl) dX2_tryGapsOf_61 (fun u_ H locs e_ hP hD hS => ?_)
        have hP : va_P G.1 vwCl (zw G (XS b) 105 a g10 L11) H := hP
        have hD : va_D A (zw G (XS b) 105 a g10 L11) := hD
        exact J64 x8 v4 g10 L11 H locs ls h hP hD hS (lv_sub hl [1, 2, 3, 0, 4] rfl)
  exact lp5 p1 p2 fu ((-1), 0, g, L) h H locs ls hP hD hS (lv_sub hl [2, 3, 4, 1, 0] rfl)
set_option maxHeartbeats 4000000 in
set_option maxRecDepth 100000 in
theorem rX2_tryFrom_10_L13 (l : Launch) (G : kG) (sz : Nat) (b : Nat) (a : Nat → Nat) (fu : Nat) (g : Nat → Nat → Int32) (L : Nat → Nat → Int64) (p1 : Int32) (p2 : Int32) (res : Unit) (s9 : zS) (h : fX2_tryFrom_10 fu 13 p1 p2 g L = some (res, s9)) : kM l yX2_tryFrom cX2_tryFrom 3 none { frames := 35, cells := 0, slots := 0, locals := 779 } G [.ref (a 10), .int p1, .int p2] (zw G (XS b) 105 a g L) sz (kQv G (S := Unit) (fun _ => True) (fun _ => zw G (XS b) 105 a s9.1 s9.2)) := by
  refine kM.of (by decide) (Nat.le_of_ble_eq_true rfl) ?_
  intro p e s m below meth c A ls H C hr hlk hnm hP hD hS hl
  have C : kC G p s m c cX2_tryFrom 3 RX2 A := C
  have hx := C.1
  have hb := C.2.1
  have hl : lv_has ls 3 [(0, .ref (a 10)), (1, .int p1), (2, .int p2)] := hl
  obtain ⟨locs, hlocs⟩ : ∃ q : List Loc, q = [] := ⟨_, rfl⟩
  rw [← hlocs] at hS
  rw [← hlocs]
  rw [fX2_tryFrom_10_succ] at h
  unfold fX2_tryFrom_10B at h
  refine lv_iload_n hx hb dX2_tryFrom_0 rfl (lv_at hl 2 rfl) ?_
  refine lv_aload_n hx hb dX2_tryFrom_1 rfl (lv_at hl 0 rfl) ?_
  refine x_getv (v := .int (g 10 8)) (Or.inl fl_X2_39) C hP (by decide) xs_10 rfl dX2_tryFrom_2 ?_
  refine lv_icmp_lt (x := p2) (y := (g 10 8)) (tgt := 9) hx hb dX2_tryFrom_5 (by decide) (fun c1 => ?_) (fun c1 => ?_)
  ·
    have h := ite_t c1 h
    refine lv_iload_n hx hb dX2_tryFrom_9 rfl (lv_at hl 1 rfl) ?_
    refine lv_aload_n hx hb dX2_tryFrom_10 rfl (lv_at hl 0 rfl) ?_
    refine x_getv (v := .int (g 10 5)) (Or.inl fl_X2_36) C hP (by decide) xs_10 rfl dX2_tryFrom_11 ?_
    have J89 : ∀ (g : Nat → Nat → Int32) (L : Nat → Nat → Int64) (H : Heap) (locs : List Loc) (ls : Array Slot), fX2_tryFrom_10_p89 fu (fX2_tryFrom_10 fu 12) g L = some (res, s9) → va_P G.1 vwCl (zw G (XS b) 105 a g L) H → va_D A (zw G (XS b) 105 a g L) → va_S A s.heap H locs → lv_has ls 3 [] → W p l e { frames := 35, cells := 0, slots := 0, locals := 779 } s m [.ref (a 10), .int p1, .int p2].toArray below meth c H locs 0 0 (MQ below ((kQv G (S := Unit) (fun _ => True) (fun _ => zw G (XS b) 105 a s9.1 s9.2)) A) [.ref (a 10), .int p1, .int p2].toArray s 0 0 A) (F0 m 89 ls []) := by
      intro g L H locs ls h hP hD hS hl
      unfold fX2_tryFrom_10_p89 at h
      exact y_vret C hr hlk hP hD hS h (Nat.le_of_ble_eq_true rfl) (Nat.le_of_ble_eq_true rfl) dX2_tryFrom_89
    have J23 : ∀ (v2 : Int32) (g : Nat → Nat → Int32) (L : Nat → Nat → Int64) (H : Heap) (locs : List Loc) (ls : Array Slot), fX2_tryFrom_10_p23 fu (fX2_tryFrom_10 fu 12) v2 g L = some (res, s9) → va_P G.1 vwCl (zw G (XS b) 105 a g L) H → va_D A (zw G (XS b) 105 a g L) → va_S A s.heap H locs → lv_has ls 3 [(0, .ref (a 10)), (2, .int v2)] → W p l e { frames := 35, cells := 0, slots := 0, locals := 779 } s m [.ref (a 10), .int p1, .int p2].toArray below meth c H locs 0 0 (MQ below ((kQv G (S := Unit) (fun _ => True) (fun _ => zw G (XS b) 105 a s9.1 s9.2)) A) [.ref (a 10), .int p1, .int p2].toArray s 0 0 A) (F0 m 23 ls []) := by
      intro v2 g L H locs ls h hP hD hS hl
      unfold fX2_tryFrom_10_p23 at h
      refine lv_aload_n hx hb dX2_tryFrom_23 rfl (lv_at hl 0 rfl) ?_
      refine lv_iload_n hx hb dX2_tryFrom_24 rfl (lv_at hl 1 rfl) ?_
      obtain ⟨z_, g3, L4, hf5, h⟩ := cb_some h
      refine x_callVv (rest := []) li_X2_82 C (rX2_takeIfOnTime_10 l G H.size b a fu g L v2 z_ (g3, L4) hf5) (kR rfl) hP hD hS 10 2 rfl (zat (by decide) xs_10) rfl hl.1 rfl (Nat.le_of_ble_eq_true rfl) dX2_tryFrom_25 (fun u_ H locs e_ hP hD hS => ?_)
      have hP : va_P G.1 vwCl (zw G (XS b) 105 a g3 L4) H := hP
      have hD : va_D A (zw G (XS b) 105 a g3 L4) := hD
      refine lv_goto (tgt := 89) hx hb dX2_tryFrom_28 (by decide) ?_
      exact J89 g3 L4 H locs ls h hP hD hS (lv_sub hl [] rfl)
    refine lv_icmp_gt (x := p1) (y := (g 10 5)) (tgt := 23) hx hb dX2_tryFrom_14 (by decide) (fun c6 => ?_) (fun c6 => ?_)
    ·
      have h := ite_t c6 h
      exact J23 p2 g L H locs ls h hP hD hS (lv_sub hl [0, 2] rfl)
    ·
      have h := ite_e c6 h
      refine lv_iload_n hx hb dX2_tryFrom_17 rfl (lv_at hl 1 rfl) ?_
      refine lv_bipush (v := 12) hx hb dX2_tryFrom_18 (by decide) ?_
      refine lv_icmp_lt (x := p1) (y := 12) (tgt := 31) hx hb dX2_tryFrom_20 (by decide) (fun c7 => ?_) (fun c7 => ?_)
      ·
        have h := ite_t c7 h
        refine lv_aload_n hx hb dX2_tryFrom_31 rfl (lv_at hl 0 rfl) ?_
        refine x_getv (v := .int (g 10 7)) (Or.inl fl_X2_64) C hP (by decide) xs_10 rfl dX2_tryFrom_32 ?_
        refine lv_iload_n hx hb dX2_tryFrom_35 rfl (lv_at hl 1 rfl) ?_
        obtain ⟨z_, g9, L10, hf11, h⟩ := cb_some h
        refine x_callSi (rest := []) li_X2_56 C (rX2_isIn l G H.size b a fu g L (g 10 7) p1 z_ (g9, L10) hf11) (kR rfl) hP hD hS rfl hl.1 rfl (Nat.le_of_ble_eq_true rfl) dX2_tryFrom_36 (fun x8 u_ H locs e_ hP hD hS => ?_)
        have e_ : x8 = z_ := e_
        subst e_
        have hP : va_P G.1 vwCl (zw G (XS b) 105 a g9 L10) H := hP
        have hD : va_D A (zw G (XS b) 105 a g9 L10) := hD
        refine lv_if_ne (x := x8) (tgt := 53) hx hb dX2_tryFrom_39 (by decide) (fun c12 => ?_) (fun c12 => ?_)
        ·
          have h := ite_e c12 h
          refine lv_aload_n hx hb dX2_tryFrom_53 rfl (lv_at hl 0 rfl) ?_
          refine x_getv (v := .int (g9 10 4)) (Or.inl fl_X2_29) C hP (by decide) xs_10 rfl dX2_tryFrom_54 ?_
          refine lv_iload_n hx hb dX2_tryFrom_57 rfl (lv_at hl 1 rfl) ?_
          obtain ⟨z_, g14, L15, hf16, h⟩ := cb_some h
          refine x_callSi (rest := []) li_X2_56 C (rX2_isIn l G H.size b a fu g9 L10 (g9 10 4) p1 z_ (g14, L15) hf16) (kR rfl) hP hD hS rfl hl.1 rfl (Nat.le_of_ble_eq_true rfl) dX2_tryFrom_58 (fun x13 u_ H locs e_ hP hD hS => ?_)
          have e_ : x13 = z_ := e_
          subst e_
          have hP : va_P G.1 vwCl (zw G (XS b) 105 a g14 L15) H := hP
          have hD : va_D A (zw G (XS b) 105 a g14 L15) := hD
          refine lv_if_ne (x := x13) (tgt := 83) hx hb dX2_tryFrom_61 (by decide) (fun c17 => ?_) (fun c17 => ?_)
          ·
            have h := ite_e c17 h
            refine lv_aload_n hx hb dX2_tryFrom_83 rfl (lv_at hl 0 rfl) ?_
            refine lv_iload_n hx hb dX2_tryFrom_84 rfl (lv_at hl 1 rfl) ?_
            refine lv_iload_n hx hb dX2_tryFrom_85 rfl (lv_at hl 2 rfl) ?_
            obtain ⟨z_, g19, L20, hf21, h⟩ := cb_some h
            refine x_callVv (rest := []) li_X2_89 C (rX2_tryGapsOf_10_L13 l G H.size b a fu g14 L15 p1 p2 z_ (g19, L20) hf21) (kR rfl) hP hD hS 10 2 rfl (zat (by decide) xs_10) rfl hl.1 rfl (Nat.le_of_ble_eq_true rfl) dX2_tryFrom_86 (fun u_ H locs e_ hP hD hS => ?_)
            have hP : va_P G.1 vwCl (zw G (XS b) 105 a g19 L20) H := hP
            have hD : va_D A (zw G (XS b) 105 a g19 L20) := hD
            exact J89 g19 L20 H locs ls h hP hD hS (lv_sub hl [] rfl)
          ·
            have h := ite_t c17 h
            refine lv_aload_n hx hb dX2_tryFrom_64 rfl (lv_at hl 0 rfl) ?_
            refine x_getr (Or.inl fl_X2_18) C hP (by decide) xs_10 rfl dX2_tryFrom_65 ?_
            refine lv_iload_n hx hb dX2_tryFrom_68 rfl (lv_at hl 1 rfl) ?_
            obtain ⟨z_, g23, L24, hf25, h⟩ := cb_some h
            refine x_callNv (rest := []) li_X2_86 C (rX1_runOne_8 l G H.size b a fu g14 L15 p1 z_ (g23, L24) hf25) (kR rfl) hP hD hS 8 1 rfl (zat (by decide) xs_8) rfl hl.1 rfl (Nat.le_of_ble_eq_true rfl) dX2_tryFrom_69 (fun u_ H locs e_ hP hD hS => ?_)
            have hP : va_P G.1 vwCl (zw G (XS b) 105 a g23 L24) H := hP
            have hD : va_D A (zw G (XS b) 105 a g23 L24) := hD
            refine lv_aload_n hx hb dX2_tryFrom_72 rfl (lv_at hl 0 rfl) ?_
            refine lv_iload_n hx hb dX2_tryFrom_73 rfl (lv_at hl 1 rfl) ?_
            refine lv_iconst (v := 1) hx hb dX2_tryFrom_74 (by decide) ?_
            refine lv_iadd hx hb dX2_tryFrom_75 ?_
            refine lv_iload_n hx hb dX2_tryFrom_76 rfl (lv_at hl 2 rfl) ?_
            obtain ⟨z_, g27, L28, hf29, h⟩ := cb_some h
            refine x_callVv (rest := []) li_X2_60 C (rX2_tryFrom_10_L12 l G H.size b a fu g23 L24 (p1 + 1) p2 z_ (g27, L28) hf29) (kR rfl) hP hD hS 10 2 rfl (zat (by decide) xs_10) rfl hl.1 rfl (Nat.le_of_ble_eq_true rfl) dX2_tryFrom_77 (fun u_ H locs e_ hP hD hS => ?_)
            have hP : va_P G.1 vwCl (zw G (XS b) 105 a g27 L28) H := hP
            have hD : va_D A (zw G (XS b) 105 a g27 L28) := hD
            refine lv_goto (tgt := 89) hx hb dX2_tryFrom_80 (by decide) ?_
            exact J89 g27 L28 H locs ls h hP hD hS (lv_sub hl [] rfl)
        ·
          have h := ite_t c12 h
          refine lv_aload_n hx hb dX2_tryFrom_42 rfl (lv_at hl 0 rfl) ?_
          refine lv_iload_n hx hb dX2_tryFrom_43 rfl (lv_at hl 1 rfl) ?_
          refine lv_iconst (v := 1) hx hb dX2_tryFrom_44 (by decide) ?_
          refine lv_iadd hx hb dX2_tryFrom_45 ?_
          refine lv_iload_n hx hb dX2_tryFrom_46 rfl (lv_at hl 2 rfl) ?_
          obtain ⟨z_, g31, L32, hf33, h⟩ := cb_some h
          refine x_callVv (rest := []) li_X2_60 C (rX2_tryFrom_10_L12 l G H.size b a fu g9 L10 (p1 + 1) p2 z_ (g31, L32) hf33) (kR rfl) hP hD hS 10 2 rfl (zat (by decide) xs_10) rfl hl.1 rfl (Nat.le_of_ble_eq_true rfl) dX2_tryFrom_47 (fun u_ H locs e_ hP hD hS => ?_)
          have hP : va_P G.1 vwCl (zw G (XS b) 105 a g31 L32) H := hP
          have hD : va_D A (zw G (XS b) 105 a g31 L32) := hD
          refine lv_goto (tgt := 89) hx hb dX2_tryFrom_50 (by decide) ?_
          exact J89 g31 L32 H locs ls h hP hD hS (lv_sub hl [] rfl)
      ·
        have h := ite_e c7 h
        exact J23 p2 g L H locs ls h hP hD hS (lv_sub hl [0, 2] rfl)
  ·
    have h := ite_e c1 h
    exact y_vret C hr hlk hP hD hS h (Nat.le_of_ble_eq_true rfl) (Nat.le_of_ble_eq_true rfl) dX2_tryFrom_8
def fX2_fewest_10_p130 (fu : Nat) (t0 : Int32) (g : Nat → Nat → Int32) (L : Nat → Nat → Int64) : Option ((Int32) × zS) :=
  some (t0, (g, L))
def fX2_fewest_10_p82 (fu : Nat) (k46 : Int32 × (Nat → Nat → Int32) × (Nat → Nat → Int64) → Option ((Int32) × zS)) (v1 : Int32) (v4 : Int32) (t0 : Int32) (t1 : Int32) (g : Nat → Nat → Int32) (L : Nat → Nat → Int64) : Option ((Int32) × zS) :=
  ck t1 12 (sti g 26 (Int32.toNatClampNeg t1) t0 (fun g21 =>
  k46 ((v4 + 1), g21, L)))
def fX2_fewest_10_s46 (fu : Nat) (v1 : Int32) (k46 : Int32 × (Nat → Nat → Int32) × (Nat → Nat → Int64) → Option ((Int32) × zS)) (v4 : Int32) (g : Nat → Nat → Int32) (L : Nat → Nat → Int64) : Option ((Int32) × zS) :=
  if 12 ≤ (v4 : Int32) then cb (fX2_tryFrom_10 fu 13 0 0 g L) (fun x11 g12 L13 =>
  stA g12 26 (va_cpy (g12 50) (g12 26) (Int32.toNatClampNeg 0) (Int32.toNatClampNeg 0) (Int32.toNatClampNeg 12)) (fun g15 =>
  if (g15 10 8) = 21 then fX2_fewest_10_p130 fu (-1) g15 L13
  else fX2_fewest_10_p130 fu (g15 10 8) g15 L13))
  else cb (fX2_isIn fu v1 v4 g L) (fun x17 g18 L19 =>
  if x17 = 0 then ck v4 12 (
  fX2_fewest_10_p82 fu k46 v1 v4 (g18 50 (Int32.toNatClampNeg v4)) v4 g18 L19)
  else fX2_fewest_10_p82 fu k46 v1 v4 0 v4 g18 L19)
def fX2_fewest_10_l46 (fu : Nat) (v1 : Int32) (v4 : Int32) (g : Nat → Nat → Int32) (L : Nat → Nat → Int64) : Option ((Int32) × zS) :=
  whileK (fun k v => fX2_fewest_10_s46 fu v1 k v.1 v.2.1 v.2.2) fu (v4, g, L)
def fX2_fewest_10 (fu : Nat) (p1 : Int32) (p2 : Int32) (p3 : Int32) (g : Nat → Nat → Int32) (L : Nat → Nat → Int64) : Option ((Int32) × zS) :=
  sti g 10 4 p1 (fun g1 =>
  sti g1 10 6 p3 (fun g2 =>
  sti g2 10 5 p2 (fun g3 =>
  sti g3 10 8 21 (fun g4 =>
  cb (fX2_findAsked_10 fu g4 L) (fun x5 g6 L7 =>
  stA g6 50 (va_cpy (g6 26) (g6 50) (Int32.toNatClampNeg 0) (Int32.toNatClampNeg 0) (Int32.toNatClampNeg 12)) (fun g9 =>
  fX2_fewest_10_l46 fu p1 0 g9 L7))))))
set_option maxHeartbeats 4000000 in
set_option maxRecDepth 100000 in
theorem rX2_fewest_10 (l : Launch) (G : kG) (sz : Nat) (b : Nat) (a : Nat → Nat) (fu : Nat) (g : Nat → Nat → Int32) (L : Nat → Nat → Int64) (p1 : Int32) (p2 : Int32) (p3 : Int32) (res : Int32) (s9 : zS) (h : fX2_fewest_10 fu p1 p2 p3 g L = some (res, s9)) : kM l yX2_fewest cX2_fewest 5 (some .int) { frames := 36, cells := 0, slots := 0, locals := 801 } G [.ref (a 10), .int p1, .int p2, .int p3] (zw G (XS b) 105 a g L) sz (kQi G (S := Unit) (fun r' _ => r' = res) (fun _ => zw G (XS b) 105 a s9.1 s9.2)) := by
  refine kM.of (by decide) (Nat.le_of_ble_eq_true rfl) ?_
  intro p e s m below meth c A ls H C hr hlk hnm hP hD hS hl
  have C : kC G p s m c cX2_fewest 5 RX2 A := C
  have hx := C.1
  have hb := C.2.1
  have hl : lv_has ls 5 [(0, .ref (a 10)), (1, .int p1), (2, .int p2), (3, .int p3)] := hl
  obtain ⟨locs, hlocs⟩ : ∃ q : List Loc, q = [] := ⟨_, rfl⟩
  rw [← hlocs] at hS
  rw [← hlocs]
  unfold fX2_fewest_10 at h
  refine lv_aload_n hx hb dX2_fewest_0 rfl (lv_at hl 0 rfl) ?_
  refine lv_iload_n hx hb dX2_fewest_1 rfl (lv_at hl 1 rfl) ?_
  refine y_puti (Or.inl fl_X2_29) ft_X2_4 C hP hD hS (by decide) xs_10 rfl rfl rfl dX2_fewest_2 h (fun g1 H locs h hP hD hS => ?_)
  refine lv_aload_n hx hb dX2_fewest_5 rfl (lv_at hl 0 rfl) ?_
  refine lv_iload_n hx hb dX2_fewest_6 rfl (lv_at hl 3 rfl) ?_
  refine y_puti (Or.inl fl_X2_33) ft_X2_6 C hP hD hS (by decide) xs_10 rfl rfl rfl dX2_fewest_7 h (fun g2 H locs h hP hD hS => ?_)
  refine lv_aload_n hx hb dX2_fewest_10 rfl (lv_at hl 0 rfl) ?_
  refine lv_iload_n hx hb dX2_fewest_11 rfl (lv_at hl 2 rfl) ?_
  refine y_puti (Or.inl fl_X2_36) ft_X2_5 C hP hD hS (by decide) xs_10 rfl rfl rfl dX2_fewest_12 h (fun g3 H locs h hP hD hS => ?_)
  refine lv_aload_n hx hb dX2_fewest_15 rfl (lv_at hl 0 rfl) ?_
  refine lv_bipush (v := 21) hx hb dX2_fewest_16 (by decide) ?_
  refine y_puti (Or.inl fl_X2_39) ft_X2_8 C hP hD hS (by decide) xs_10 rfl rfl rfl dX2_fewest_18 h (fun g4 H locs h hP hD hS => ?_)
  refine lv_aload_n hx hb dX2_fewest_21 rfl (lv_at hl 0 rfl) ?_
  obtain ⟨z_, g6, L7, hf8, h⟩ := cb_some h
  refine x_callVv (rest := []) li_X2_42 C (rX2_findAsked_10 l G H.size b a fu g4 L z_ (g6, L7) hf8) (kR rfl) hP hD hS 10 2 rfl (zat (by decide) xs_10) rfl hl.1 rfl (Nat.le_of_ble_eq_true rfl) dX2_fewest_22 (fun u_ H locs e_ hP hD hS => ?_)
  have hP : va_P G.1 vwCl (zw G (XS b) 105 a g6 L7) H := hP
  have hD : va_D A (zw G (XS b) 105 a g6 L7) := hD
  refine lv_aload_n hx hb dX2_fewest_25 rfl (lv_at hl 0 rfl) ?_
  refine x_getr (Or.inl fl_X2_28) C hP (by decide) xs_10 rfl dX2_fewest_26 ?_
  refine x_getr (Or.inr fl_X2_45) C hP (by decide) xs_6 rfl dX2_fewest_29 ?_
  refine lv_iconst (v := 0) hx hb dX2_fewest_32 (by decide) ?_
  refine lv_aload_n hx hb dX2_fewest_33 rfl (lv_at hl 0 rfl) ?_
  refine x_getr (Or.inl fl_X2_9) C hP (by decide) xs_10 rfl dX2_fewest_34 ?_
  refine lv_iconst (v := 0) hx hb dX2_fewest_37 (by decide) ?_
  refine lv_bipush (v := 12) hx hb dX2_fewest_38 (by decide) ?_
  refine y_copy lc_X2_50 C hl.1 hP hD hS (by decide) (by decide) xs_26 xs_50 (by decide) (by decide) (by decide) (by decide) (by decide) (Nat.le_of_ble_eq_true rfl) (Nat.le_of_ble_eq_true rfl) dX2_fewest_40 h (fun g9 H locs h hP hD hS => ?_)
  refine lv_iconst (v := 0) hx hb dX2_fewest_43 (by decide) ?_
  refine lv_istore (lv' := [(4, .int 0), (0, .ref (a 10)), (1, .int p1), (2, .int p2), (3, .int p3)]) hx hb dX2_fewest_44 hl (by decide) rfl (fun ls hl => ?_)
  have lp46 : ∀ (v1 : Int32), ∀ (n : Nat) (v : Int32 × (Nat → Nat → Int32) × (Nat → Nat → Int64)), whileK (fun k v => fX2_fewest_10_s46 fu v1 k v.1 v.2.1 v.2.2) n v = some (res, s9) → ∀ (H : Heap) (locs : List Loc) (ls : Array Slot), va_P G.1 vwCl (zw G (XS b) 105 a (v.2.1) (v.2.2)) H → va_D A (zw G (XS b) 105 a (v.2.1) (v.2.2)) → va_S A s.heap H locs → lv_has ls 5 [(0, .ref (a 10)), (1, .int v1), (4, .int (v.1))] → W p l e { frames := 36, cells := 0, slots := 0, locals := 801 } s m [.ref (a 10), .int p1, .int p2, .int p3].toArray below meth c H locs 0 0 (MQ below ((kQi G (S := Unit) (fun r' _ => r' = res) (fun _ => zw G (XS b) 105 a s9.1 s9.2)) A) [.ref (a 10), .int p1, .int p2, .int p3].toArray s 0 0 A) (F0 m 46 ls []) := by
    intro v1
    refine while_ind (fun k46 ih46 v h => ?_)
    obtain ⟨v4, g, L⟩ := v
    intro H locs ls hP hD hS hl
    have h : fX2_fewest_10_s46 fu v1 k46 v4 g L = some (res, s9) := h
    have hP : va_P G.1 vwCl (zw G (XS b) 105 a g L) H := hP
    have hD : va_D A (zw G (XS b) 105 a g L) := hD
    have hl : lv_has ls 5 [(0, .ref (a 10)), (1, .int v1), (4, .int v4)] := hl
    show W p l e { frames := 36, cells := 0, slots := 0, locals := 801 } s m [.ref (a 10), .int p1, .int p2, .int p3].toArray below meth c H locs 0 0 (MQ below ((kQi G (S := Unit) (fun r' _ => r' = res) (fun _ => zw G (XS b) 105 a s9.1 s9.2)) A) [.ref (a 10), .int p1, .int p2, .int p3].toArray s 0 0 A) (F0 m 46 ls [])
    unfold fX2_fewest_10_s46 at h
    refine lv_iload hx hb dX2_fewest_46 (lv_at hl 2 rfl) ?_
    refine lv_bipush (v := 12) hx hb dX2_fewest_48 (by decide) ?_
    refine lv_icmp_ge (x := v4) (y := 12) (tgt := 89) hx hb dX2_fewest_50 (by decide) (fun c10 => ?_) (fun c10 => ?_)
    ·
      have h := ite_t c10 h
      refine lv_aload_n hx hb dX2_fewest_89 rfl (lv_at hl 0 rfl) ?_
      refine lv_iconst (v := 0) hx hb dX2_fewest_90 (by decide) ?_
      refine lv_iconst (v := 0) hx hb dX2_fewest_91 (by decide) ?_
      obtain ⟨z_, g12, L13, hf14, h⟩ := cb_some h
      refine x_callVv (rest := []) li_X2_60 C (rX2_tryFrom_10_L13 l G H.size b a fu g L 0 0 z_ (g12, L13) hf14) (kR rfl) hP hD hS 10 2 rfl (zat (by decide) xs_10) rfl hl.1 rfl (Nat.le_of_ble_eq_true rfl) dX2_fewest_92 (fun u_ H locs e_ hP hD hS => ?_)
      have hP : va_P G.1 vwCl (zw G (XS b) 105 a g12 L13) H := hP
      have hD : va_D A (zw G (XS b) 105 a g12 L13) := hD
      refine lv_aload_n hx hb dX2_fewest_95 rfl (lv_at hl 0 rfl) ?_
      refine x_getr (Or.inl fl_X2_9) C hP (by decide) xs_10 rfl dX2_fewest_96 ?_
      refine lv_iconst (v := 0) hx hb dX2_fewest_99 (by decide) ?_
      refine lv_aload_n hx hb dX2_fewest_100 rfl (lv_at hl 0 rfl) ?_
      refine x_getr (Or.inl fl_X2_28) C hP (by decide) xs_10 rfl dX2_fewest_101 ?_
      refine x_getr (Or.inr fl_X2_45) C hP (by decide) xs_6 rfl dX2_fewest_104 ?_
      refine lv_iconst (v := 0) hx hb dX2_fewest_107 (by decide) ?_
      refine lv_bipush (v := 12) hx hb dX2_fewest_108 (by decide) ?_
      refine y_copy lc_X2_50 C hl.1 hP hD hS (by decide) (by decide) xs_50 xs_26 (by decide) (by decide) (by decide) (by decide) (by decide) (Nat.le_of_ble_eq_true rfl) (Nat.le_of_ble_eq_true rfl) dX2_fewest_110 h (fun g15 H locs h hP hD hS => ?_)
      refine lv_aload_n hx hb dX2_fewest_113 rfl (lv_at hl 0 rfl) ?_
      refine x_getv (v := .int (g15 10 8)) (Or.inl fl_X2_39) C hP (by decide) xs_10 rfl dX2_fewest_114 ?_
      refine lv_bipush (v := 21) hx hb dX2_fewest_117 (by decide) ?_
      have J130 : ∀ (t0 : Int32) (g : Nat → Nat → Int32) (L : Nat → Nat → Int64) (H : Heap) (locs : List Loc) (ls : Array Slot), fX2_fewest_10_p130 fu t0 g L = some (res, s9) → va_P G.1 vwCl (zw G (XS b) 105 a g L) H → va_D A (zw G (XS b) 105 a g L) → va_S A s.heap H locs → lv_has ls 5 [] → W p l e { frames := 36, cells := 0, slots := 0, locals := 801 } s m [.ref (a 10), .int p1, .int p2, .int p3].toArray below meth c H locs 0 0 (MQ below ((kQi G (S := Unit) (fun r' _ => r' = res) (fun _ => zw G (XS b) 105 a s9.1 s9.2)) A) [.ref (a 10), .int p1, .int p2, .int p3].toArray s 0 0 A) (F0 m 130 ls [.int t0]) := by
        intro t0 g L H locs ls h hP hD hS hl
        unfold fX2_fewest_10_p130 at h
        exact y_iret C hr hlk hP hD hS h (Nat.le_of_ble_eq_true rfl) (Nat.le_of_ble_eq_true rfl) dX2_fewest_130
      refine lv_icmp_ne (x := (g15 10 8)) (y := 21) (tgt := 126) hx hb dX2_fewest_119 (by decide) (fun c16 => ?_) (fun c16 => ?_)
      ·
        have h := ite_e c16 h
        refine lv_aload_n hx hb dX2_fewest_126 rfl (lv_at hl 0 rfl) ?_
        refine x_getv (v := .int (g15 10 8)) (Or.inl fl_X2_39) C hP (by decide) xs_10 rfl dX2_fewest_127 ?_
        exact J130 (g15 10 8) g15 L13 H locs ls h hP hD hS (lv_sub hl [] rfl)
      ·
        have h := ite_t c16 h
        refine lv_iconst (v := -1) hx hb dX2_fewest_122 (by decide) ?_
        refine lv_goto (tgt := 130) hx hb dX2_fewest_123 (by decide) ?_
        exact J130 (-1) g15 L13 H locs ls h hP hD hS (lv_sub hl [] rfl)
    ·
      have h := ite_e c10 h
      refine lv_aload_n hx hb dX2_fewest_53 rfl (lv_at hl 0 rfl) ?_
      refine x_getr (Or.inl fl_X2_28) C hP (by decide) xs_10 rfl dX2_fewest_54 ?_
      refine x_getr (Or.inr fl_X2_45) C hP (by decide) xs_6 rfl dX2_fewest_57 ?_
      refine lv_iload hx hb dX2_fewest_60 (lv_at hl 2 rfl) ?_
      refine lv_iload_n hx hb dX2_fewest_62 rfl (lv_at hl 1 rfl) ?_
      refine lv_iload hx hb dX2_fewest_63 (lv_at hl 2 rfl) ?_
      obtain ⟨z_, g18, L19, hf20, h⟩ := cb_some h
      refine x_callSi (rest := [.int v4, .ref (a 26)]) li_X2_56 C (rX2_isIn l G H.size b a fu g L v1 v4 z_ (g18, L19) hf20) (kR rfl) hP hD hS rfl hl.1 rfl (Nat.le_of_ble_eq_true rfl) dX2_fewest_65 (fun x17 u_ H locs e_ hP hD hS => ?_)
      have e_ : x17 = z_ := e_
      subst e_
      have hP : va_P G.1 vwCl (zw G (XS b) 105 a g18 L19) H := hP
      have hD : va_D A (zw G (XS b) 105 a g18 L19) := hD
      have J82 : ∀ (v4 : Int32) (t0 : Int32) (t1 : Int32) (g : Nat → Nat → Int32) (L : Nat → Nat → Int64) (H : Heap) (locs : List Loc) (ls : Array Slot), fX2_fewest_10_p82 fu k46 v1 v4 t0 t1 g L = some (res, s9) → va_P G.1 vwCl (zw G (XS b) 105 a g L) H → va_D A (zw G (XS b) 105 a g L) → va_S A s.heap H locs → lv_has ls 5 [(0, .ref (a 10)), (1, .int v1), (4, .int v4)] → W p l e { frames := 36, cells := 0, slots := 0, locals := 801 } s m [.ref (a 10), .int p1, .int p2, .int p3].toArray below meth c H locs 0 0 (MQ below ((kQi G (S := Unit) (fun r' _ => r' = res) (fun _ => zw G (XS b) 105 a s9.1 s9.2)) A) [.ref (a 10), .int p1, .int p2, .int p3].toArray s 0 0 A) (F0 m 82 ls [.int t0, .int t1, .ref (a 26)]) := by
        intro v4 t0 t1 g L H locs ls h hP hD hS hl
        unfold fX2_fewest_10_p82 at h
        refine y_ast C hP hD hS (by decide) xs_26 dX2_fewest_82 h (fun g21 H locs h hP hD hS => ?_)
        refine lv_iinc (v := (v4 + 1)) (lv' := [(4, .int (v4 + 1)), (0, .ref (a 10)), (1, .int v1)]) hx hb dX2_fewest_83 hl (k := 2) rfl rfl (by decide) rfl (fun ls hl => ?_)
        refine lv_goto (tgt := 46) hx hb dX2_fewest_86 (by decide) ?_
        exact ih46 ((v4 + 1), g21, L) h H locs ls hP hD hS (lv_sub hl [1, 2, 0] rfl)
      refine lv_if_eq (x := x17) (tgt := 75) hx hb dX2_fewest_68 (by decide) (fun c22 => ?_) (fun c22 => ?_)
      ·
        have h := ite_t c22 h
        refine lv_aload_n hx hb dX2_fewest_75 rfl (lv_at hl 0 rfl) ?_
        refine x_getr (Or.inl fl_X2_9) C hP (by decide) xs_10 rfl dX2_fewest_76 ?_
        refine lv_iload hx hb dX2_fewest_79 (lv_at hl 2 rfl) ?_
        refine y_ald C hP (by decide) xs_50 dX2_fewest_81 h (fun h => ?_)
        exact J82 v4 (g18 50 (Int32.toNatClampNeg v4)) v4 g18 L19 H locs ls h hP hD hS (lv_sub hl [0, 1, 2] rfl)
      ·
        have h := ite_e c22 h
        refine lv_iconst (v := 0) hx hb dX2_fewest_71 (by decide) ?_
        refine lv_goto (tgt := 82) hx hb dX2_fewest_72 (by decide) ?_
        exact J82 v4 0 v4 g18 L19 H locs ls h hP hD hS (lv_sub hl [0, 1, 2] rfl)
  exact lp46 p1 fu (0, g9, L7) h H locs ls hP hD hS (lv_sub hl [1, 2, 0] rfl)
