theorem dX2_fewest_0 : decode cX2_fewest 0 = .ok (.aload_n 0, 1) := by decide +kernel
theorem dX2_fewest_1 : decode cX2_fewest 1 = .ok (.iload_n 1, 1) := by decide +kernel
theorem tw_410 : (Jvm.Cond.laysFinal "MarshBells$GapSearch" "MarshBells$GapSearch" "day" "LMarshBells$Day;") ∈ lw_tbl := tk_2 (List.mem_of_getElem? (i := 170) rfl)
theorem tw_412 : (Jvm.Cond.laysFinal "MarshBells$GapSearch" "MarshBells$GapSearch" "held" "LMarshBells$Held;") ∈ lw_tbl := tk_2 (List.mem_of_getElem? (i := 172) rfl)
theorem tw_414 : (Jvm.Cond.laysFinal "MarshBells$GapSearch" "MarshBells$GapSearch" "own" "[I") ∈ lw_tbl := tk_2 (List.mem_of_getElem? (i := 174) rfl)
theorem tw_416 : (Jvm.Cond.laysFinal "MarshBells$GapSearch" "MarshBells$GapSearch" "found" "[I") ∈ lw_tbl := tk_2 (List.mem_of_getElem? (i := 176) rfl)
theorem tw_418 : (Jvm.Cond.lays "MarshBells$GapSearch" "MarshBells$GapSearch" "set" "I") ∈ lw_tbl := tk_2 (List.mem_of_getElem? (i := 178) rfl)
theorem tw_420 : (Jvm.Cond.lays "MarshBells$GapSearch" "MarshBells$GapSearch" "goal" "I") ∈ lw_tbl := tk_2 (List.mem_of_getElem? (i := 180) rfl)
theorem tw_422 : (Jvm.Cond.lays "MarshBells$GapSearch" "MarshBells$GapSearch" "late" "I") ∈ lw_tbl := tk_2 (List.mem_of_getElem? (i := 182) rfl)
theorem tw_424 : (Jvm.Cond.lays "MarshBells$GapSearch" "MarshBells$GapSearch" "asked" "I") ∈ lw_tbl := tk_2 (List.mem_of_getElem? (i := 184) rfl)
theorem tw_426 : (Jvm.Cond.lays "MarshBells$GapSearch" "MarshBells$GapSearch" "fewest" "I") ∈ lw_tbl := tk_2 (List.mem_of_getElem? (i := 186) rfl)
theorem inWX2 : ∀ w ∈ u_ws RX2 TX2 9, w ∈ lw_tbl := by
  have e : ∀ k, k < 9 → u_lay RX2 TX2 k ∈ lw_tbl := fun k hk => match k, hk with | 0, _ => tw_410 | 1, _ => tw_412 | 2, _ => tw_414 | 3, _ => tw_416 | 4, _ => tw_418 | 5, _ => tw_420 | 6, _ => tw_422 | 7, _ => tw_424 | 8, _ => tw_426 | k + 9, hk => absurd hk (by omega)
  intro w h
  obtain ⟨k, hk, rfl⟩ := List.mem_map.mp h
  exact e k (List.mem_range.mp hk)
theorem tw_405 : (Jvm.Cond.fieldLink "MarshBells$GapSearch" (29 : Nat) "MarshBells$GapSearch" "set" "I") ∈ lw_tbl := tk_2 (List.mem_of_getElem? (i := 165) rfl)
theorem fl_X2_29 : kFL RX2 29 2 9 4 := ⟨RX2, TX2, rfl, by decide, inWX2, tw_405⟩
theorem ft_X2_4 : kFT 2 4 .int false RX2 := ⟨RX2, TX2, 9, tyX2, rfl, tyX2_ok, nmX2, rfl, by decide +kernel, rfl⟩
theorem dX2_fewest_2 : decode cX2_fewest 2 = .ok (.putfield 29, 3) := by decide +kernel
theorem dX2_fewest_5 : decode cX2_fewest 5 = .ok (.aload_n 0, 1) := by decide +kernel
theorem dX2_fewest_6 : decode cX2_fewest 6 = .ok (.iload_n 3, 1) := by decide +kernel
theorem tw_407 : (Jvm.Cond.fieldLink "MarshBells$GapSearch" (33 : Nat) "MarshBells$GapSearch" "late" "I") ∈ lw_tbl := tk_2 (List.mem_of_getElem? (i := 167) rfl)
theorem fl_X2_33 : kFL RX2 33 2 9 6 := ⟨RX2, TX2, rfl, by decide, inWX2, tw_407⟩
theorem ft_X2_6 : kFT 2 6 .int false RX2 := ⟨RX2, TX2, 9, tyX2, rfl, tyX2_ok, nmX2, rfl, by decide +kernel, rfl⟩
theorem dX2_fewest_7 : decode cX2_fewest 7 = .ok (.putfield 33, 3) := by decide +kernel
theorem dX2_fewest_10 : decode cX2_fewest 10 = .ok (.aload_n 0, 1) := by decide +kernel
theorem dX2_fewest_11 : decode cX2_fewest 11 = .ok (.iload_n 2, 1) := by decide +kernel
theorem tw_406 : (Jvm.Cond.fieldLink "MarshBells$GapSearch" (36 : Nat) "MarshBells$GapSearch" "goal" "I") ∈ lw_tbl := tk_2 (List.mem_of_getElem? (i := 166) rfl)
theorem fl_X2_36 : kFL RX2 36 2 9 5 := ⟨RX2, TX2, rfl, by decide, inWX2, tw_406⟩
theorem ft_X2_5 : kFT 2 5 .int false RX2 := ⟨RX2, TX2, 9, tyX2, rfl, tyX2_ok, nmX2, rfl, by decide +kernel, rfl⟩
theorem dX2_fewest_12 : decode cX2_fewest 12 = .ok (.putfield 36, 3) := by decide +kernel
theorem dX2_fewest_15 : decode cX2_fewest 15 = .ok (.aload_n 0, 1) := by decide +kernel
theorem dX2_fewest_16 : decode cX2_fewest 16 = .ok (.bipush 21, 2) := by decide +kernel
theorem tw_409 : (Jvm.Cond.fieldLink "MarshBells$GapSearch" (39 : Nat) "MarshBells$GapSearch" "fewest" "I") ∈ lw_tbl := tk_2 (List.mem_of_getElem? (i := 169) rfl)
theorem fl_X2_39 : kFL RX2 39 2 9 8 := ⟨RX2, TX2, rfl, by decide, inWX2, tw_409⟩
theorem ft_X2_8 : kFT 2 8 .int false RX2 := ⟨RX2, TX2, 9, tyX2, rfl, tyX2_ok, nmX2, rfl, by decide +kernel, rfl⟩
theorem dX2_fewest_18 : decode cX2_fewest 18 = .ok (.putfield 39, 3) := by decide +kernel
theorem dX2_fewest_21 : decode cX2_fewest 21 = .ok (.aload_n 0, 1) := by decide +kernel
theorem tw_1143 : (Jvm.Cond.methodLink "MarshBells$GapSearch" (42 : Nat) ({ cls := "MarshBells$GapSearch", name := "findAsked", desc := "()V" } : Jvm.MethodName)) ∈ lw_tbl := tk_5 (List.mem_of_getElem? (i := 183) rfl)
theorem tw_10 : (Jvm.Cond.initialized "MarshBells$GapSearch") ∈ lw_tbl := tk_1 (List.mem_of_getElem? (i := 10) rfl)
theorem tw_1146 : (Jvm.Cond.code ({ cls := "MarshBells$GapSearch", name := "findAsked", desc := "()V" } : Jvm.MethodName) prog_4_method_3_code (2 : Nat) (Option.none : Option Jvm.ClassFile.FieldType)) ∈ lw_tbl := tk_5 (List.mem_of_getElem? (i := 186) rfl)
theorem tw_1145 : (Jvm.Cond.instanceMethod ({ cls := "MarshBells$GapSearch", name := "findAsked", desc := "()V" } : Jvm.MethodName)) ∈ lw_tbl := tk_5 (List.mem_of_getElem? (i := 185) rfl)
theorem se_X2_findAsked : Cond.selects RX2 yX2_findAsked yX2_findAsked ∈ lw_tbl := List.mem_append_left _ (List.mem_of_getElem? (i := 76) rfl)
theorem li_X2_42 : kLV RX2 42 RX2 yX2_findAsked cX2_findAsked 2 none 0 := ⟨tw_1143, tw_1145, se_X2_findAsked, tw_1146, tw_10, by decide +kernel⟩
theorem dX2_findAsked_0 : decode cX2_findAsked 0 = .ok (.aload_n 0, 1) := by decide +kernel
theorem dX2_findAsked_1 : decode cX2_findAsked 1 = .ok (.iconst 1, 1) := by decide +kernel
theorem dX2_findAsked_2 : decode cX2_findAsked 2 = .ok (.aload_n 0, 1) := by decide +kernel
theorem dX2_findAsked_3 : decode cX2_findAsked 3 = .ok (.getfield 36, 3) := by decide +kernel
theorem dX2_findAsked_6 : decode cX2_findAsked 6 = .ok (.ishl, 1) := by decide +kernel
theorem tw_408 : (Jvm.Cond.fieldLink "MarshBells$GapSearch" (64 : Nat) "MarshBells$GapSearch" "asked" "I") ∈ lw_tbl := tk_2 (List.mem_of_getElem? (i := 168) rfl)
theorem fl_X2_64 : kFL RX2 64 2 9 7 := ⟨RX2, TX2, rfl, by decide, inWX2, tw_408⟩
theorem ft_X2_7 : kFT 2 7 .int false RX2 := ⟨RX2, TX2, 9, tyX2, rfl, tyX2_ok, nmX2, rfl, by decide +kernel, rfl⟩
theorem dX2_findAsked_7 : decode cX2_findAsked 7 = .ok (.putfield 64, 3) := by decide +kernel
theorem dX2_findAsked_10 : decode cX2_findAsked 10 = .ok (.aload_n 0, 1) := by decide +kernel
theorem dX2_findAsked_11 : decode cX2_findAsked 11 = .ok (.getfield 36, 3) := by decide +kernel
theorem dX2_findAsked_14 : decode cX2_findAsked 14 = .ok (.istore_n 1, 1) := by decide +kernel
theorem dX2_findAsked_15 : decode cX2_findAsked 15 = .ok (.iload_n 1, 1) := by decide +kernel
theorem dX2_findAsked_16 : decode cX2_findAsked 16 = .ok (.ifCond .lt 44, 3) := by decide +kernel
theorem dX2_findAsked_19 : decode cX2_findAsked 19 = .ok (.aload_n 0, 1) := by decide +kernel
theorem dX2_findAsked_20 : decode cX2_findAsked 20 = .ok (.getfield 64, 3) := by decide +kernel
theorem dX2_findAsked_23 : decode cX2_findAsked 23 = .ok (.iload_n 1, 1) := by decide +kernel
theorem tw_1147 : (Jvm.Cond.methodLink "MarshBells$GapSearch" (56 : Nat) ({ cls := "MarshBells$GapSearch", name := "isIn", desc := "(II)Z" } : Jvm.MethodName)) ∈ lw_tbl := tk_5 (List.mem_of_getElem? (i := 187) rfl)
theorem tw_1149 : (Jvm.Cond.code ({ cls := "MarshBells$GapSearch", name := "isIn", desc := "(II)Z" } : Jvm.MethodName) prog_4_method_4_code (2 : Nat) (Option.some Jvm.ClassFile.FieldType.boolean)) ∈ lw_tbl := tk_5 (List.mem_of_getElem? (i := 189) rfl)
theorem tw_1148 : (Jvm.Cond.static ({ cls := "MarshBells$GapSearch", name := "isIn", desc := "(II)Z" } : Jvm.MethodName)) ∈ lw_tbl := tk_5 (List.mem_of_getElem? (i := 188) rfl)
theorem li_X2_56 : kLS RX2 56 yX2_isIn cX2_isIn 2 (some .boolean) 2 := ⟨tw_1147, tw_1148, tw_1149, tw_10, by decide +kernel⟩
theorem dX2_isIn_0 : decode cX2_isIn 0 = .ok (.iload_n 0, 1) := by decide +kernel
theorem dX2_isIn_1 : decode cX2_isIn 1 = .ok (.iload_n 1, 1) := by decide +kernel
theorem dX2_isIn_2 : decode cX2_isIn 2 = .ok (.ishr, 1) := by decide +kernel
theorem dX2_isIn_3 : decode cX2_isIn 3 = .ok (.iconst 1, 1) := by decide +kernel
theorem dX2_isIn_4 : decode cX2_isIn 4 = .ok (.iand, 1) := by decide +kernel
theorem dX2_isIn_5 : decode cX2_isIn 5 = .ok (.ifCond .eq 7, 3) := by decide +kernel
theorem dX2_isIn_12 : decode cX2_isIn 12 = .ok (.iconst 0, 1) := by decide +kernel
theorem dX2_isIn_8 : decode cX2_isIn 8 = .ok (.iconst 1, 1) := by decide +kernel
theorem dX2_isIn_9 : decode cX2_isIn 9 = .ok (.goto 4, 3) := by decide +kernel
theorem dX2_isIn_13 : decode cX2_isIn 13 = .ok (.ireturn, 1) := by decide +kernel
theorem dX2_findAsked_24 : decode cX2_findAsked 24 = .ok (.invokestatic 56, 3) := by decide +kernel
theorem dX2_findAsked_27 : decode cX2_findAsked 27 = .ok (.ifCond .eq 27, 3) := by decide +kernel
theorem dX2_findAsked_30 : decode cX2_findAsked 30 = .ok (.aload_n 0, 1) := by decide +kernel
theorem dX2_findAsked_31 : decode cX2_findAsked 31 = .ok (.dup, 1) := by decide +kernel
theorem dX2_findAsked_32 : decode cX2_findAsked 32 = .ok (.getfield 64, 3) := by decide +kernel
theorem dX2_findAsked_35 : decode cX2_findAsked 35 = .ok (.aload_n 0, 1) := by decide +kernel
theorem tw_400 : (Jvm.Cond.fieldLink "MarshBells$GapSearch" (18 : Nat) "MarshBells$GapSearch" "day" "LMarshBells$Day;") ∈ lw_tbl := tk_2 (List.mem_of_getElem? (i := 160) rfl)
theorem fl_X2_18 : kFL RX2 18 2 9 0 := ⟨RX2, TX2, rfl, by decide, inWX2, tw_400⟩
theorem dX2_findAsked_36 : decode cX2_findAsked 36 = .ok (.getfield 18, 3) := by decide +kernel
theorem tw_317 : (Jvm.Cond.fieldLinkNest "MarshBells$GapSearch" (67 : Nat) "MarshBells$Day" "plan" "LMarshBells$Plan;" "MarshBells") ∈ lw_tbl := tk_2 (List.mem_of_getElem? (i := 77) rfl)
theorem fl_X2_67 : kFN RX2 67 1 10 7 := ⟨RX1, TX1, rfl, by decide, inWX1, tw_317⟩
theorem dX2_findAsked_39 : decode cX2_findAsked 39 = .ok (.getfield 67, 3) := by decide +kernel
theorem tw_150 : (Jvm.Cond.fieldLinkNest "MarshBells$GapSearch" (71 : Nat) "MarshBells$Plan" "lessons" "[LMarshBells$Lesson;" "MarshBells") ∈ lw_tbl := tk_1 (List.mem_of_getElem? (i := 150) rfl)
theorem fl_X2_71 : kFN RX2 71 7 5 0 := ⟨RX7, TX7, rfl, by decide, inWX7, tw_150⟩
theorem dX2_findAsked_42 : decode cX2_findAsked 42 = .ok (.getfield 71, 3) := by decide +kernel
theorem dX2_findAsked_45 : decode cX2_findAsked 45 = .ok (.iload_n 1, 1) := by decide +kernel
theorem dX2_findAsked_46 : decode cX2_findAsked 46 = .ok (.aaload, 1) := by decide +kernel
theorem tw_81 : (Jvm.Cond.fieldLinkNest "MarshBells$GapSearch" (77 : Nat) "MarshBells$Lesson" "waitedBits" "I" "MarshBells") ∈ lw_tbl := tk_1 (List.mem_of_getElem? (i := 81) rfl)
theorem fl_X2_77 : kFN RX2 77 5 14 2 := ⟨RX5, TX5, rfl, by decide, inWX5, tw_81⟩
theorem dX2_findAsked_47 : decode cX2_findAsked 47 = .ok (.getfield 77, 3) := by decide +kernel
theorem dX2_findAsked_50 : decode cX2_findAsked 50 = .ok (.ior, 1) := by decide +kernel
theorem dX2_findAsked_51 : decode cX2_findAsked 51 = .ok (.putfield 64, 3) := by decide +kernel
theorem dX2_findAsked_54 : decode cX2_findAsked 54 = .ok (.iinc 1 (-1), 3) := by decide +kernel
theorem dX2_findAsked_57 : decode cX2_findAsked 57 = .ok (.goto (-42), 3) := by decide +kernel
theorem dX2_findAsked_60 : decode cX2_findAsked 60 = .ok (.return_, 1) := by decide +kernel
theorem dX2_fewest_22 : decode cX2_fewest 22 = .ok (.invokevirtual 42, 3) := by decide +kernel
theorem dX2_fewest_25 : decode cX2_fewest 25 = .ok (.aload_n 0, 1) := by decide +kernel
theorem tw_401 : (Jvm.Cond.fieldLink "MarshBells$GapSearch" (28 : Nat) "MarshBells$GapSearch" "held" "LMarshBells$Held;") ∈ lw_tbl := tk_2 (List.mem_of_getElem? (i := 161) rfl)
theorem fl_X2_28 : kFL RX2 28 2 9 1 := ⟨RX2, TX2, rfl, by decide, inWX2, tw_401⟩
theorem dX2_fewest_26 : decode cX2_fewest 26 = .ok (.getfield 28, 3) := by decide +kernel
theorem tw_241 : (Jvm.Cond.fieldLinkNest "MarshBells$GapSearch" (45 : Nat) "MarshBells$Held" "gaps" "[I" "MarshBells") ∈ lw_tbl := tk_2 (List.mem_of_getElem? (i := 1) rfl)
theorem fl_X2_45 : kFN RX2 45 3 12 1 := ⟨RX3, TX3, rfl, by decide, inWX3, tw_241⟩
theorem dX2_fewest_29 : decode cX2_fewest 29 = .ok (.getfield 45, 3) := by decide +kernel
theorem dX2_fewest_32 : decode cX2_fewest 32 = .ok (.iconst 0, 1) := by decide +kernel
theorem dX2_fewest_33 : decode cX2_fewest 33 = .ok (.aload_n 0, 1) := by decide +kernel
theorem tw_402 : (Jvm.Cond.fieldLink "MarshBells$GapSearch" (9 : Nat) "MarshBells$GapSearch" "own" "[I") ∈ lw_tbl := tk_2 (List.mem_of_getElem? (i := 162) rfl)
theorem fl_X2_9 : kFL RX2 9 2 9 2 := ⟨RX2, TX2, rfl, by decide, inWX2, tw_402⟩
theorem dX2_fewest_34 : decode cX2_fewest 34 = .ok (.getfield 9, 3) := by decide +kernel
theorem dX2_fewest_37 : decode cX2_fewest 37 = .ok (.iconst 0, 1) := by decide +kernel
theorem dX2_fewest_38 : decode cX2_fewest 38 = .ok (.bipush 12, 2) := by decide +kernel
theorem tw_1150 : (Jvm.Cond.methodLink "MarshBells$GapSearch" (50 : Nat) ({ cls := "java/lang/System", name := "arraycopy", desc := "(Ljava/lang/Object;ILjava/lang/Object;II)V" } : Jvm.MethodName)) ∈ lw_tbl := tk_5 (List.mem_of_getElem? (i := 190) rfl)
theorem lc_X2_50 : kLC RX2 50 := ⟨tw_1150, tw_567, tw_566, tw_24⟩
theorem dX2_fewest_40 : decode cX2_fewest 40 = .ok (.invokestatic 50, 3) := by decide +kernel
theorem dX2_fewest_43 : decode cX2_fewest 43 = .ok (.iconst 0, 1) := by decide +kernel
theorem dX2_fewest_44 : decode cX2_fewest 44 = .ok (.istore 4, 2) := by decide +kernel
theorem dX2_fewest_46 : decode cX2_fewest 46 = .ok (.iload 4, 2) := by decide +kernel
theorem dX2_fewest_48 : decode cX2_fewest 48 = .ok (.bipush 12, 2) := by decide +kernel
theorem dX2_fewest_50 : decode cX2_fewest 50 = .ok (.if_icmp .ge 39, 3) := by decide +kernel
theorem dX2_fewest_53 : decode cX2_fewest 53 = .ok (.aload_n 0, 1) := by decide +kernel
theorem dX2_fewest_54 : decode cX2_fewest 54 = .ok (.getfield 28, 3) := by decide +kernel
theorem dX2_fewest_57 : decode cX2_fewest 57 = .ok (.getfield 45, 3) := by decide +kernel
theorem dX2_fewest_60 : decode cX2_fewest 60 = .ok (.iload 4, 2) := by decide +kernel
theorem dX2_fewest_62 : decode cX2_fewest 62 = .ok (.iload_n 1, 1) := by decide +kernel
theorem dX2_fewest_63 : decode cX2_fewest 63 = .ok (.iload 4, 2) := by decide +kernel
theorem dX2_fewest_65 : decode cX2_fewest 65 = .ok (.invokestatic 56, 3) := by decide +kernel
theorem dX2_fewest_68 : decode cX2_fewest 68 = .ok (.ifCond .eq 7, 3) := by decide +kernel
theorem dX2_fewest_75 : decode cX2_fewest 75 = .ok (.aload_n 0, 1) := by decide +kernel
theorem dX2_fewest_76 : decode cX2_fewest 76 = .ok (.getfield 9, 3) := by decide +kernel
theorem dX2_fewest_79 : decode cX2_fewest 79 = .ok (.iload 4, 2) := by decide +kernel
theorem dX2_fewest_81 : decode cX2_fewest 81 = .ok (.iaload, 1) := by decide +kernel
theorem dX2_fewest_71 : decode cX2_fewest 71 = .ok (.iconst 0, 1) := by decide +kernel
theorem dX2_fewest_72 : decode cX2_fewest 72 = .ok (.goto 10, 3) := by decide +kernel
theorem dX2_fewest_82 : decode cX2_fewest 82 = .ok (.iastore, 1) := by decide +kernel
theorem dX2_fewest_83 : decode cX2_fewest 83 = .ok (.iinc 4 1, 3) := by decide +kernel
theorem dX2_fewest_86 : decode cX2_fewest 86 = .ok (.goto (-40), 3) := by decide +kernel
theorem dX2_fewest_89 : decode cX2_fewest 89 = .ok (.aload_n 0, 1) := by decide +kernel
theorem dX2_fewest_90 : decode cX2_fewest 90 = .ok (.iconst 0, 1) := by decide +kernel
theorem dX2_fewest_91 : decode cX2_fewest 91 = .ok (.iconst 0, 1) := by decide +kernel
theorem tw_1151 : (Jvm.Cond.methodLink "MarshBells$GapSearch" (60 : Nat) ({ cls := "MarshBells$GapSearch", name := "tryFrom", desc := "(II)V" } : Jvm.MethodName)) ∈ lw_tbl := tk_5 (List.mem_of_getElem? (i := 191) rfl)
theorem tw_1154 : (Jvm.Cond.code ({ cls := "MarshBells$GapSearch", name := "tryFrom", desc := "(II)V" } : Jvm.MethodName) prog_4_method_5_code (3 : Nat) (Option.none : Option Jvm.ClassFile.FieldType)) ∈ lw_tbl := tk_5 (List.mem_of_getElem? (i := 194) rfl)
theorem tw_1153 : (Jvm.Cond.instanceMethod ({ cls := "MarshBells$GapSearch", name := "tryFrom", desc := "(II)V" } : Jvm.MethodName)) ∈ lw_tbl := tk_5 (List.mem_of_getElem? (i := 193) rfl)
theorem se_X2_tryFrom : Cond.selects RX2 yX2_tryFrom yX2_tryFrom ∈ lw_tbl := List.mem_append_left _ (List.mem_of_getElem? (i := 77) rfl)
theorem li_X2_60 : kLV RX2 60 RX2 yX2_tryFrom cX2_tryFrom 3 none 2 := ⟨tw_1151, tw_1153, se_X2_tryFrom, tw_1154, tw_10, by decide +kernel⟩
theorem dX2_tryFrom_0 : decode cX2_tryFrom 0 = .ok (.iload_n 2, 1) := by decide +kernel
theorem dX2_tryFrom_1 : decode cX2_tryFrom 1 = .ok (.aload_n 0, 1) := by decide +kernel
theorem dX2_tryFrom_2 : decode cX2_tryFrom 2 = .ok (.getfield 39, 3) := by decide +kernel
theorem dX2_tryFrom_5 : decode cX2_tryFrom 5 = .ok (.if_icmp .lt 4, 3) := by decide +kernel
theorem dX2_tryFrom_9 : decode cX2_tryFrom 9 = .ok (.iload_n 1, 1) := by decide +kernel
theorem dX2_tryFrom_10 : decode cX2_tryFrom 10 = .ok (.aload_n 0, 1) := by decide +kernel
theorem dX2_tryFrom_11 : decode cX2_tryFrom 11 = .ok (.getfield 36, 3) := by decide +kernel
theorem dX2_tryFrom_14 : decode cX2_tryFrom 14 = .ok (.if_icmp .gt 9, 3) := by decide +kernel
theorem dX2_tryFrom_17 : decode cX2_tryFrom 17 = .ok (.iload_n 1, 1) := by decide +kernel
theorem dX2_tryFrom_18 : decode cX2_tryFrom 18 = .ok (.bipush 12, 2) := by decide +kernel
theorem dX2_tryFrom_20 : decode cX2_tryFrom 20 = .ok (.if_icmp .lt 11, 3) := by decide +kernel
theorem dX2_tryFrom_31 : decode cX2_tryFrom 31 = .ok (.aload_n 0, 1) := by decide +kernel
theorem dX2_tryFrom_32 : decode cX2_tryFrom 32 = .ok (.getfield 64, 3) := by decide +kernel
theorem dX2_tryFrom_35 : decode cX2_tryFrom 35 = .ok (.iload_n 1, 1) := by decide +kernel
theorem dX2_tryFrom_36 : decode cX2_tryFrom 36 = .ok (.invokestatic 56, 3) := by decide +kernel
theorem dX2_tryFrom_39 : decode cX2_tryFrom 39 = .ok (.ifCond .ne 14, 3) := by decide +kernel
theorem dX2_tryFrom_53 : decode cX2_tryFrom 53 = .ok (.aload_n 0, 1) := by decide +kernel
theorem dX2_tryFrom_54 : decode cX2_tryFrom 54 = .ok (.getfield 29, 3) := by decide +kernel
theorem dX2_tryFrom_57 : decode cX2_tryFrom 57 = .ok (.iload_n 1, 1) := by decide +kernel
theorem dX2_tryFrom_58 : decode cX2_tryFrom 58 = .ok (.invokestatic 56, 3) := by decide +kernel
theorem dX2_tryFrom_61 : decode cX2_tryFrom 61 = .ok (.ifCond .ne 22, 3) := by decide +kernel
theorem dX2_tryFrom_83 : decode cX2_tryFrom 83 = .ok (.aload_n 0, 1) := by decide +kernel
theorem dX2_tryFrom_84 : decode cX2_tryFrom 84 = .ok (.iload_n 1, 1) := by decide +kernel
theorem dX2_tryFrom_85 : decode cX2_tryFrom 85 = .ok (.iload_n 2, 1) := by decide +kernel
theorem tw_1161 : (Jvm.Cond.methodLink "MarshBells$GapSearch" (89 : Nat) ({ cls := "MarshBells$GapSearch", name := "tryGapsOf", desc := "(II)V" } : Jvm.MethodName)) ∈ lw_tbl := tk_5 (List.mem_of_getElem? (i := 201) rfl)
theorem tw_1164 : (Jvm.Cond.code ({ cls := "MarshBells$GapSearch", name := "tryGapsOf", desc := "(II)V" } : Jvm.MethodName) prog_4_method_6_code (5 : Nat) (Option.none : Option Jvm.ClassFile.FieldType)) ∈ lw_tbl := tk_5 (List.mem_of_getElem? (i := 204) rfl)
theorem tw_1163 : (Jvm.Cond.instanceMethod ({ cls := "MarshBells$GapSearch", name := "tryGapsOf", desc := "(II)V" } : Jvm.MethodName)) ∈ lw_tbl := tk_5 (List.mem_of_getElem? (i := 203) rfl)
theorem se_X2_tryGapsOf : Cond.selects RX2 yX2_tryGapsOf yX2_tryGapsOf ∈ lw_tbl := List.mem_append_left _ (List.mem_of_getElem? (i := 79) rfl)
theorem li_X2_89 : kLV RX2 89 RX2 yX2_tryGapsOf cX2_tryGapsOf 5 none 2 := ⟨tw_1161, tw_1163, se_X2_tryGapsOf, tw_1164, tw_10, by decide +kernel⟩
theorem dX2_tryGapsOf_0 : decode cX2_tryGapsOf 0 = .ok (.iconst (-1), 1) := by decide +kernel
theorem dX2_tryGapsOf_1 : decode cX2_tryGapsOf 1 = .ok (.istore_n 3, 1) := by decide +kernel
theorem dX2_tryGapsOf_2 : decode cX2_tryGapsOf 2 = .ok (.iconst 0, 1) := by decide +kernel
theorem dX2_tryGapsOf_3 : decode cX2_tryGapsOf 3 = .ok (.istore 4, 2) := by decide +kernel
theorem dX2_tryGapsOf_5 : decode cX2_tryGapsOf 5 = .ok (.iload 4, 2) := by decide +kernel
theorem dX2_tryGapsOf_7 : decode cX2_tryGapsOf 7 = .ok (.iconst 4, 1) := by decide +kernel
theorem dX2_tryGapsOf_8 : decode cX2_tryGapsOf 8 = .ok (.if_icmp .gt 62, 3) := by decide +kernel
theorem dX2_tryGapsOf_11 : decode cX2_tryGapsOf 11 = .ok (.aload_n 0, 1) := by decide +kernel
theorem dX2_tryGapsOf_12 : decode cX2_tryGapsOf 12 = .ok (.getfield 28, 3) := by decide +kernel
theorem dX2_tryGapsOf_15 : decode cX2_tryGapsOf 15 = .ok (.getfield 45, 3) := by decide +kernel
theorem dX2_tryGapsOf_18 : decode cX2_tryGapsOf 18 = .ok (.iload_n 1, 1) := by decide +kernel
theorem dX2_tryGapsOf_19 : decode cX2_tryGapsOf 19 = .ok (.iload 4, 2) := by decide +kernel
theorem dX2_tryGapsOf_21 : decode cX2_tryGapsOf 21 = .ok (.iastore, 1) := by decide +kernel
theorem dX2_tryGapsOf_22 : decode cX2_tryGapsOf 22 = .ok (.aload_n 0, 1) := by decide +kernel
theorem dX2_tryGapsOf_23 : decode cX2_tryGapsOf 23 = .ok (.getfield 18, 3) := by decide +kernel
theorem dX2_tryGapsOf_26 : decode cX2_tryGapsOf 26 = .ok (.iload_n 1, 1) := by decide +kernel
theorem tw_1160 : (Jvm.Cond.methodLinkNest "MarshBells$GapSearch" (86 : Nat) ({ cls := "MarshBells$Day", name := "runOne", desc := "(I)V" } : Jvm.MethodName) "MarshBells") ∈ lw_tbl := tk_5 (List.mem_of_getElem? (i := 200) rfl)
theorem li_X2_86 : kLN RX2 86 RX1 yX1_runOne "MarshBells" cX1_runOne 3 none 1 := ⟨tw_1160, tw_610, se_X1_runOne, tw_611, tw_7, by decide +kernel⟩
theorem dX2_tryGapsOf_27 : decode cX2_tryGapsOf 27 = .ok (.invokevirtual 86, 3) := by decide +kernel
theorem dX2_tryGapsOf_30 : decode cX2_tryGapsOf 30 = .ok (.aload_n 0, 1) := by decide +kernel
theorem dX2_tryGapsOf_31 : decode cX2_tryGapsOf 31 = .ok (.getfield 18, 3) := by decide +kernel
theorem tw_306 : (Jvm.Cond.fieldLinkNest "MarshBells$GapSearch" (92 : Nat) "MarshBells$Day" "ends" "[I" "MarshBells") ∈ lw_tbl := tk_2 (List.mem_of_getElem? (i := 66) rfl)
theorem fl_X2_92 : kFN RX2 92 1 10 2 := ⟨RX1, TX1, rfl, by decide, inWX1, tw_306⟩
theorem dX2_tryGapsOf_34 : decode cX2_tryGapsOf 34 = .ok (.getfield 92, 3) := by decide +kernel
theorem dX2_tryGapsOf_37 : decode cX2_tryGapsOf 37 = .ok (.iload_n 1, 1) := by decide +kernel
theorem dX2_tryGapsOf_38 : decode cX2_tryGapsOf 38 = .ok (.iaload, 1) := by decide +kernel
theorem dX2_tryGapsOf_39 : decode cX2_tryGapsOf 39 = .ok (.iload_n 3, 1) := by decide +kernel
theorem dX2_tryGapsOf_40 : decode cX2_tryGapsOf 40 = .ok (.if_icmp .eq 24, 3) := by decide +kernel
theorem dX2_tryGapsOf_43 : decode cX2_tryGapsOf 43 = .ok (.aload_n 0, 1) := by decide +kernel
theorem dX2_tryGapsOf_44 : decode cX2_tryGapsOf 44 = .ok (.getfield 18, 3) := by decide +kernel
theorem dX2_tryGapsOf_47 : decode cX2_tryGapsOf 47 = .ok (.getfield 92, 3) := by decide +kernel
theorem dX2_tryGapsOf_50 : decode cX2_tryGapsOf 50 = .ok (.iload_n 1, 1) := by decide +kernel
theorem dX2_tryGapsOf_51 : decode cX2_tryGapsOf 51 = .ok (.iaload, 1) := by decide +kernel
theorem dX2_tryGapsOf_52 : decode cX2_tryGapsOf 52 = .ok (.istore_n 3, 1) := by decide +kernel
theorem dX2_tryGapsOf_53 : decode cX2_tryGapsOf 53 = .ok (.aload_n 0, 1) := by decide +kernel
theorem dX2_tryGapsOf_54 : decode cX2_tryGapsOf 54 = .ok (.iload_n 1, 1) := by decide +kernel
theorem dX2_tryGapsOf_55 : decode cX2_tryGapsOf 55 = .ok (.iconst 1, 1) := by decide +kernel
theorem dX2_tryGapsOf_56 : decode cX2_tryGapsOf 56 = .ok (.iadd, 1) := by decide +kernel
theorem dX2_tryGapsOf_57 : decode cX2_tryGapsOf 57 = .ok (.iload_n 2, 1) := by decide +kernel
theorem dX2_tryGapsOf_58 : decode cX2_tryGapsOf 58 = .ok (.iload 4, 2) := by decide +kernel
theorem dX2_tryGapsOf_60 : decode cX2_tryGapsOf 60 = .ok (.iadd, 1) := by decide +kernel
theorem dX2_tryFrom_23 : decode cX2_tryFrom 23 = .ok (.aload_n 0, 1) := by decide +kernel
theorem dX2_tryFrom_24 : decode cX2_tryFrom 24 = .ok (.iload_n 2, 1) := by decide +kernel
theorem tw_1155 : (Jvm.Cond.methodLink "MarshBells$GapSearch" (82 : Nat) ({ cls := "MarshBells$GapSearch", name := "takeIfOnTime", desc := "(I)V" } : Jvm.MethodName)) ∈ lw_tbl := tk_5 (List.mem_of_getElem? (i := 195) rfl)
theorem tw_1158 : (Jvm.Cond.code ({ cls := "MarshBells$GapSearch", name := "takeIfOnTime", desc := "(I)V" } : Jvm.MethodName) prog_4_method_7_code (2 : Nat) (Option.none : Option Jvm.ClassFile.FieldType)) ∈ lw_tbl := tk_5 (List.mem_of_getElem? (i := 198) rfl)
theorem tw_1157 : (Jvm.Cond.instanceMethod ({ cls := "MarshBells$GapSearch", name := "takeIfOnTime", desc := "(I)V" } : Jvm.MethodName)) ∈ lw_tbl := tk_5 (List.mem_of_getElem? (i := 197) rfl)
theorem se_X2_takeIfOnTime : Cond.selects RX2 yX2_takeIfOnTime yX2_takeIfOnTime ∈ lw_tbl := List.mem_append_left _ (List.mem_of_getElem? (i := 78) rfl)
theorem li_X2_82 : kLV RX2 82 RX2 yX2_takeIfOnTime cX2_takeIfOnTime 2 none 1 := ⟨tw_1155, tw_1157, se_X2_takeIfOnTime, tw_1158, tw_10, by decide +kernel⟩
theorem dX2_takeIfOnTime_0 : decode cX2_takeIfOnTime 0 = .ok (.aload_n 0, 1) := by decide +kernel
theorem dX2_takeIfOnTime_1 : decode cX2_takeIfOnTime 1 = .ok (.getfield 18, 3) := by decide +kernel
theorem dX2_takeIfOnTime_4 : decode cX2_takeIfOnTime 4 = .ok (.aload_n 0, 1) := by decide +kernel
theorem dX2_takeIfOnTime_5 : decode cX2_takeIfOnTime 5 = .ok (.getfield 36, 3) := by decide +kernel
theorem tw_1159 : (Jvm.Cond.methodLinkNest "MarshBells$GapSearch" (95 : Nat) ({ cls := "MarshBells$Day", name := "late", desc := "(I)I" } : Jvm.MethodName) "MarshBells") ∈ lw_tbl := tk_5 (List.mem_of_getElem? (i := 199) rfl)
theorem li_X2_95 : kLN RX2 95 RX1 yX1_late "MarshBells" cX1_late 2 (some .int) 1 := ⟨tw_1159, tw_658, se_X1_late, tw_659, tw_7, by decide +kernel⟩
theorem dX2_takeIfOnTime_8 : decode cX2_takeIfOnTime 8 = .ok (.invokevirtual 95, 3) := by decide +kernel
theorem dX2_takeIfOnTime_11 : decode cX2_takeIfOnTime 11 = .ok (.aload_n 0, 1) := by decide +kernel
theorem dX2_takeIfOnTime_12 : decode cX2_takeIfOnTime 12 = .ok (.getfield 33, 3) := by decide +kernel
theorem dX2_takeIfOnTime_15 : decode cX2_takeIfOnTime 15 = .ok (.if_icmp .gt 26, 3) := by decide +kernel
theorem dX2_takeIfOnTime_18 : decode cX2_takeIfOnTime 18 = .ok (.aload_n 0, 1) := by decide +kernel
theorem dX2_takeIfOnTime_19 : decode cX2_takeIfOnTime 19 = .ok (.iload_n 1, 1) := by decide +kernel
theorem dX2_takeIfOnTime_20 : decode cX2_takeIfOnTime 20 = .ok (.putfield 39, 3) := by decide +kernel
theorem dX2_takeIfOnTime_23 : decode cX2_takeIfOnTime 23 = .ok (.aload_n 0, 1) := by decide +kernel
theorem dX2_takeIfOnTime_24 : decode cX2_takeIfOnTime 24 = .ok (.getfield 28, 3) := by decide +kernel
theorem dX2_takeIfOnTime_27 : decode cX2_takeIfOnTime 27 = .ok (.getfield 45, 3) := by decide +kernel
theorem dX2_takeIfOnTime_30 : decode cX2_takeIfOnTime 30 = .ok (.iconst 0, 1) := by decide +kernel
theorem dX2_takeIfOnTime_31 : decode cX2_takeIfOnTime 31 = .ok (.aload_n 0, 1) := by decide +kernel
theorem tw_403 : (Jvm.Cond.fieldLink "MarshBells$GapSearch" (15 : Nat) "MarshBells$GapSearch" "found" "[I") ∈ lw_tbl := tk_2 (List.mem_of_getElem? (i := 163) rfl)
theorem fl_X2_15 : kFL RX2 15 2 9 3 := ⟨RX2, TX2, rfl, by decide, inWX2, tw_403⟩
theorem dX2_takeIfOnTime_32 : decode cX2_takeIfOnTime 32 = .ok (.getfield 15, 3) := by decide +kernel
theorem dX2_takeIfOnTime_35 : decode cX2_takeIfOnTime 35 = .ok (.iconst 0, 1) := by decide +kernel
theorem dX2_takeIfOnTime_36 : decode cX2_takeIfOnTime 36 = .ok (.bipush 12, 2) := by decide +kernel
theorem dX2_takeIfOnTime_38 : decode cX2_takeIfOnTime 38 = .ok (.invokestatic 50, 3) := by decide +kernel
theorem dX2_takeIfOnTime_41 : decode cX2_takeIfOnTime 41 = .ok (.return_, 1) := by decide +kernel
theorem dX2_tryFrom_25 : decode cX2_tryFrom 25 = .ok (.invokevirtual 82, 3) := by decide +kernel
theorem dX2_tryFrom_28 : decode cX2_tryFrom 28 = .ok (.goto 61, 3) := by decide +kernel
theorem dX2_tryFrom_89 : decode cX2_tryFrom 89 = .ok (.return_, 1) := by decide +kernel
theorem dX2_tryFrom_8 : decode cX2_tryFrom 8 = .ok (.return_, 1) := by decide +kernel
theorem dX2_tryGapsOf_61 : decode cX2_tryGapsOf 61 = .ok (.invokevirtual 60, 3) := by decide +kernel
theorem dX2_tryGapsOf_64 : decode cX2_tryGapsOf 64 = .ok (.iinc 4 1, 3) := by decide +kernel
theorem dX2_tryGapsOf_67 : decode cX2_tryGapsOf 67 = .ok (.goto (-62), 3) := by decide +kernel
theorem dX2_tryGapsOf_70 : decode cX2_tryGapsOf 70 = .ok (.return_, 1) := by decide +kernel
theorem dX2_tryFrom_86 : decode cX2_tryFrom 86 = .ok (.invokevirtual 89, 3) := by decide +kernel
theorem dX2_tryFrom_64 : decode cX2_tryFrom 64 = .ok (.aload_n 0, 1) := by decide +kernel
theorem dX2_tryFrom_65 : decode cX2_tryFrom 65 = .ok (.getfield 18, 3) := by decide +kernel
theorem dX2_tryFrom_68 : decode cX2_tryFrom 68 = .ok (.iload_n 1, 1) := by decide +kernel
theorem dX2_tryFrom_69 : decode cX2_tryFrom 69 = .ok (.invokevirtual 86, 3) := by decide +kernel
theorem dX2_tryFrom_72 : decode cX2_tryFrom 72 = .ok (.aload_n 0, 1) := by decide +kernel
theorem dX2_tryFrom_73 : decode cX2_tryFrom 73 = .ok (.iload_n 1, 1) := by decide +kernel
theorem dX2_tryFrom_74 : decode cX2_tryFrom 74 = .ok (.iconst 1, 1) := by decide +kernel
theorem dX2_tryFrom_75 : decode cX2_tryFrom 75 = .ok (.iadd, 1) := by decide +kernel
theorem dX2_tryFrom_76 : decode cX2_tryFrom 76 = .ok (.iload_n 2, 1) := by decide +kernel
theorem dX2_tryFrom_77 : decode cX2_tryFrom 77 = .ok (.invokevirtual 60, 3) := by decide +kernel
theorem dX2_tryFrom_80 : decode cX2_tryFrom 80 = .ok (.goto 9, 3) := by decide +kernel
theorem dX2_tryFrom_42 : decode cX2_tryFrom 42 = .ok (.aload_n 0, 1) := by decide +kernel
theorem dX2_tryFrom_43 : decode cX2_tryFrom 43 = .ok (.iload_n 1, 1) := by decide +kernel
theorem dX2_tryFrom_44 : decode cX2_tryFrom 44 = .ok (.iconst 1, 1) := by decide +kernel
theorem dX2_tryFrom_45 : decode cX2_tryFrom 45 = .ok (.iadd, 1) := by decide +kernel
theorem dX2_tryFrom_46 : decode cX2_tryFrom 46 = .ok (.iload_n 2, 1) := by decide +kernel
theorem dX2_tryFrom_47 : decode cX2_tryFrom 47 = .ok (.invokevirtual 60, 3) := by decide +kernel
theorem dX2_tryFrom_50 : decode cX2_tryFrom 50 = .ok (.goto 39, 3) := by decide +kernel
theorem dX2_fewest_92 : decode cX2_fewest 92 = .ok (.invokevirtual 60, 3) := by decide +kernel
theorem dX2_fewest_95 : decode cX2_fewest 95 = .ok (.aload_n 0, 1) := by decide +kernel
theorem dX2_fewest_96 : decode cX2_fewest 96 = .ok (.getfield 9, 3) := by decide +kernel
theorem dX2_fewest_99 : decode cX2_fewest 99 = .ok (.iconst 0, 1) := by decide +kernel
theorem dX2_fewest_100 : decode cX2_fewest 100 = .ok (.aload_n 0, 1) := by decide +kernel
theorem dX2_fewest_101 : decode cX2_fewest 101 = .ok (.getfield 28, 3) := by decide +kernel
theorem dX2_fewest_104 : decode cX2_fewest 104 = .ok (.getfield 45, 3) := by decide +kernel
theorem dX2_fewest_107 : decode cX2_fewest 107 = .ok (.iconst 0, 1) := by decide +kernel
theorem dX2_fewest_108 : decode cX2_fewest 108 = .ok (.bipush 12, 2) := by decide +kernel
theorem dX2_fewest_110 : decode cX2_fewest 110 = .ok (.invokestatic 50, 3) := by decide +kernel
theorem dX2_fewest_113 : decode cX2_fewest 113 = .ok (.aload_n 0, 1) := by decide +kernel
theorem dX2_fewest_114 : decode cX2_fewest 114 = .ok (.getfield 39, 3) := by decide +kernel
theorem dX2_fewest_117 : decode cX2_fewest 117 = .ok (.bipush 21, 2) := by decide +kernel
theorem dX2_fewest_119 : decode cX2_fewest 119 = .ok (.if_icmp .ne 7, 3) := by decide +kernel
theorem dX2_fewest_126 : decode cX2_fewest 126 = .ok (.aload_n 0, 1) := by decide +kernel
theorem dX2_fewest_127 : decode cX2_fewest 127 = .ok (.getfield 39, 3) := by decide +kernel
theorem dX2_fewest_122 : decode cX2_fewest 122 = .ok (.iconst (-1), 1) := by decide +kernel
theorem dX2_fewest_123 : decode cX2_fewest 123 = .ok (.goto 7, 3) := by decide +kernel
theorem dX2_fewest_130 : decode cX2_fewest 130 = .ok (.ireturn, 1) := by decide +kernel
set_option maxHeartbeats 4000000 in
set_option maxRecDepth 100000 in
theorem zX2_isIn (l : Launch) (G : kG) (sz : Nat) (b : Nat) (a : Nat → Nat) (g0 : Nat → Nat → Int32) (L0 : Nat → Nat → Int64) (hI : zI XT g0) (p1 : Int32) (p2 : Int32) : kM l yX2_isIn cX2_isIn 2 (some .boolean) { frames := 6, cells := 0, slots := 0, locals := 110 } G [.int p1, .int p2] (zw G (XS b) 105 a g0 L0) sz (kQi G (S := zS) (fun r u => zI XT u.1 ∧ u.1 0 = g0 0 ∧ (0 ≤ r.toInt ∧ r.toInt ≤ 1)) (fun u => zw G (XS b) 105 a u.1 u.2)) := by
  refine kM.of (by decide) (Nat.le_of_ble_eq_true rfl) ?_
  intro p e s m below meth c A ls H C hr hlk hnm hP hD hS hl
  have C : kC G p s m c cX2_isIn 2 RX2 A := C
  have hx := C.1
  have hb := C.2.1
  have hl : lv_has ls 2 [(0, .int p1), (1, .int p2)] := hl
  have h0c : g0 0 = g0 0 := rfl
  obtain ⟨locs, hlocs⟩ : ∃ q : List Loc, q = [] := ⟨_, rfl⟩
  rw [← hlocs] at hS
  rw [← hlocs]
  refine lv_iload_n hx hb dX2_isIn_0 rfl (lv_at hl 0 rfl) ?_
  refine lv_iload_n hx hb dX2_isIn_1 rfl (lv_at hl 1 rfl) ?_
  refine lv_ishr hx hb dX2_isIn_2 ?_
  refine x_any (fun x1 => ?_)
  refine lv_iconst (v := 1) hx hb dX2_isIn_3 (by decide) ?_
  refine lv_iand hx hb dX2_isIn_4 ?_
  refine x_rng (lo := 0) (hi := 1) (ic_and1 _) (fun x2 b3 => ?_)
  have J7 : ∀ (x8 : Int32) (g : Nat → Nat → Int32) (L : Nat → Nat → Int64) (H : Heap) (locs : List Loc) (ls : Array Slot), (0 ≤ x8.toInt ∧ x8.toInt ≤ 1) → zI XT g → g 0 = g0 0 → va_P G.1 vwCl (zw G (XS b) 105 a g L) H → va_D A (zw G (XS b) 105 a g L) → va_S A s.heap H locs → lv_has ls 2 [] → W p l e { frames := 6, cells := 0, slots := 0, locals := 110 } s m [.int p1, .int p2].toArray below meth c H locs 0 0 (MQ below ((kQi G (S := zS) (fun r u => zI XT u.1 ∧ u.1 0 = g0 0 ∧ (0 ≤ r.toInt ∧ r.toInt ≤ 1)) (fun u => zw G (XS b) 105 a u.1 u.2)) A) [.int p1, .int p2].toArray s 0 0 A) (F0 m 13 ls [.int x8]) := by
    intro x8 g L H locs ls b9 hI h0c hP hD hS hl
    exact x_zret C hr hlk (z_bool (by omega)) hP hD hS (g, L) rfl ⟨hI, h0c, by omega⟩ (Nat.le_of_ble_eq_true rfl) (Nat.le_of_ble_eq_true rfl) dX2_isIn_13
  refine lv_if_eq (x := x2) (tgt := 12) hx hb dX2_isIn_5 (by decide) (fun c10 => ?_) (fun c10 => ?_)
  ·
    have c10 := icc_eq (m := x2.toInt) (n := 0) rfl (by decide) c10
    refine lv_iconst (v := 0) hx hb dX2_isIn_12 (by decide) ?_
    exact J7 0 g0 L0 H locs ls (by decide) hI h0c hP hD hS (lv_sub hl [] rfl)
  ·
    have c10 := icc_neq (m := x2.toInt) (n := 0) rfl (by decide) c10
    refine lv_iconst (v := 1) hx hb dX2_isIn_8 (by decide) ?_
    refine lv_goto (tgt := 13) hx hb dX2_isIn_9 (by decide) ?_
    exact J7 1 g0 L0 H locs ls (by decide) hI h0c hP hD hS (lv_sub hl [] rfl)
set_option maxHeartbeats 4000000 in
set_option maxRecDepth 100000 in
theorem zX2_findAsked_10 (l : Launch) (G : kG) (sz : Nat) (b : Nat) (a : Nat → Nat) (g0 : Nat → Nat → Int32) (L0 : Nat → Nat → Int64) (hI : zI XT g0) : kM l yX2_findAsked cX2_findAsked 2 none { frames := 7, cells := 0, slots := 0, locals := 131 } G [.ref (a 10)] (zw G (XS b) 105 a g0 L0) sz (kQv G (S := zS) (fun u => zI XT u.1 ∧ u.1 0 = g0 0) (fun u => zw G (XS b) 105 a u.1 u.2)) := by
  refine kM.of (by decide) (Nat.le_of_ble_eq_true rfl) ?_
  intro p e s m below meth c A ls H C hr hlk hnm hP hD hS hl
  have C : kC G p s m c cX2_findAsked 2 RX2 A := C
  have hx := C.1
  have hb := C.2.1
  have hl : lv_has ls 2 [(0, .ref (a 10))] := hl
  have h0c : g0 0 = g0 0 := rfl
  obtain ⟨locs, hlocs⟩ : ∃ q : List Loc, q = [] := ⟨_, rfl⟩
  rw [← hlocs] at hS
  rw [← hlocs]
  refine lv_aload_n hx hb dX2_findAsked_0 rfl (lv_at hl 0 rfl) ?_
  refine lv_iconst (v := 1) hx hb dX2_findAsked_1 (by decide) ?_
  refine lv_aload_n hx hb dX2_findAsked_2 rfl (lv_at hl 0 rfl) ?_
  refine x_getT hI rfl (Or.inl fl_X2_36) C hP (by decide) xs_10 rfl dX2_findAsked_3 (fun x1 e2 b3 => ?_)
  refine lv_ishl hx hb dX2_findAsked_6 ?_
  refine x_any (fun x4 => ?_)
  refine x_puti (hI.updN rfl) (Or.inl fl_X2_64) ft_X2_7 C hP hD hS (by decide) xs_10 rfl rfl rfl dX2_findAsked_7 (fun g H locs eg hI hP hD hS => ?_)
  have h0c : g 0 = g0 0 := by rw [eg]; exact h0c
  refine lv_aload_n hx hb dX2_findAsked_10 rfl (lv_at hl 0 rfl) ?_
  refine x_getT hI rfl (Or.inl fl_X2_36) C hP (by decide) xs_10 rfl dX2_findAsked_11 (fun x5 e6 b7 => ?_)
  refine lv_istore_n (lv' := [(1, .int x5), (0, .ref (a 10))]) hx hb dX2_findAsked_14 rfl hl (by decide) rfl (fun ls hl => ?_)
  have lp95 : ∀ fu : Nat, ∀ (x93 : Int32) (g : Nat → Nat → Int32) (L : Nat → Nat → Int64) (H : Heap) (locs : List Loc) (ls : Array Slot), ((-1) ≤ x93.toInt ∧ x93.toInt ≤ 11) → zI XT g → g 0 = g0 0 → va_P G.1 vwCl (zw G (XS b) 105 a g L) H → va_D A (zw G (XS b) 105 a g L) → va_S A s.heap H locs → lv_has ls 2 [(0, .ref (a 10)), (1, .int x93)] → x93.toInt - (-1) < (fu : Int) → W p l e { frames := 7, cells := 0, slots := 0, locals := 131 } s m [.ref (a 10)].toArray below meth c H locs 0 0 (MQ below ((kQv G (S := zS) (fun u => zI XT u.1 ∧ u.1 0 = g0 0) (fun u => zw G (XS b) 105 a u.1 u.2)) A) [.ref (a 10)].toArray s 0 0 A) (F0 m 15 ls []) := by
    intro fu
    induction fu with
    | zero => intro x93 g L H locs ls b94 hI h0c hP hD hS hl hm; exact absurd hm (by omega)
    | succ fu ih =>
      intro x93 g L H locs ls b94 hI h0c hP hD hS hl hm
      have ih96 := ih
      refine lv_iload_n hx hb dX2_findAsked_15 rfl (lv_at hl 1 rfl) ?_
      refine lv_if_lt (x := x93) (tgt := 60) hx hb dX2_findAsked_16 (by decide) (fun c97 => ?_) (fun c97 => ?_)
      ·
        have c97 := icc_lt (m := x93.toInt) (n := 0) rfl (by decide) c97
        exact x_vret C hr hlk hP hD hS (g, L) rfl ⟨hI, h0c⟩ (Nat.le_of_ble_eq_true rfl) (Nat.le_of_ble_eq_true rfl) dX2_findAsked_60
      ·
        have c97 := icc_nlt (m := x93.toInt) (n := 0) rfl (by decide) c97
        refine lv_aload_n hx hb dX2_findAsked_19 rfl (lv_at hl 0 rfl) ?_
        refine x_geti (Or.inl fl_X2_64) C hP (by decide) xs_10 rfl dX2_findAsked_20 (fun x98 e99 => ?_)
        refine lv_iload_n hx hb dX2_findAsked_23 rfl (lv_at hl 1 rfl) ?_
        refine x_callSi (rest := []) li_X2_56 C (zX2_isIn l G H.size b a g L hI x98 x93) (kR rfl) hP hD hS rfl hl.1 rfl (Nat.le_of_ble_eq_true rfl) dX2_findAsked_24 (fun x101 u102 H locs hw100 hP hD hS => ?_)
        obtain ⟨g, L⟩ := u102
        obtain ⟨hI, h0n, b103⟩ := hw100
        have h0c : g 0 = g0 0 := h0n.trans h0c
        have hI : zI XT g := hI
        have hP : va_P G.1 vwCl (zw G (XS b) 105 a g L) H := hP
        have hD : va_D A (zw G (XS b) 105 a g L) := hD
        have J114 : ∀ (g : Nat → Nat → Int32) (L : Nat → Nat → Int64) (H : Heap) (locs : List Loc) (ls : Array Slot), zI XT g → g 0 = g0 0 → va_P G.1 vwCl (zw G (XS b) 105 a g L) H → va_D A (zw G (XS b) 105 a g L) → va_S A s.heap H locs → lv_has ls 2 [(0, .ref (a 10)), (1, .int x93)] → W p l e { frames := 7, cells := 0, slots := 0, locals := 131 } s m [.ref (a 10)].toArray below meth c H locs 0 0 (MQ below ((kQv G (S := zS) (fun u => zI XT u.1 ∧ u.1 0 = g0 0) (fun u => zw G (XS b) 105 a u.1 u.2)) A) [.ref (a 10)].toArray s 0 0 A) (F0 m 54 ls []) := by
          intro g L H locs ls hI h0c hP hD hS hl
          obtain ⟨x115, e116q, e116⟩ : ∃ z : Int32, x93 + Int32.ofInt (-1) = z ∧ z.toInt = x93.toInt + (-1) := ⟨_, rfl, ic_addc rfl (by decide) (by omega) (by omega)⟩
          refine lv_iinc (v := x115) (lv' := [(1, .int x115), (0, .ref (a 10))]) hx hb dX2_findAsked_54 hl (k := 1) rfl e116q (by decide) rfl (fun ls hl => ?_)
          refine lv_goto (tgt := 15) hx hb dX2_findAsked_57 (by decide) ?_
          exact ih96 x115 g L H locs ls (by omega) hI h0c hP hD hS (lv_sub hl [1, 0] rfl) (by omega)
        refine lv_if_eq (x := x101) (tgt := 54) hx hb dX2_findAsked_27 (by decide) (fun c117 => ?_) (fun c117 => ?_)
        ·
          have c117 := icc_eq (m := x101.toInt) (n := 0) rfl (by decide) c117
          exact J114 g L H locs ls hI h0c hP hD hS (lv_sub hl [0, 1] rfl)
        ·
          have c117 := icc_neq (m := x101.toInt) (n := 0) rfl (by decide) c117
          refine lv_aload_n hx hb dX2_findAsked_30 rfl (lv_at hl 0 rfl) ?_
          refine lv_dup hx hb dX2_findAsked_31 rfl ?_
          refine x_geti (Or.inl fl_X2_64) C hP (by decide) xs_10 rfl dX2_findAsked_32 (fun x118 e119 => ?_)
          refine lv_aload_n hx hb dX2_findAsked_35 rfl (lv_at hl 0 rfl) ?_
          refine x_getr (Or.inl fl_X2_18) C hP (by decide) xs_10 rfl dX2_findAsked_36 ?_
          refine x_getr (Or.inr fl_X2_67) C hP (by decide) xs_8 rfl dX2_findAsked_39 ?_
          refine x_getr (Or.inr fl_X2_71) C hP (by decide) xs_1 rfl dX2_findAsked_42 ?_
          refine lv_iload_n hx hb dX2_findAsked_45 rfl (lv_at hl 1 rfl) ?_
          refine x_aaldQ (t := 57) C hP (by decide) xs_17 (by omega) (by omega) dX2_findAsked_46 (fun q120 q120l q120h => ?_)
          refine x_geti (Or.inr fl_X2_77) C hP (by omega) (xs_les (by omega) (by omega)) rfl dX2_findAsked_47 (fun x121 e122 => ?_)
          refine lv_ior hx hb dX2_findAsked_50 ?_
          refine x_any (fun x123 => ?_)
          refine x_puti (hI.updN rfl) (Or.inl fl_X2_64) ft_X2_7 C hP hD hS (by decide) xs_10 rfl rfl rfl dX2_findAsked_51 (fun g H locs eg hI hP hD hS => ?_)
          have h0c : g 0 = g0 0 := by rw [eg]; exact h0c
          exact J114 g L H locs ls hI h0c hP hD hS (lv_sub hl [0, 1] rfl)
  exact lp95 14 x5 g L0 H locs ls (by omega) hI h0c hP hD hS (lv_sub hl [1, 0] rfl) (by omega)
set_option maxHeartbeats 4000000 in
set_option maxRecDepth 100000 in
theorem zX2_takeIfOnTime_10 (l : Launch) (G : kG) (sz : Nat) (b : Nat) (a : Nat → Nat) (g0 : Nat → Nat → Int32) (L0 : Nat → Nat → Int64) (hI : zI XT g0) (p1 : Int32) : kM l yX2_takeIfOnTime cX2_takeIfOnTime 2 none { frames := 7, cells := 0, slots := 0, locals := 131 } G [.ref (a 10), .int p1] (zw G (XS b) 105 a g0 L0) sz (kQv G (S := zS) (fun u => zI XT u.1 ∧ u.1 0 = g0 0) (fun u => zw G (XS b) 105 a u.1 u.2)) := by
  refine kM.of (by decide) (Nat.le_of_ble_eq_true rfl) ?_
  intro p e s m below meth c A ls H C hr hlk hnm hP hD hS hl
  have C : kC G p s m c cX2_takeIfOnTime 2 RX2 A := C
  have hx := C.1
  have hb := C.2.1
  have hl : lv_has ls 2 [(0, .ref (a 10)), (1, .int p1)] := hl
  have h0c : g0 0 = g0 0 := rfl
  obtain ⟨locs, hlocs⟩ : ∃ q : List Loc, q = [] := ⟨_, rfl⟩
  rw [← hlocs] at hS
  rw [← hlocs]
  refine lv_aload_n hx hb dX2_takeIfOnTime_0 rfl (lv_at hl 0 rfl) ?_
  refine x_getr (Or.inl fl_X2_18) C hP (by decide) xs_10 rfl dX2_takeIfOnTime_1 ?_
  refine lv_aload_n hx hb dX2_takeIfOnTime_4 rfl (lv_at hl 0 rfl) ?_
  refine x_getT hI rfl (Or.inl fl_X2_36) C hP (by decide) xs_10 rfl dX2_takeIfOnTime_5 (fun x1 e2 b3 => ?_)
  refine x_callNi (rest := []) li_X2_95 C (zX1_late_8 l G H.size b a g0 L0 hI x1 (by omega)) (kR rfl) hP hD hS 8 1 rfl (zat (by decide) xs_8) rfl hl.1 rfl (Nat.le_of_ble_eq_true rfl) dX2_takeIfOnTime_8 (fun x5 u6 H locs hw4 hP hD hS => ?_)
  obtain ⟨g, L⟩ := u6
  obtain ⟨hI, h0n⟩ := hw4
  have h0c : g 0 = g0 0 := h0n.trans h0c
  have hI : zI XT g := hI
  have hP : va_P G.1 vwCl (zw G (XS b) 105 a g L) H := hP
  have hD : va_D A (zw G (XS b) 105 a g L) := hD
  refine lv_aload_n hx hb dX2_takeIfOnTime_11 rfl (lv_at hl 0 rfl) ?_
  refine x_geti (Or.inl fl_X2_33) C hP (by decide) xs_10 rfl dX2_takeIfOnTime_12 (fun x9 e10 => ?_)
  have J12 : ∀ (g : Nat → Nat → Int32) (L : Nat → Nat → Int64) (H : Heap) (locs : List Loc) (ls : Array Slot), zI XT g → g 0 = g0 0 → va_P G.1 vwCl (zw G (XS b) 105 a g L) H → va_D A (zw G (XS b) 105 a g L) → va_S A s.heap H locs → lv_has ls 2 [] → W p l e { frames := 7, cells := 0, slots := 0, locals := 131 } s m [.ref (a 10), .int p1].toArray below meth c H locs 0 0 (MQ below ((kQv G (S := zS) (fun u => zI XT u.1 ∧ u.1 0 = g0 0) (fun u => zw G (XS b) 105 a u.1 u.2)) A) [.ref (a 10), .int p1].toArray s 0 0 A) (F0 m 41 ls []) := by
    intro g L H locs ls hI h0c hP hD hS hl
    exact x_vret C hr hlk hP hD hS (g, L) rfl ⟨hI, h0c⟩ (Nat.le_of_ble_eq_true rfl) (Nat.le_of_ble_eq_true rfl) dX2_takeIfOnTime_41
  refine lv_icmp_gt (x := x5) (y := x9) (tgt := 41) hx hb dX2_takeIfOnTime_15 (by decide) (fun c13 => ?_) (fun c13 => ?_)
  ·
    have c13 := icc_lt (m := x9.toInt) (n := x5.toInt) rfl rfl c13
    exact J12 g L H locs ls hI h0c hP hD hS (lv_sub hl [] rfl)
  ·
    have c13 := icc_nlt (m := x9.toInt) (n := x5.toInt) rfl rfl c13
    refine lv_aload_n hx hb dX2_takeIfOnTime_18 rfl (lv_at hl 0 rfl) ?_
    refine lv_iload_n hx hb dX2_takeIfOnTime_19 rfl (lv_at hl 1 rfl) ?_
    refine x_puti (hI.updN rfl) (Or.inl fl_X2_39) ft_X2_8 C hP hD hS (by decide) xs_10 rfl rfl rfl dX2_takeIfOnTime_20 (fun g H locs eg hI hP hD hS => ?_)
    have h0c : g 0 = g0 0 := by rw [eg]; exact h0c
    refine lv_aload_n hx hb dX2_takeIfOnTime_23 rfl (lv_at hl 0 rfl) ?_
    refine x_getr (Or.inl fl_X2_28) C hP (by decide) xs_10 rfl dX2_takeIfOnTime_24 ?_
    refine x_getr (Or.inr fl_X2_45) C hP (by decide) xs_6 rfl dX2_takeIfOnTime_27 ?_
    refine lv_iconst (v := 0) hx hb dX2_takeIfOnTime_30 (by decide) ?_
    refine lv_aload_n hx hb dX2_takeIfOnTime_31 rfl (lv_at hl 0 rfl) ?_
    refine x_getr (Or.inl fl_X2_15) C hP (by decide) xs_10 rfl dX2_takeIfOnTime_32 ?_
    refine lv_iconst (v := 0) hx hb dX2_takeIfOnTime_35 (by decide) ?_
    refine lv_bipush (v := 12) hx hb dX2_takeIfOnTime_36 (by decide) ?_
    refine x_copy (hI.cpy (fun _ _ => rfl)) lc_X2_50 C hl.1 hP hD hS (by decide) (by decide) xs_26 xs_51 (by decide) (by decide) (by decide) (by decide) (by decide) (Nat.le_of_ble_eq_true rfl) (Nat.le_of_ble_eq_true rfl) dX2_takeIfOnTime_38 (fun g H locs eg hI hP hD hS => ?_)
    have h0c : g 0 = g0 0 := by rw [eg]; exact h0c
    exact J12 g L H locs ls hI h0c hP hD hS (lv_sub hl [] rfl)
set_option maxHeartbeats 4000000 in
set_option maxRecDepth 100000 in
theorem zX2_tryFrom_10_L0 (l : Launch) (G : kG) (sz : Nat) (b : Nat) (a : Nat → Nat) (g0 : Nat → Nat → Int32) (L0 : Nat → Nat → Int64) (hI : zI XT g0) (p1 : Int32) (p2 : Int32) (hp1 : 12 ≤ p1.toInt ∧ p1.toInt ≤ 12) : kM l yX2_tryFrom cX2_tryFrom 3 none { frames := 8, cells := 0, slots := 0, locals := 152 } G [.ref (a 10), .int p1, .int p2] (zw G (XS b) 105 a g0 L0) sz (kQv G (S := zS) (fun u => zI XT u.1 ∧ u.1 0 = g0 0) (fun u => zw G (XS b) 105 a u.1 u.2)) := by
  refine kM.of (by decide) (Nat.le_of_ble_eq_true rfl) ?_
  intro p e s m below meth c A ls H C hr hlk hnm hP hD hS hl
  have C : kC G p s m c cX2_tryFrom 3 RX2 A := C
  have hx := C.1
  have hb := C.2.1
  have hl : lv_has ls 3 [(0, .ref (a 10)), (1, .int p1), (2, .int p2)] := hl
  have h0c : g0 0 = g0 0 := rfl
  obtain ⟨locs, hlocs⟩ : ∃ q : List Loc, q = [] := ⟨_, rfl⟩
  rw [← hlocs] at hS
  rw [← hlocs]
  refine lv_iload_n hx hb dX2_tryFrom_0 rfl (lv_at hl 2 rfl) ?_
  refine lv_aload_n hx hb dX2_tryFrom_1 rfl (lv_at hl 0 rfl) ?_
  refine x_geti (Or.inl fl_X2_39) C hP (by decide) xs_10 rfl dX2_tryFrom_2 (fun x1 e2 => ?_)
  refine lv_icmp_lt (x := p2) (y := x1) (tgt := 9) hx hb dX2_tryFrom_5 (by decide) (fun c3 => ?_) (fun c3 => ?_)
  ·
    have c3 := icc_lt (m := p2.toInt) (n := x1.toInt) rfl rfl c3
    refine lv_iload_n hx hb dX2_tryFrom_9 rfl (lv_at hl 1 rfl) ?_
    refine lv_aload_n hx hb dX2_tryFrom_10 rfl (lv_at hl 0 rfl) ?_
    refine x_getT hI rfl (Or.inl fl_X2_36) C hP (by decide) xs_10 rfl dX2_tryFrom_11 (fun x4 e5 b6 => ?_)
    refine lv_icmp_gt (x := p1) (y := x4) (tgt := 23) hx hb dX2_tryFrom_14 (by decide) (fun c13 => ?_) (fun c13 => ?_)
    ·
      have c13 := icc_lt (m := x4.toInt) (n := p1.toInt) rfl rfl c13
      refine lv_aload_n hx hb dX2_tryFrom_23 rfl (lv_at hl 0 rfl) ?_
      refine lv_iload_n hx hb dX2_tryFrom_24 rfl (lv_at hl 2 rfl) ?_
      refine x_callVv (rest := []) li_X2_82 C (zX2_takeIfOnTime_10 l G H.size b a g0 L0 hI p2) (kR rfl) hP hD hS 10 2 rfl (zat (by decide) xs_10) rfl hl.1 rfl (Nat.le_of_ble_eq_true rfl) dX2_tryFrom_25 (fun u16 H locs hw14 hP hD hS => ?_)
      obtain ⟨g, L⟩ := u16
      obtain ⟨hI, h0n⟩ := hw14
      have h0c : g 0 = g0 0 := h0n.trans h0c
      have hI : zI XT g := hI
      have hP : va_P G.1 vwCl (zw G (XS b) 105 a g L) H := hP
      have hD : va_D A (zw G (XS b) 105 a g L) := hD
      refine lv_goto (tgt := 89) hx hb dX2_tryFrom_28 (by decide) ?_
      exact x_vret C hr hlk hP hD hS (g, L) rfl ⟨hI, h0c⟩ (Nat.le_of_ble_eq_true rfl) (Nat.le_of_ble_eq_true rfl) dX2_tryFrom_89
    ·
      have c13 := icc_nlt (m := x4.toInt) (n := p1.toInt) rfl rfl c13
      omega
  ·
    have c3 := icc_nlt (m := p2.toInt) (n := x1.toInt) rfl rfl c3
    exact x_vret C hr hlk hP hD hS (g0, L0) rfl ⟨hI, h0c⟩ (Nat.le_of_ble_eq_true rfl) (Nat.le_of_ble_eq_true rfl) dX2_tryFrom_8
set_option maxHeartbeats 4000000 in
set_option maxRecDepth 100000 in
theorem zX2_tryGapsOf_10_L1 (l : Launch) (G : kG) (sz : Nat) (b : Nat) (a : Nat → Nat) (g0 : Nat → Nat → Int32) (L0 : Nat → Nat → Int64) (hI : zI XT g0) (p1 : Int32) (p2 : Int32) (hp1 : 11 ≤ p1.toInt ∧ p1.toInt ≤ 11) : kM l yX2_tryGapsOf cX2_tryGapsOf 5 none { frames := 10, cells := 0, slots := 0, locals := 203 } G [.ref (a 10), .int p1, .int p2] (zw G (XS b) 105 a g0 L0) sz (kQv G (S := zS) (fun u => zI XT u.1 ∧ u.1 0 = g0 0) (fun u => zw G (XS b) 105 a u.1 u.2)) := by
  refine kM.of (by decide) (Nat.le_of_ble_eq_true rfl) ?_
  intro p e s m below meth c A ls H C hr hlk hnm hP hD hS hl
  have C : kC G p s m c cX2_tryGapsOf 5 RX2 A := C
  have hx := C.1
  have hb := C.2.1
  have hl : lv_has ls 5 [(0, .ref (a 10)), (1, .int p1), (2, .int p2)] := hl
  have h0c : g0 0 = g0 0 := rfl
  obtain ⟨locs, hlocs⟩ : ∃ q : List Loc, q = [] := ⟨_, rfl⟩
  rw [← hlocs] at hS
  rw [← hlocs]
  refine lv_iconst (v := -1) hx hb dX2_tryGapsOf_0 (by decide) ?_
  refine lv_istore_n (lv' := [(3, .int (-1)), (0, .ref (a 10)), (1, .int p1), (2, .int p2)]) hx hb dX2_tryGapsOf_1 rfl hl (by decide) rfl (fun ls hl => ?_)
  refine lv_iconst (v := 0) hx hb dX2_tryGapsOf_2 (by decide) ?_
  refine lv_istore (lv' := [(4, .int 0), (3, .int (-1)), (0, .ref (a 10)), (1, .int p1), (2, .int p2)]) hx hb dX2_tryGapsOf_3 hl (by decide) rfl (fun ls hl => ?_)
  have lp279 : ∀ fu : Nat, ∀ (x276 : Int32) (x277 : Int32) (g : Nat → Nat → Int32) (L : Nat → Nat → Int64) (H : Heap) (locs : List Loc) (ls : Array Slot), (0 ≤ x277.toInt ∧ x277.toInt ≤ 5) → zI XT g → g 0 = g0 0 → va_P G.1 vwCl (zw G (XS b) 105 a g L) H → va_D A (zw G (XS b) 105 a g L) → va_S A s.heap H locs → lv_has ls 5 [(0, .ref (a 10)), (1, .int p1), (2, .int p2), (3, .int x276), (4, .int x277)] → 5 - x277.toInt < (fu : Int) → W p l e { frames := 10, cells := 0, slots := 0, locals := 203 } s m [.ref (a 10), .int p1, .int p2].toArray below meth c H locs 0 0 (MQ below ((kQv G (S := zS) (fun u => zI XT u.1 ∧ u.1 0 = g0 0) (fun u => zw G (XS b) 105 a u.1 u.2)) A) [.ref (a 10), .int p1, .int p2].toArray s 0 0 A) (F0 m 5 ls []) := by
    intro fu
    induction fu with
    | zero => intro x276 x277 g L H locs ls b278 hI h0c hP hD hS hl hm; exact absurd hm (by omega)
    | succ fu ih =>
      intro x276 x277 g L H locs ls b278 hI h0c hP hD hS hl hm
      have ih280 := ih
      refine lv_iload hx hb dX2_tryGapsOf_5 (lv_at hl 4 rfl) ?_
      refine lv_iconst (v := 4) hx hb dX2_tryGapsOf_7 (by decide) ?_
      refine lv_icmp_gt (x := x277) (y := 4) (tgt := 70) hx hb dX2_tryGapsOf_8 (by decide) (fun c281 => ?_) (fun c281 => ?_)
      ·
        have c281 := icc_lt (m := 4) (n := x277.toInt) (by decide) rfl c281
        exact x_vret C hr hlk hP hD hS (g, L) rfl ⟨hI, h0c⟩ (Nat.le_of_ble_eq_true rfl) (Nat.le_of_ble_eq_true rfl) dX2_tryGapsOf_70
      ·
        have c281 := icc_nlt (m := 4) (n := x277.toInt) (by decide) rfl c281
        refine lv_aload_n hx hb dX2_tryGapsOf_11 rfl (lv_at hl 0 rfl) ?_
        refine x_getr (Or.inl fl_X2_28) C hP (by decide) xs_10 rfl dX2_tryGapsOf_12 ?_
        refine x_getr (Or.inr fl_X2_45) C hP (by decide) xs_6 rfl dX2_tryGapsOf_15 ?_
        refine lv_iload_n hx hb dX2_tryGapsOf_18 rfl (lv_at hl 1 rfl) ?_
        refine lv_iload hx hb dX2_tryGapsOf_19 (lv_at hl 4 rfl) ?_
        refine x_ast (hI.updN rfl) C hP hD hS (by decide) xs_26 (by omega) (by omega) dX2_tryGapsOf_21 (fun g H locs eg hI hP hD hS => ?_)
        have h0c : g 0 = g0 0 := by rw [eg]; exact h0c
        refine lv_aload_n hx hb dX2_tryGapsOf_22 rfl (lv_at hl 0 rfl) ?_
        refine x_getr (Or.inl fl_X2_18) C hP (by decide) xs_10 rfl dX2_tryGapsOf_23 ?_
        refine lv_iload_n hx hb dX2_tryGapsOf_26 rfl (lv_at hl 1 rfl) ?_
        refine x_callNv (rest := []) li_X2_86 C (zX1_runOne_8 l G H.size b a g L hI p1 (by omega)) (kR rfl) hP hD hS 8 1 rfl (zat (by decide) xs_8) rfl hl.1 rfl (Nat.le_of_ble_eq_true rfl) dX2_tryGapsOf_27 (fun u284 H locs hw282 hP hD hS => ?_)
        obtain ⟨g, L⟩ := u284
        obtain ⟨hI, h0n⟩ := hw282
        have h0c : g 0 = g0 0 := h0n.trans h0c
        have hI : zI XT g := hI
        have hP : va_P G.1 vwCl (zw G (XS b) 105 a g L) H := hP
        have hD : va_D A (zw G (XS b) 105 a g L) := hD
        refine lv_aload_n hx hb dX2_tryGapsOf_30 rfl (lv_at hl 0 rfl) ?_
        refine x_getr (Or.inl fl_X2_18) C hP (by decide) xs_10 rfl dX2_tryGapsOf_31 ?_
        refine x_getr (Or.inr fl_X2_92) C hP (by decide) xs_8 rfl dX2_tryGapsOf_34 ?_
        refine lv_iload_n hx hb dX2_tryGapsOf_37 rfl (lv_at hl 1 rfl) ?_
        refine x_ald C hP (by decide) xs_44 (by omega) (by omega) dX2_tryGapsOf_38 (fun x287 e288 => ?_)
        refine lv_iload_n hx hb dX2_tryGapsOf_39 rfl (lv_at hl 3 rfl) ?_
        have J303 : ∀ (x304 : Int32) (g : Nat → Nat → Int32) (L : Nat → Nat → Int64) (H : Heap) (locs : List Loc) (ls : Array Slot), zI XT g → g 0 = g0 0 → va_P G.1 vwCl (zw G (XS b) 105 a g L) H → va_D A (zw G (XS b) 105 a g L) → va_S A s.heap H locs → lv_has ls 5 [(0, .ref (a 10)), (1, .int p1), (2, .int p2), (3, .int x304), (4, .int x277)] → W p l e { frames := 10, cells := 0, slots := 0, locals := 203 } s m [.ref (a 10), .int p1, .int p2].toArray below meth c H locs 0 0 (MQ below ((kQv G (S := zS) (fun u => zI XT u.1 ∧ u.1 0 = g0 0) (fun u => zw G (XS b) 105 a u.1 u.2)) A) [.ref (a 10), .int p1, .int p2].toArray s 0 0 A) (F0 m 64 ls []) := by
          intro x304 g L H locs ls hI h0c hP hD hS hl
          obtain ⟨x305, e306q, e306⟩ : ∃ z : Int32, x277 + Int32.ofInt (1) = z ∧ z.toInt = x277.toInt + (1) := ⟨_, rfl, ic_addc rfl (by decide) (by omega) (by omega)⟩
          refine lv_iinc (v := x305) (lv' := [(4, .int x305), (0, .ref (a 10)), (1, .int p1), (2, .int p2), (3, .int x304)]) hx hb dX2_tryGapsOf_64 hl (k := 4) rfl e306q (by decide) rfl (fun ls hl => ?_)
          refine lv_goto (tgt := 5) hx hb dX2_tryGapsOf_67 (by decide) ?_
          exact ih280 x304 x305 g L H locs ls (by omega) hI h0c hP hD hS (lv_sub hl [1, 2, 3, 4, 0] rfl) (by omega)
        refine lv_icmp_eq (x := x287) (y := x276) (tgt := 64) hx hb dX2_tryGapsOf_40 (by decide) (fun c307 => ?_) (fun c307 => ?_)
        ·
          have c307 := icc_eq (m := x287.toInt) (n := x276.toInt) rfl rfl c307
          exact J303 x276 g L H locs ls hI h0c hP hD hS (lv_sub hl [0, 1, 2, 3, 4] rfl)
        ·
          have c307 := icc_neq (m := x287.toInt) (n := x276.toInt) rfl rfl c307
          refine lv_aload_n hx hb dX2_tryGapsOf_43 rfl (lv_at hl 0 rfl) ?_
          refine x_getr (Or.inl fl_X2_18) C hP (by decide) xs_10 rfl dX2_tryGapsOf_44 ?_
          refine x_getr (Or.inr fl_X2_92) C hP (by decide) xs_8 rfl dX2_tryGapsOf_47 ?_
          refine lv_iload_n hx hb dX2_tryGapsOf_50 rfl (lv_at hl 1 rfl) ?_
          refine x_ald C hP (by decide) xs_44 (by omega) (by omega) dX2_tryGapsOf_51 (fun x308 e309 => ?_)
          refine lv_istore_n (lv' := [(3, .int x308), (0, .ref (a 10)), (1, .int p1), (2, .int p2), (4, .int x277)]) hx hb dX2_tryGapsOf_52 rfl hl (by decide) rfl (fun ls hl => ?_)
          refine lv_aload_n hx hb dX2_tryGapsOf_53 rfl (lv_at hl 1 rfl) ?_
          refine lv_iload_n hx hb dX2_tryGapsOf_54 rfl (lv_at hl 2 rfl) ?_
          refine lv_iconst (v := 1) hx hb dX2_tryGapsOf_55 (by decide) ?_
          refine lv_iadd hx hb dX2_tryGapsOf_56 ?_
          refine x_val (ic_addc (m := p1.toInt) (n := 1) rfl (by decide) (by omega) (by omega)) (fun x310 e311 => ?_)
          refine lv_iload_n hx hb dX2_tryGapsOf_57 rfl (lv_at hl 3 rfl) ?_
          refine lv_iload hx hb dX2_tryGapsOf_58 (lv_at hl 4 rfl) ?_
          refine lv_iadd hx hb dX2_tryGapsOf_60 ?_
          refine x_any (fun x312 => ?_)
          refine x_callVv (rest := []) li_X2_60 C (zX2_tryFrom_10_L0 l G H.size b a g L hI x310 x312 (by omega)) (kR rfl) hP hD hS 10 2 rfl (zat (by decide) xs_10) rfl hl.1 rfl (Nat.le_of_ble_eq_true rfl) dX2_tryGapsOf_61 (fun u315 H locs hw313 hP hD hS => ?_)
          obtain ⟨g, L⟩ := u315
          obtain ⟨hI, h0n⟩ := hw313
          have h0c : g 0 = g0 0 := h0n.trans h0c
          have hI : zI XT g := hI
          have hP : va_P G.1 vwCl (zw G (XS b) 105 a g L) H := hP
          have hD : va_D A (zw G (XS b) 105 a g L) := hD
          exact J303 x308 g L H locs ls hI h0c hP hD hS (lv_sub hl [1, 2, 3, 0, 4] rfl)
  have hc_ : ((-1) : Int32).toInt = (-1) := by decide
  have hc_ : (0 : Int32).toInt = 0 := by decide
  exact lp279 7 (-1) 0 g0 L0 H locs ls (by decide) hI h0c hP hD hS (lv_sub hl [2, 3, 4, 1, 0] rfl) (by omega)
set_option maxHeartbeats 4000000 in
set_option maxRecDepth 100000 in
theorem zX2_tryFrom_10_L1 (l : Launch) (G : kG) (sz : Nat) (b : Nat) (a : Nat → Nat) (g0 : Nat → Nat → Int32) (L0 : Nat → Nat → Int64) (hI : zI XT g0) (p1 : Int32) (p2 : Int32) (hp1 : 11 ≤ p1.toInt ∧ p1.toInt ≤ 12) : kM l yX2_tryFrom cX2_tryFrom 3 none { frames := 11, cells := 0, slots := 0, locals := 227 } G [.ref (a 10), .int p1, .int p2] (zw G (XS b) 105 a g0 L0) sz (kQv G (S := zS) (fun u => zI XT u.1 ∧ u.1 0 = g0 0) (fun u => zw G (XS b) 105 a u.1 u.2)) := by
  refine kM.of (by decide) (Nat.le_of_ble_eq_true rfl) ?_
  intro p e s m below meth c A ls H C hr hlk hnm hP hD hS hl
  have C : kC G p s m c cX2_tryFrom 3 RX2 A := C
  have hx := C.1
  have hb := C.2.1
  have hl : lv_has ls 3 [(0, .ref (a 10)), (1, .int p1), (2, .int p2)] := hl
  have h0c : g0 0 = g0 0 := rfl
  obtain ⟨locs, hlocs⟩ : ∃ q : List Loc, q = [] := ⟨_, rfl⟩
  rw [← hlocs] at hS
  rw [← hlocs]
  refine lv_iload_n hx hb dX2_tryFrom_0 rfl (lv_at hl 2 rfl) ?_
  refine lv_aload_n hx hb dX2_tryFrom_1 rfl (lv_at hl 0 rfl) ?_
  refine x_geti (Or.inl fl_X2_39) C hP (by decide) xs_10 rfl dX2_tryFrom_2 (fun x1 e2 => ?_)
  refine lv_icmp_lt (x := p2) (y := x1) (tgt := 9) hx hb dX2_tryFrom_5 (by decide) (fun c3 => ?_) (fun c3 => ?_)
  ·
    have c3 := icc_lt (m := p2.toInt) (n := x1.toInt) rfl rfl c3
    refine lv_iload_n hx hb dX2_tryFrom_9 rfl (lv_at hl 1 rfl) ?_
    refine lv_aload_n hx hb dX2_tryFrom_10 rfl (lv_at hl 0 rfl) ?_
    refine x_getT hI rfl (Or.inl fl_X2_36) C hP (by decide) xs_10 rfl dX2_tryFrom_11 (fun x4 e5 b6 => ?_)
    have J54 : ∀ (g : Nat → Nat → Int32) (L : Nat → Nat → Int64) (H : Heap) (locs : List Loc) (ls : Array Slot), zI XT g → g 0 = g0 0 → va_P G.1 vwCl (zw G (XS b) 105 a g L) H → va_D A (zw G (XS b) 105 a g L) → va_S A s.heap H locs → lv_has ls 3 [] → W p l e { frames := 11, cells := 0, slots := 0, locals := 227 } s m [.ref (a 10), .int p1, .int p2].toArray below meth c H locs 0 0 (MQ below ((kQv G (S := zS) (fun u => zI XT u.1 ∧ u.1 0 = g0 0) (fun u => zw G (XS b) 105 a u.1 u.2)) A) [.ref (a 10), .int p1, .int p2].toArray s 0 0 A) (F0 m 89 ls []) := by
      intro g L H locs ls hI h0c hP hD hS hl
      exact x_vret C hr hlk hP hD hS (g, L) rfl ⟨hI, h0c⟩ (Nat.le_of_ble_eq_true rfl) (Nat.le_of_ble_eq_true rfl) dX2_tryFrom_89
    refine lv_icmp_gt (x := p1) (y := x4) (tgt := 23) hx hb dX2_tryFrom_14 (by decide) (fun c55 => ?_) (fun c55 => ?_)
    ·
      have c55 := icc_lt (m := x4.toInt) (n := p1.toInt) rfl rfl c55
      refine lv_aload_n hx hb dX2_tryFrom_23 rfl (lv_at hl 0 rfl) ?_
      refine lv_iload_n hx hb dX2_tryFrom_24 rfl (lv_at hl 2 rfl) ?_
      refine x_callVv (rest := []) li_X2_82 C (zX2_takeIfOnTime_10 l G H.size b a g0 L0 hI p2) (kR rfl) hP hD hS 10 2 rfl (zat (by decide) xs_10) rfl hl.1 rfl (Nat.le_of_ble_eq_true rfl) dX2_tryFrom_25 (fun u58 H locs hw56 hP hD hS => ?_)
      obtain ⟨g, L⟩ := u58
      obtain ⟨hI, h0n⟩ := hw56
      have h0c : g 0 = g0 0 := h0n.trans h0c
      have hI : zI XT g := hI
      have hP : va_P G.1 vwCl (zw G (XS b) 105 a g L) H := hP
      have hD : va_D A (zw G (XS b) 105 a g L) := hD
      refine lv_goto (tgt := 89) hx hb dX2_tryFrom_28 (by decide) ?_
      exact J54 g L H locs ls hI h0c hP hD hS (lv_sub hl [] rfl)
    ·
      have c55 := icc_nlt (m := x4.toInt) (n := p1.toInt) rfl rfl c55
      refine lv_iload_n hx hb dX2_tryFrom_17 rfl (lv_at hl 1 rfl) ?_
      refine lv_bipush (v := 12) hx hb dX2_tryFrom_18 (by decide) ?_
      refine lv_icmp_lt (x := p1) (y := 12) (tgt := 31) hx hb dX2_tryFrom_20 (by decide) (fun c61 => ?_) (fun c61 => ?_)
      ·
        have c61 := icc_lt (m := p1.toInt) (n := 12) rfl (by decide) c61
        refine lv_aload_n hx hb dX2_tryFrom_31 rfl (lv_at hl 0 rfl) ?_
        refine x_geti (Or.inl fl_X2_64) C hP (by decide) xs_10 rfl dX2_tryFrom_32 (fun x62 e63 => ?_)
        refine lv_iload_n hx hb dX2_tryFrom_35 rfl (lv_at hl 1 rfl) ?_
        refine x_callSi (rest := []) li_X2_56 C (zX2_isIn l G H.size b a g0 L0 hI x62 p1) (kR rfl) hP hD hS rfl hl.1 rfl (Nat.le_of_ble_eq_true rfl) dX2_tryFrom_36 (fun x65 u66 H locs hw64 hP hD hS => ?_)
        obtain ⟨g, L⟩ := u66
        obtain ⟨hI, h0n, b67⟩ := hw64
        have h0c : g 0 = g0 0 := h0n.trans h0c
        have hI : zI XT g := hI
        have hP : va_P G.1 vwCl (zw G (XS b) 105 a g L) H := hP
        have hD : va_D A (zw G (XS b) 105 a g L) := hD
        refine lv_if_ne (x := x65) (tgt := 53) hx hb dX2_tryFrom_39 (by decide) (fun c69 => ?_) (fun c69 => ?_)
        ·
          have c69 := icc_neq (m := x65.toInt) (n := 0) rfl (by decide) c69
          refine lv_aload_n hx hb dX2_tryFrom_53 rfl (lv_at hl 0 rfl) ?_
          refine x_geti (Or.inl fl_X2_29) C hP (by decide) xs_10 rfl dX2_tryFrom_54 (fun x70 e71 => ?_)
          refine lv_iload_n hx hb dX2_tryFrom_57 rfl (lv_at hl 1 rfl) ?_
          refine x_callSi (rest := []) li_X2_56 C (zX2_isIn l G H.size b a g L hI x70 p1) (kR rfl) hP hD hS rfl hl.1 rfl (Nat.le_of_ble_eq_true rfl) dX2_tryFrom_58 (fun x73 u74 H locs hw72 hP hD hS => ?_)
          obtain ⟨g, L⟩ := u74
          obtain ⟨hI, h0n, b75⟩ := hw72
          have h0c : g 0 = g0 0 := h0n.trans h0c
          have hI : zI XT g := hI
          have hP : va_P G.1 vwCl (zw G (XS b) 105 a g L) H := hP
          have hD : va_D A (zw G (XS b) 105 a g L) := hD
          refine lv_if_ne (x := x73) (tgt := 83) hx hb dX2_tryFrom_61 (by decide) (fun c77 => ?_) (fun c77 => ?_)
          ·
            have c77 := icc_neq (m := x73.toInt) (n := 0) rfl (by decide) c77
            refine lv_aload_n hx hb dX2_tryFrom_83 rfl (lv_at hl 0 rfl) ?_
            refine lv_iload_n hx hb dX2_tryFrom_84 rfl (lv_at hl 1 rfl) ?_
            refine lv_iload_n hx hb dX2_tryFrom_85 rfl (lv_at hl 2 rfl) ?_
            refine x_callVv (rest := []) li_X2_89 C (zX2_tryGapsOf_10_L1 l G H.size b a g L hI p1 p2 (by omega)) (kR rfl) hP hD hS 10 2 rfl (zat (by decide) xs_10) rfl hl.1 rfl (Nat.le_of_ble_eq_true rfl) dX2_tryFrom_86 (fun u80 H locs hw78 hP hD hS => ?_)
            obtain ⟨g, L⟩ := u80
            obtain ⟨hI, h0n⟩ := hw78
            have h0c : g 0 = g0 0 := h0n.trans h0c
            have hI : zI XT g := hI
            have hP : va_P G.1 vwCl (zw G (XS b) 105 a g L) H := hP
            have hD : va_D A (zw G (XS b) 105 a g L) := hD
            exact J54 g L H locs ls hI h0c hP hD hS (lv_sub hl [] rfl)
          ·
            have c77 := icc_eq (m := x73.toInt) (n := 0) rfl (by decide) c77
            refine lv_aload_n hx hb dX2_tryFrom_64 rfl (lv_at hl 0 rfl) ?_
            refine x_getr (Or.inl fl_X2_18) C hP (by decide) xs_10 rfl dX2_tryFrom_65 ?_
            refine lv_iload_n hx hb dX2_tryFrom_68 rfl (lv_at hl 1 rfl) ?_
            refine x_callNv (rest := []) li_X2_86 C (zX1_runOne_8 l G H.size b a g L hI p1 (by omega)) (kR rfl) hP hD hS 8 1 rfl (zat (by decide) xs_8) rfl hl.1 rfl (Nat.le_of_ble_eq_true rfl) dX2_tryFrom_69 (fun u85 H locs hw83 hP hD hS => ?_)
            obtain ⟨g, L⟩ := u85
            obtain ⟨hI, h0n⟩ := hw83
            have h0c : g 0 = g0 0 := h0n.trans h0c
            have hI : zI XT g := hI
            have hP : va_P G.1 vwCl (zw G (XS b) 105 a g L) H := hP
            have hD : va_D A (zw G (XS b) 105 a g L) := hD
            refine lv_aload_n hx hb dX2_tryFrom_72 rfl (lv_at hl 0 rfl) ?_
            refine lv_iload_n hx hb dX2_tryFrom_73 rfl (lv_at hl 1 rfl) ?_
            refine lv_iconst (v := 1) hx hb dX2_tryFrom_74 (by decide) ?_
            refine lv_iadd hx hb dX2_tryFrom_75 ?_
            refine x_val (ic_addc (m := p1.toInt) (n := 1) rfl (by decide) (by omega) (by omega)) (fun x88 e89 => ?_)
            refine lv_iload_n hx hb dX2_tryFrom_76 rfl (lv_at hl 2 rfl) ?_
            refine x_callVv (rest := []) li_X2_60 C (zX2_tryFrom_10_L0 l G H.size b a g L hI x88 p2 (by omega)) (kR rfl) hP hD hS 10 2 rfl (zat (by decide) xs_10) rfl hl.1 rfl (Nat.le_of_ble_eq_true rfl) dX2_tryFrom_77 (fun u92 H locs hw90 hP hD hS => ?_)
            obtain ⟨g, L⟩ := u92
            obtain ⟨hI, h0n⟩ := hw90
            have h0c : g 0 = g0 0 := h0n.trans h0c
            have hI : zI XT g := hI
            have hP : va_P G.1 vwCl (zw G (XS b) 105 a g L) H := hP
            have hD : va_D A (zw G (XS b) 105 a g L) := hD
            refine lv_goto (tgt := 89) hx hb dX2_tryFrom_80 (by decide) ?_
            exact J54 g L H locs ls hI h0c hP hD hS (lv_sub hl [] rfl)
        ·
          have c69 := icc_eq (m := x65.toInt) (n := 0) rfl (by decide) c69
          refine lv_aload_n hx hb dX2_tryFrom_42 rfl (lv_at hl 0 rfl) ?_
          refine lv_iload_n hx hb dX2_tryFrom_43 rfl (lv_at hl 1 rfl) ?_
          refine lv_iconst (v := 1) hx hb dX2_tryFrom_44 (by decide) ?_
          refine lv_iadd hx hb dX2_tryFrom_45 ?_
          refine x_val (ic_addc (m := p1.toInt) (n := 1) rfl (by decide) (by omega) (by omega)) (fun x95 e96 => ?_)
          refine lv_iload_n hx hb dX2_tryFrom_46 rfl (lv_at hl 2 rfl) ?_
          refine x_callVv (rest := []) li_X2_60 C (zX2_tryFrom_10_L0 l G H.size b a g L hI x95 p2 (by omega)) (kR rfl) hP hD hS 10 2 rfl (zat (by decide) xs_10) rfl hl.1 rfl (Nat.le_of_ble_eq_true rfl) dX2_tryFrom_47 (fun u99 H locs hw97 hP hD hS => ?_)
          obtain ⟨g, L⟩ := u99
          obtain ⟨hI, h0n⟩ := hw97
          have h0c : g 0 = g0 0 := h0n.trans h0c
          have hI : zI XT g := hI
          have hP : va_P G.1 vwCl (zw G (XS b) 105 a g L) H := hP
          have hD : va_D A (zw G (XS b) 105 a g L) := hD
          refine lv_goto (tgt := 89) hx hb dX2_tryFrom_50 (by decide) ?_
          exact J54 g L H locs ls hI h0c hP hD hS (lv_sub hl [] rfl)
      ·
        have c61 := icc_nlt (m := p1.toInt) (n := 12) rfl (by decide) c61
        omega
  ·
    have c3 := icc_nlt (m := p2.toInt) (n := x1.toInt) rfl rfl c3
    exact x_vret C hr hlk hP hD hS (g0, L0) rfl ⟨hI, h0c⟩ (Nat.le_of_ble_eq_true rfl) (Nat.le_of_ble_eq_true rfl) dX2_tryFrom_8
set_option maxHeartbeats 4000000 in
set_option maxRecDepth 100000 in
theorem zX2_tryGapsOf_10_L2 (l : Launch) (G : kG) (sz : Nat) (b : Nat) (a : Nat → Nat) (g0 : Nat → Nat → Int32) (L0 : Nat → Nat → Int64) (hI : zI XT g0) (p1 : Int32) (p2 : Int32) (hp1 : 10 ≤ p1.toInt ∧ p1.toInt ≤ 11) : kM l yX2_tryGapsOf cX2_tryGapsOf 5 none { frames := 12, cells := 0, slots := 0, locals := 249 } G [.ref (a 10), .int p1, .int p2] (zw G (XS b) 105 a g0 L0) sz (kQv G (S := zS) (fun u => zI XT u.1 ∧ u.1 0 = g0 0) (fun u => zw G (XS b) 105 a u.1 u.2)) := by
  refine kM.of (by decide) (Nat.le_of_ble_eq_true rfl) ?_
  intro p e s m below meth c A ls H C hr hlk hnm hP hD hS hl
  have C : kC G p s m c cX2_tryGapsOf 5 RX2 A := C
  have hx := C.1
  have hb := C.2.1
  have hl : lv_has ls 5 [(0, .ref (a 10)), (1, .int p1), (2, .int p2)] := hl
  have h0c : g0 0 = g0 0 := rfl
  obtain ⟨locs, hlocs⟩ : ∃ q : List Loc, q = [] := ⟨_, rfl⟩
  rw [← hlocs] at hS
  rw [← hlocs]
  refine lv_iconst (v := -1) hx hb dX2_tryGapsOf_0 (by decide) ?_
  refine lv_istore_n (lv' := [(3, .int (-1)), (0, .ref (a 10)), (1, .int p1), (2, .int p2)]) hx hb dX2_tryGapsOf_1 rfl hl (by decide) rfl (fun ls hl => ?_)
  refine lv_iconst (v := 0) hx hb dX2_tryGapsOf_2 (by decide) ?_
  refine lv_istore (lv' := [(4, .int 0), (3, .int (-1)), (0, .ref (a 10)), (1, .int p1), (2, .int p2)]) hx hb dX2_tryGapsOf_3 hl (by decide) rfl (fun ls hl => ?_)
  have lp279 : ∀ fu : Nat, ∀ (x276 : Int32) (x277 : Int32) (g : Nat → Nat → Int32) (L : Nat → Nat → Int64) (H : Heap) (locs : List Loc) (ls : Array Slot), (0 ≤ x277.toInt ∧ x277.toInt ≤ 5) → zI XT g → g 0 = g0 0 → va_P G.1 vwCl (zw G (XS b) 105 a g L) H → va_D A (zw G (XS b) 105 a g L) → va_S A s.heap H locs → lv_has ls 5 [(0, .ref (a 10)), (1, .int p1), (2, .int p2), (3, .int x276), (4, .int x277)] → 5 - x277.toInt < (fu : Int) → W p l e { frames := 12, cells := 0, slots := 0, locals := 249 } s m [.ref (a 10), .int p1, .int p2].toArray below meth c H locs 0 0 (MQ below ((kQv G (S := zS) (fun u => zI XT u.1 ∧ u.1 0 = g0 0) (fun u => zw G (XS b) 105 a u.1 u.2)) A) [.ref (a 10), .int p1, .int p2].toArray s 0 0 A) (F0 m 5 ls []) := by
    intro fu
    induction fu with
    | zero => intro x276 x277 g L H locs ls b278 hI h0c hP hD hS hl hm; exact absurd hm (by omega)
    | succ fu ih =>
      intro x276 x277 g L H locs ls b278 hI h0c hP hD hS hl hm
      have ih280 := ih
      refine lv_iload hx hb dX2_tryGapsOf_5 (lv_at hl 4 rfl) ?_
      refine lv_iconst (v := 4) hx hb dX2_tryGapsOf_7 (by decide) ?_
      refine lv_icmp_gt (x := x277) (y := 4) (tgt := 70) hx hb dX2_tryGapsOf_8 (by decide) (fun c281 => ?_) (fun c281 => ?_)
      ·
        have c281 := icc_lt (m := 4) (n := x277.toInt) (by decide) rfl c281
        exact x_vret C hr hlk hP hD hS (g, L) rfl ⟨hI, h0c⟩ (Nat.le_of_ble_eq_true rfl) (Nat.le_of_ble_eq_true rfl) dX2_tryGapsOf_70
      ·
        have c281 := icc_nlt (m := 4) (n := x277.toInt) (by decide) rfl c281
        refine lv_aload_n hx hb dX2_tryGapsOf_11 rfl (lv_at hl 0 rfl) ?_
        refine x_getr (Or.inl fl_X2_28) C hP (by decide) xs_10 rfl dX2_tryGapsOf_12 ?_
        refine x_getr (Or.inr fl_X2_45) C hP (by decide) xs_6 rfl dX2_tryGapsOf_15 ?_
        refine lv_iload_n hx hb dX2_tryGapsOf_18 rfl (lv_at hl 1 rfl) ?_
        refine lv_iload hx hb dX2_tryGapsOf_19 (lv_at hl 4 rfl) ?_
        refine x_ast (hI.updN rfl) C hP hD hS (by decide) xs_26 (by omega) (by omega) dX2_tryGapsOf_21 (fun g H locs eg hI hP hD hS => ?_)
        have h0c : g 0 = g0 0 := by rw [eg]; exact h0c
        refine lv_aload_n hx hb dX2_tryGapsOf_22 rfl (lv_at hl 0 rfl) ?_
        refine x_getr (Or.inl fl_X2_18) C hP (by decide) xs_10 rfl dX2_tryGapsOf_23 ?_
        refine lv_iload_n hx hb dX2_tryGapsOf_26 rfl (lv_at hl 1 rfl) ?_
        refine x_callNv (rest := []) li_X2_86 C (zX1_runOne_8 l G H.size b a g L hI p1 (by omega)) (kR rfl) hP hD hS 8 1 rfl (zat (by decide) xs_8) rfl hl.1 rfl (Nat.le_of_ble_eq_true rfl) dX2_tryGapsOf_27 (fun u284 H locs hw282 hP hD hS => ?_)
        obtain ⟨g, L⟩ := u284
        obtain ⟨hI, h0n⟩ := hw282
        have h0c : g 0 = g0 0 := h0n.trans h0c
        have hI : zI XT g := hI
        have hP : va_P G.1 vwCl (zw G (XS b) 105 a g L) H := hP
        have hD : va_D A (zw G (XS b) 105 a g L) := hD
        refine lv_aload_n hx hb dX2_tryGapsOf_30 rfl (lv_at hl 0 rfl) ?_
        refine x_getr (Or.inl fl_X2_18) C hP (by decide) xs_10 rfl dX2_tryGapsOf_31 ?_
        refine x_getr (Or.inr fl_X2_92) C hP (by decide) xs_8 rfl dX2_tryGapsOf_34 ?_
        refine lv_iload_n hx hb dX2_tryGapsOf_37 rfl (lv_at hl 1 rfl) ?_
        refine x_ald C hP (by decide) xs_44 (by omega) (by omega) dX2_tryGapsOf_38 (fun x287 e288 => ?_)
        refine lv_iload_n hx hb dX2_tryGapsOf_39 rfl (lv_at hl 3 rfl) ?_
        have J303 : ∀ (x304 : Int32) (g : Nat → Nat → Int32) (L : Nat → Nat → Int64) (H : Heap) (locs : List Loc) (ls : Array Slot), zI XT g → g 0 = g0 0 → va_P G.1 vwCl (zw G (XS b) 105 a g L) H → va_D A (zw G (XS b) 105 a g L) → va_S A s.heap H locs → lv_has ls 5 [(0, .ref (a 10)), (1, .int p1), (2, .int p2), (3, .int x304), (4, .int x277)] → W p l e { frames := 12, cells := 0, slots := 0, locals := 249 } s m [.ref (a 10), .int p1, .int p2].toArray below meth c H locs 0 0 (MQ below ((kQv G (S := zS) (fun u => zI XT u.1 ∧ u.1 0 = g0 0) (fun u => zw G (XS b) 105 a u.1 u.2)) A) [.ref (a 10), .int p1, .int p2].toArray s 0 0 A) (F0 m 64 ls []) := by
          intro x304 g L H locs ls hI h0c hP hD hS hl
          obtain ⟨x305, e306q, e306⟩ : ∃ z : Int32, x277 + Int32.ofInt (1) = z ∧ z.toInt = x277.toInt + (1) := ⟨_, rfl, ic_addc rfl (by decide) (by omega) (by omega)⟩
          refine lv_iinc (v := x305) (lv' := [(4, .int x305), (0, .ref (a 10)), (1, .int p1), (2, .int p2), (3, .int x304)]) hx hb dX2_tryGapsOf_64 hl (k := 4) rfl e306q (by decide) rfl (fun ls hl => ?_)
          refine lv_goto (tgt := 5) hx hb dX2_tryGapsOf_67 (by decide) ?_
          exact ih280 x304 x305 g L H locs ls (by omega) hI h0c hP hD hS (lv_sub hl [1, 2, 3, 4, 0] rfl) (by omega)
        refine lv_icmp_eq (x := x287) (y := x276) (tgt := 64) hx hb dX2_tryGapsOf_40 (by decide) (fun c307 => ?_) (fun c307 => ?_)
        ·
          have c307 := icc_eq (m := x287.toInt) (n := x276.toInt) rfl rfl c307
          exact J303 x276 g L H locs ls hI h0c hP hD hS (lv_sub hl [0, 1, 2, 3, 4] rfl)
        ·
          have c307 := icc_neq (m := x287.toInt) (n := x276.toInt) rfl rfl c307
          refine lv_aload_n hx hb dX2_tryGapsOf_43 rfl (lv_at hl 0 rfl) ?_
          refine x_getr (Or.inl fl_X2_18) C hP (by decide) xs_10 rfl dX2_tryGapsOf_44 ?_
          refine x_getr (Or.inr fl_X2_92) C hP (by decide) xs_8 rfl dX2_tryGapsOf_47 ?_
          refine lv_iload_n hx hb dX2_tryGapsOf_50 rfl (lv_at hl 1 rfl) ?_
          refine x_ald C hP (by decide) xs_44 (by omega) (by omega) dX2_tryGapsOf_51 (fun x308 e309 => ?_)
          refine lv_istore_n (lv' := [(3, .int x308), (0, .ref (a 10)), (1, .int p1), (2, .int p2), (4, .int x277)]) hx hb dX2_tryGapsOf_52 rfl hl (by decide) rfl (fun ls hl => ?_)
          refine lv_aload_n hx hb dX2_tryGapsOf_53 rfl (lv_at hl 1 rfl) ?_
          refine lv_iload_n hx hb dX2_tryGapsOf_54 rfl (lv_at hl 2 rfl) ?_
          refine lv_iconst (v := 1) hx hb dX2_tryGapsOf_55 (by decide) ?_
          refine lv_iadd hx hb dX2_tryGapsOf_56 ?_
          refine x_val (ic_addc (m := p1.toInt) (n := 1) rfl (by decide) (by omega) (by omega)) (fun x310 e311 => ?_)
          refine lv_iload_n hx hb dX2_tryGapsOf_57 rfl (lv_at hl 3 rfl) ?_
          refine lv_iload hx hb dX2_tryGapsOf_58 (lv_at hl 4 rfl) ?_
          refine lv_iadd hx hb dX2_tryGapsOf_60 ?_
          refine x_any (fun x312 => ?_)
          refine x_callVv (rest := []) li_X2_60 C (zX2_tryFrom_10_L1 l G H.size b a g L hI x310 x312 (by omega)) (kR rfl) hP hD hS 10 2 rfl (zat (by decide) xs_10) rfl hl.1 rfl (Nat.le_of_ble_eq_true rfl) dX2_tryGapsOf_61 (fun u315 H locs hw313 hP hD hS => ?_)
          obtain ⟨g, L⟩ := u315
          obtain ⟨hI, h0n⟩ := hw313
          have h0c : g 0 = g0 0 := h0n.trans h0c
          have hI : zI XT g := hI
          have hP : va_P G.1 vwCl (zw G (XS b) 105 a g L) H := hP
          have hD : va_D A (zw G (XS b) 105 a g L) := hD
          exact J303 x308 g L H locs ls hI h0c hP hD hS (lv_sub hl [1, 2, 3, 0, 4] rfl)
  have hc_ : ((-1) : Int32).toInt = (-1) := by decide
  have hc_ : (0 : Int32).toInt = 0 := by decide
  exact lp279 7 (-1) 0 g0 L0 H locs ls (by decide) hI h0c hP hD hS (lv_sub hl [2, 3, 4, 1, 0] rfl) (by omega)
set_option maxHeartbeats 4000000 in
set_option maxRecDepth 100000 in
theorem zX2_tryFrom_10_L2 (l : Launch) (G : kG) (sz : Nat) (b : Nat) (a : Nat → Nat) (g0 : Nat → Nat → Int32) (L0 : Nat → Nat → Int64) (hI : zI XT g0) (p1 : Int32) (p2 : Int32) (hp1 : 10 ≤ p1.toInt ∧ p1.toInt ≤ 12) : kM l yX2_tryFrom cX2_tryFrom 3 none { frames := 13, cells := 0, slots := 0, locals := 273 } G [.ref (a 10), .int p1, .int p2] (zw G (XS b) 105 a g0 L0) sz (kQv G (S := zS) (fun u => zI XT u.1 ∧ u.1 0 = g0 0) (fun u => zw G (XS b) 105 a u.1 u.2)) := by
  refine kM.of (by decide) (Nat.le_of_ble_eq_true rfl) ?_
  intro p e s m below meth c A ls H C hr hlk hnm hP hD hS hl
  have C : kC G p s m c cX2_tryFrom 3 RX2 A := C
  have hx := C.1
  have hb := C.2.1
  have hl : lv_has ls 3 [(0, .ref (a 10)), (1, .int p1), (2, .int p2)] := hl
  have h0c : g0 0 = g0 0 := rfl
  obtain ⟨locs, hlocs⟩ : ∃ q : List Loc, q = [] := ⟨_, rfl⟩
  rw [← hlocs] at hS
  rw [← hlocs]
  refine lv_iload_n hx hb dX2_tryFrom_0 rfl (lv_at hl 2 rfl) ?_
  refine lv_aload_n hx hb dX2_tryFrom_1 rfl (lv_at hl 0 rfl) ?_
  refine x_geti (Or.inl fl_X2_39) C hP (by decide) xs_10 rfl dX2_tryFrom_2 (fun x1 e2 => ?_)
  refine lv_icmp_lt (x := p2) (y := x1) (tgt := 9) hx hb dX2_tryFrom_5 (by decide) (fun c3 => ?_) (fun c3 => ?_)
  ·
    have c3 := icc_lt (m := p2.toInt) (n := x1.toInt) rfl rfl c3
    refine lv_iload_n hx hb dX2_tryFrom_9 rfl (lv_at hl 1 rfl) ?_
    refine lv_aload_n hx hb dX2_tryFrom_10 rfl (lv_at hl 0 rfl) ?_
    refine x_getT hI rfl (Or.inl fl_X2_36) C hP (by decide) xs_10 rfl dX2_tryFrom_11 (fun x4 e5 b6 => ?_)
    have J54 : ∀ (g : Nat → Nat → Int32) (L : Nat → Nat → Int64) (H : Heap) (locs : List Loc) (ls : Array Slot), zI XT g → g 0 = g0 0 → va_P G.1 vwCl (zw G (XS b) 105 a g L) H → va_D A (zw G (XS b) 105 a g L) → va_S A s.heap H locs → lv_has ls 3 [] → W p l e { frames := 13, cells := 0, slots := 0, locals := 273 } s m [.ref (a 10), .int p1, .int p2].toArray below meth c H locs 0 0 (MQ below ((kQv G (S := zS) (fun u => zI XT u.1 ∧ u.1 0 = g0 0) (fun u => zw G (XS b) 105 a u.1 u.2)) A) [.ref (a 10), .int p1, .int p2].toArray s 0 0 A) (F0 m 89 ls []) := by
      intro g L H locs ls hI h0c hP hD hS hl
      exact x_vret C hr hlk hP hD hS (g, L) rfl ⟨hI, h0c⟩ (Nat.le_of_ble_eq_true rfl) (Nat.le_of_ble_eq_true rfl) dX2_tryFrom_89
    refine lv_icmp_gt (x := p1) (y := x4) (tgt := 23) hx hb dX2_tryFrom_14 (by decide) (fun c55 => ?_) (fun c55 => ?_)
    ·
      have c55 := icc_lt (m := x4.toInt) (n := p1.toInt) rfl rfl c55
      refine lv_aload_n hx hb dX2_tryFrom_23 rfl (lv_at hl 0 rfl) ?_
      refine lv_iload_n hx hb dX2_tryFrom_24 rfl (lv_at hl 2 rfl) ?_
      refine x_callVv (rest := []) li_X2_82 C (zX2_takeIfOnTime_10 l G H.size b a g0 L0 hI p2) (kR rfl) hP hD hS 10 2 rfl (zat (by decide) xs_10) rfl hl.1 rfl (Nat.le_of_ble_eq_true rfl) dX2_tryFrom_25 (fun u58 H locs hw56 hP hD hS => ?_)
      obtain ⟨g, L⟩ := u58
      obtain ⟨hI, h0n⟩ := hw56
      have h0c : g 0 = g0 0 := h0n.trans h0c
      have hI : zI XT g := hI
      have hP : va_P G.1 vwCl (zw G (XS b) 105 a g L) H := hP
      have hD : va_D A (zw G (XS b) 105 a g L) := hD
      refine lv_goto (tgt := 89) hx hb dX2_tryFrom_28 (by decide) ?_
      exact J54 g L H locs ls hI h0c hP hD hS (lv_sub hl [] rfl)
    ·
      have c55 := icc_nlt (m := x4.toInt) (n := p1.toInt) rfl rfl c55
      refine lv_iload_n hx hb dX2_tryFrom_17 rfl (lv_at hl 1 rfl) ?_
      refine lv_bipush (v := 12) hx hb dX2_tryFrom_18 (by decide) ?_
      refine lv_icmp_lt (x := p1) (y := 12) (tgt := 31) hx hb dX2_tryFrom_20 (by decide) (fun c61 => ?_) (fun c61 => ?_)
      ·
        have c61 := icc_lt (m := p1.toInt) (n := 12) rfl (by decide) c61
        refine lv_aload_n hx hb dX2_tryFrom_31 rfl (lv_at hl 0 rfl) ?_
        refine x_geti (Or.inl fl_X2_64) C hP (by decide) xs_10 rfl dX2_tryFrom_32 (fun x62 e63 => ?_)
        refine lv_iload_n hx hb dX2_tryFrom_35 rfl (lv_at hl 1 rfl) ?_
        refine x_callSi (rest := []) li_X2_56 C (zX2_isIn l G H.size b a g0 L0 hI x62 p1) (kR rfl) hP hD hS rfl hl.1 rfl (Nat.le_of_ble_eq_true rfl) dX2_tryFrom_36 (fun x65 u66 H locs hw64 hP hD hS => ?_)
        obtain ⟨g, L⟩ := u66
        obtain ⟨hI, h0n, b67⟩ := hw64
        have h0c : g 0 = g0 0 := h0n.trans h0c
        have hI : zI XT g := hI
        have hP : va_P G.1 vwCl (zw G (XS b) 105 a g L) H := hP
        have hD : va_D A (zw G (XS b) 105 a g L) := hD
        refine lv_if_ne (x := x65) (tgt := 53) hx hb dX2_tryFrom_39 (by decide) (fun c69 => ?_) (fun c69 => ?_)
        ·
          have c69 := icc_neq (m := x65.toInt) (n := 0) rfl (by decide) c69
          refine lv_aload_n hx hb dX2_tryFrom_53 rfl (lv_at hl 0 rfl) ?_
          refine x_geti (Or.inl fl_X2_29) C hP (by decide) xs_10 rfl dX2_tryFrom_54 (fun x70 e71 => ?_)
          refine lv_iload_n hx hb dX2_tryFrom_57 rfl (lv_at hl 1 rfl) ?_
          refine x_callSi (rest := []) li_X2_56 C (zX2_isIn l G H.size b a g L hI x70 p1) (kR rfl) hP hD hS rfl hl.1 rfl (Nat.le_of_ble_eq_true rfl) dX2_tryFrom_58 (fun x73 u74 H locs hw72 hP hD hS => ?_)
          obtain ⟨g, L⟩ := u74
          obtain ⟨hI, h0n, b75⟩ := hw72
          have h0c : g 0 = g0 0 := h0n.trans h0c
          have hI : zI XT g := hI
          have hP : va_P G.1 vwCl (zw G (XS b) 105 a g L) H := hP
          have hD : va_D A (zw G (XS b) 105 a g L) := hD
          refine lv_if_ne (x := x73) (tgt := 83) hx hb dX2_tryFrom_61 (by decide) (fun c77 => ?_) (fun c77 => ?_)
          ·
            have c77 := icc_neq (m := x73.toInt) (n := 0) rfl (by decide) c77
            refine lv_aload_n hx hb dX2_tryFrom_83 rfl (lv_at hl 0 rfl) ?_
            refine lv_iload_n hx hb dX2_tryFrom_84 rfl (lv_at hl 1 rfl) ?_
            refine lv_iload_n hx hb dX2_tryFrom_85 rfl (lv_at hl 2 rfl) ?_
            refine x_callVv (rest := []) li_X2_89 C (zX2_tryGapsOf_10_L2 l G H.size b a g L hI p1 p2 (by omega)) (kR rfl) hP hD hS 10 2 rfl (zat (by decide) xs_10) rfl hl.1 rfl (Nat.le_of_ble_eq_true rfl) dX2_tryFrom_86 (fun u80 H locs hw78 hP hD hS => ?_)
            obtain ⟨g, L⟩ := u80
            obtain ⟨hI, h0n⟩ := hw78
            have h0c : g 0 = g0 0 := h0n.trans h0c
            have hI : zI XT g := hI
            have hP : va_P G.1 vwCl (zw G (XS b) 105 a g L) H := hP
            have hD : va_D A (zw G (XS b) 105 a g L) := hD
            exact J54 g L H locs ls hI h0c hP hD hS (lv_sub hl [] rfl)
          ·
            have c77 := icc_eq (m := x73.toInt) (n := 0) rfl (by decide) c77
            refine lv_aload_n hx hb dX2_tryFrom_64 rfl (lv_at hl 0 rfl) ?_
            refine x_getr (Or.inl fl_X2_18) C hP (by decide) xs_10 rfl dX2_tryFrom_65 ?_
            refine lv_iload_n hx hb dX2_tryFrom_68 rfl (lv_at hl 1 rfl) ?_
            refine x_callNv (rest := []) li_X2_86 C (zX1_runOne_8 l G H.size b a g L hI p1 (by omega)) (kR rfl) hP hD hS 8 1 rfl (zat (by decide) xs_8) rfl hl.1 rfl (Nat.le_of_ble_eq_true rfl) dX2_tryFrom_69 (fun u85 H locs hw83 hP hD hS => ?_)
            obtain ⟨g, L⟩ := u85
            obtain ⟨hI, h0n⟩ := hw83
            have h0c : g 0 = g0 0 := h0n.trans h0c
            have hI : zI XT g := hI
            have hP : va_P G.1 vwCl (zw G (XS b) 105 a g L) H := hP
            have hD : va_D A (zw G (XS b) 105 a g L) := hD
            refine lv_aload_n hx hb dX2_tryFrom_72 rfl (lv_at hl 0 rfl) ?_
            refine lv_iload_n hx hb dX2_tryFrom_73 rfl (lv_at hl 1 rfl) ?_
            refine lv_iconst (v := 1) hx hb dX2_tryFrom_74 (by decide) ?_
            refine lv_iadd hx hb dX2_tryFrom_75 ?_
            refine x_val (ic_addc (m := p1.toInt) (n := 1) rfl (by decide) (by omega) (by omega)) (fun x88 e89 => ?_)
            refine lv_iload_n hx hb dX2_tryFrom_76 rfl (lv_at hl 2 rfl) ?_
            refine x_callVv (rest := []) li_X2_60 C (zX2_tryFrom_10_L1 l G H.size b a g L hI x88 p2 (by omega)) (kR rfl) hP hD hS 10 2 rfl (zat (by decide) xs_10) rfl hl.1 rfl (Nat.le_of_ble_eq_true rfl) dX2_tryFrom_77 (fun u92 H locs hw90 hP hD hS => ?_)
            obtain ⟨g, L⟩ := u92
            obtain ⟨hI, h0n⟩ := hw90
            have h0c : g 0 = g0 0 := h0n.trans h0c
            have hI : zI XT g := hI
            have hP : va_P G.1 vwCl (zw G (XS b) 105 a g L) H := hP
            have hD : va_D A (zw G (XS b) 105 a g L) := hD
            refine lv_goto (tgt := 89) hx hb dX2_tryFrom_80 (by decide) ?_
            exact J54 g L H locs ls hI h0c hP hD hS (lv_sub hl [] rfl)
        ·
          have c69 := icc_eq (m := x65.toInt) (n := 0) rfl (by decide) c69
          refine lv_aload_n hx hb dX2_tryFrom_42 rfl (lv_at hl 0 rfl) ?_
          refine lv_iload_n hx hb dX2_tryFrom_43 rfl (lv_at hl 1 rfl) ?_
          refine lv_iconst (v := 1) hx hb dX2_tryFrom_44 (by decide) ?_
          refine lv_iadd hx hb dX2_tryFrom_45 ?_
          refine x_val (ic_addc (m := p1.toInt) (n := 1) rfl (by decide) (by omega) (by omega)) (fun x95 e96 => ?_)
          refine lv_iload_n hx hb dX2_tryFrom_46 rfl (lv_at hl 2 rfl) ?_
          refine x_callVv (rest := []) li_X2_60 C (zX2_tryFrom_10_L1 l G H.size b a g L hI x95 p2 (by omega)) (kR rfl) hP hD hS 10 2 rfl (zat (by decide) xs_10) rfl hl.1 rfl (Nat.le_of_ble_eq_true rfl) dX2_tryFrom_47 (fun u99 H locs hw97 hP hD hS => ?_)
          obtain ⟨g, L⟩ := u99
          obtain ⟨hI, h0n⟩ := hw97
          have h0c : g 0 = g0 0 := h0n.trans h0c
          have hI : zI XT g := hI
          have hP : va_P G.1 vwCl (zw G (XS b) 105 a g L) H := hP
          have hD : va_D A (zw G (XS b) 105 a g L) := hD
          refine lv_goto (tgt := 89) hx hb dX2_tryFrom_50 (by decide) ?_
          exact J54 g L H locs ls hI h0c hP hD hS (lv_sub hl [] rfl)
      ·
        have c61 := icc_nlt (m := p1.toInt) (n := 12) rfl (by decide) c61
        omega
  ·
    have c3 := icc_nlt (m := p2.toInt) (n := x1.toInt) rfl rfl c3
    exact x_vret C hr hlk hP hD hS (g0, L0) rfl ⟨hI, h0c⟩ (Nat.le_of_ble_eq_true rfl) (Nat.le_of_ble_eq_true rfl) dX2_tryFrom_8
set_option maxHeartbeats 4000000 in
set_option maxRecDepth 100000 in
theorem zX2_tryGapsOf_10_L3 (l : Launch) (G : kG) (sz : Nat) (b : Nat) (a : Nat → Nat) (g0 : Nat → Nat → Int32) (L0 : Nat → Nat → Int64) (hI : zI XT g0) (p1 : Int32) (p2 : Int32) (hp1 : 9 ≤ p1.toInt ∧ p1.toInt ≤ 11) : kM l yX2_tryGapsOf cX2_tryGapsOf 5 none { frames := 14, cells := 0, slots := 0, locals := 295 } G [.ref (a 10), .int p1, .int p2] (zw G (XS b) 105 a g0 L0) sz (kQv G (S := zS) (fun u => zI XT u.1 ∧ u.1 0 = g0 0) (fun u => zw G (XS b) 105 a u.1 u.2)) := by
  refine kM.of (by decide) (Nat.le_of_ble_eq_true rfl) ?_
  intro p e s m below meth c A ls H C hr hlk hnm hP hD hS hl
  have C : kC G p s m c cX2_tryGapsOf 5 RX2 A := C
  have hx := C.1
  have hb := C.2.1
  have hl : lv_has ls 5 [(0, .ref (a 10)), (1, .int p1), (2, .int p2)] := hl
  have h0c : g0 0 = g0 0 := rfl
  obtain ⟨locs, hlocs⟩ : ∃ q : List Loc, q = [] := ⟨_, rfl⟩
  rw [← hlocs] at hS
  rw [← hlocs]
  refine lv_iconst (v := -1) hx hb dX2_tryGapsOf_0 (by decide) ?_
  refine lv_istore_n (lv' := [(3, .int (-1)), (0, .ref (a 10)), (1, .int p1), (2, .int p2)]) hx hb dX2_tryGapsOf_1 rfl hl (by decide) rfl (fun ls hl => ?_)
  refine lv_iconst (v := 0) hx hb dX2_tryGapsOf_2 (by decide) ?_
  refine lv_istore (lv' := [(4, .int 0), (3, .int (-1)), (0, .ref (a 10)), (1, .int p1), (2, .int p2)]) hx hb dX2_tryGapsOf_3 hl (by decide) rfl (fun ls hl => ?_)
  have lp279 : ∀ fu : Nat, ∀ (x276 : Int32) (x277 : Int32) (g : Nat → Nat → Int32) (L : Nat → Nat → Int64) (H : Heap) (locs : List Loc) (ls : Array Slot), (0 ≤ x277.toInt ∧ x277.toInt ≤ 5) → zI XT g → g 0 = g0 0 → va_P G.1 vwCl (zw G (XS b) 105 a g L) H → va_D A (zw G (XS b) 105 a g L) → va_S A s.heap H locs → lv_has ls 5 [(0, .ref (a 10)), (1, .int p1), (2, .int p2), (3, .int x276), (4, .int x277)] → 5 - x277.toInt < (fu : Int) → W p l e { frames := 14, cells := 0, slots := 0, locals := 295 } s m [.ref (a 10), .int p1, .int p2].toArray below meth c H locs 0 0 (MQ below ((kQv G (S := zS) (fun u => zI XT u.1 ∧ u.1 0 = g0 0) (fun u => zw G (XS b) 105 a u.1 u.2)) A) [.ref (a 10), .int p1, .int p2].toArray s 0 0 A) (F0 m 5 ls []) := by
    intro fu
    induction fu with
    | zero => intro x276 x277 g L H locs ls b278 hI h0c hP hD hS hl hm; exact absurd hm (by omega)
    | succ fu ih =>
      intro x276 x277 g L H locs ls b278 hI h0c hP hD hS hl hm
      have ih280 := ih
      refine lv_iload hx hb dX2_tryGapsOf_5 (lv_at hl 4 rfl) ?_
      refine lv_iconst (v := 4) hx hb dX2_tryGapsOf_7 (by decide) ?_
      refine lv_icmp_gt (x := x277) (y := 4) (tgt := 70) hx hb dX2_tryGapsOf_8 (by decide) (fun c281 => ?_) (fun c281 => ?_)
      ·
        have c281 := icc_lt (m := 4) (n := x277.toInt) (by decide) rfl c281
        exact x_vret C hr hlk hP hD hS (g, L) rfl ⟨hI, h0c⟩ (Nat.le_of_ble_eq_true rfl) (Nat.le_of_ble_eq_true rfl) dX2_tryGapsOf_70
      ·
        have c281 := icc_nlt (m := 4) (n := x277.toInt) (by decide) rfl c281
        refine lv_aload_n hx hb dX2_tryGapsOf_11 rfl (lv_at hl 0 rfl) ?_
        refine x_getr (Or.inl fl_X2_28) C hP (by decide) xs_10 rfl dX2_tryGapsOf_12 ?_
        refine x_getr (Or.inr fl_X2_45) C hP (by decide) xs_6 rfl dX2_tryGapsOf_15 ?_
        refine lv_iload_n hx hb dX2_tryGapsOf_18 rfl (lv_at hl 1 rfl) ?_
        refine lv_iload hx hb dX2_tryGapsOf_19 (lv_at hl 4 rfl) ?_
        refine x_ast (hI.updN rfl) C hP hD hS (by decide) xs_26 (by omega) (by omega) dX2_tryGapsOf_21 (fun g H locs eg hI hP hD hS => ?_)
        have h0c : g 0 = g0 0 := by rw [eg]; exact h0c
        refine lv_aload_n hx hb dX2_tryGapsOf_22 rfl (lv_at hl 0 rfl) ?_
        refine x_getr (Or.inl fl_X2_18) C hP (by decide) xs_10 rfl dX2_tryGapsOf_23 ?_
        refine lv_iload_n hx hb dX2_tryGapsOf_26 rfl (lv_at hl 1 rfl) ?_
        refine x_callNv (rest := []) li_X2_86 C (zX1_runOne_8 l G H.size b a g L hI p1 (by omega)) (kR rfl) hP hD hS 8 1 rfl (zat (by decide) xs_8) rfl hl.1 rfl (Nat.le_of_ble_eq_true rfl) dX2_tryGapsOf_27 (fun u284 H locs hw282 hP hD hS => ?_)
        obtain ⟨g, L⟩ := u284
        obtain ⟨hI, h0n⟩ := hw282
        have h0c : g 0 = g0 0 := h0n.trans h0c
        have hI : zI XT g := hI
        have hP : va_P G.1 vwCl (zw G (XS b) 105 a g L) H := hP
        have hD : va_D A (zw G (XS b) 105 a g L) := hD
        refine lv_aload_n hx hb dX2_tryGapsOf_30 rfl (lv_at hl 0 rfl) ?_
        refine x_getr (Or.inl fl_X2_18) C hP (by decide) xs_10 rfl dX2_tryGapsOf_31 ?_
        refine x_getr (Or.inr fl_X2_92) C hP (by decide) xs_8 rfl dX2_tryGapsOf_34 ?_
        refine lv_iload_n hx hb dX2_tryGapsOf_37 rfl (lv_at hl 1 rfl) ?_
        refine x_ald C hP (by decide) xs_44 (by omega) (by omega) dX2_tryGapsOf_38 (fun x287 e288 => ?_)
        refine lv_iload_n hx hb dX2_tryGapsOf_39 rfl (lv_at hl 3 rfl) ?_
        have J303 : ∀ (x304 : Int32) (g : Nat → Nat → Int32) (L : Nat → Nat → Int64) (H : Heap) (locs : List Loc) (ls : Array Slot), zI XT g → g 0 = g0 0 → va_P G.1 vwCl (zw G (XS b) 105 a g L) H → va_D A (zw G (XS b) 105 a g L) → va_S A s.heap H locs → lv_has ls 5 [(0, .ref (a 10)), (1, .int p1), (2, .int p2), (3, .int x304), (4, .int x277)] → W p l e { frames := 14, cells := 0, slots := 0, locals := 295 } s m [.ref (a 10), .int p1, .int p2].toArray below meth c H locs 0 0 (MQ below ((kQv G (S := zS) (fun u => zI XT u.1 ∧ u.1 0 = g0 0) (fun u => zw G (XS b) 105 a u.1 u.2)) A) [.ref (a 10), .int p1, .int p2].toArray s 0 0 A) (F0 m 64 ls []) := by
          intro x304 g L H locs ls hI h0c hP hD hS hl
          obtain ⟨x305, e306q, e306⟩ : ∃ z : Int32, x277 + Int32.ofInt (1) = z ∧ z.toInt = x277.toInt + (1) := ⟨_, rfl, ic_addc rfl (by decide) (by omega) (by omega)⟩
          refine lv_iinc (v := x305) (lv' := [(4, .int x305), (0, .ref (a 10)), (1, .int p1), (2, .int p2), (3, .int x304)]) hx hb dX2_tryGapsOf_64 hl (k := 4) rfl e306q (by decide) rfl (fun ls hl => ?_)
          refine lv_goto (tgt := 5) hx hb dX2_tryGapsOf_67 (by decide) ?_
          exact ih280 x304 x305 g L H locs ls (by omega) hI h0c hP hD hS (lv_sub hl [1, 2, 3, 4, 0] rfl) (by omega)
        refine lv_icmp_eq (x := x287) (y := x276) (tgt := 64) hx hb dX2_tryGapsOf_40 (by decide) (fun c307 => ?_) (fun c307 => ?_)
        ·
          have c307 := icc_eq (m := x287.toInt) (n := x276.toInt) rfl rfl c307
          exact J303 x276 g L H locs ls hI h0c hP hD hS (lv_sub hl [0, 1, 2, 3, 4] rfl)
        ·
          have c307 := icc_neq (m := x287.toInt) (n := x276.toInt) rfl rfl c307
          refine lv_aload_n hx hb dX2_tryGapsOf_43 rfl (lv_at hl 0 rfl) ?_
          refine x_getr (Or.inl fl_X2_18) C hP (by decide) xs_10 rfl dX2_tryGapsOf_44 ?_
          refine x_getr (Or.inr fl_X2_92) C hP (by decide) xs_8 rfl dX2_tryGapsOf_47 ?_
          refine lv_iload_n hx hb dX2_tryGapsOf_50 rfl (lv_at hl 1 rfl) ?_
          refine x_ald C hP (by decide) xs_44 (by omega) (by omega) dX2_tryGapsOf_51 (fun x308 e309 => ?_)
          refine lv_istore_n (lv' := [(3, .int x308), (0, .ref (a 10)), (1, .int p1), (2, .int p2), (4, .int x277)]) hx hb dX2_tryGapsOf_52 rfl hl (by decide) rfl (fun ls hl => ?_)
          refine lv_aload_n hx hb dX2_tryGapsOf_53 rfl (lv_at hl 1 rfl) ?_
          refine lv_iload_n hx hb dX2_tryGapsOf_54 rfl (lv_at hl 2 rfl) ?_
          refine lv_iconst (v := 1) hx hb dX2_tryGapsOf_55 (by decide) ?_
          refine lv_iadd hx hb dX2_tryGapsOf_56 ?_
          refine x_val (ic_addc (m := p1.toInt) (n := 1) rfl (by decide) (by omega) (by omega)) (fun x310 e311 => ?_)
          refine lv_iload_n hx hb dX2_tryGapsOf_57 rfl (lv_at hl 3 rfl) ?_
          refine lv_iload hx hb dX2_tryGapsOf_58 (lv_at hl 4 rfl) ?_
          refine lv_iadd hx hb dX2_tryGapsOf_60 ?_
          refine x_any (fun x312 => ?_)
          refine x_callVv (rest := []) li_X2_60 C (zX2_tryFrom_10_L2 l G H.size b a g L hI x310 x312 (by omega)) (kR rfl) hP hD hS 10 2 rfl (zat (by decide) xs_10) rfl hl.1 rfl (Nat.le_of_ble_eq_true rfl) dX2_tryGapsOf_61 (fun u315 H locs hw313 hP hD hS => ?_)
          obtain ⟨g, L⟩ := u315
          obtain ⟨hI, h0n⟩ := hw313
          have h0c : g 0 = g0 0 := h0n.trans h0c
          have hI : zI XT g := hI
          have hP : va_P G.1 vwCl (zw G (XS b) 105 a g L) H := hP
          have hD : va_D A (zw G (XS b) 105 a g L) := hD
          exact J303 x308 g L H locs ls hI h0c hP hD hS (lv_sub hl [1, 2, 3, 0, 4] rfl)
  have hc_ : ((-1) : Int32).toInt = (-1) := by decide
  have hc_ : (0 : Int32).toInt = 0 := by decide
  exact lp279 7 (-1) 0 g0 L0 H locs ls (by decide) hI h0c hP hD hS (lv_sub hl [2, 3, 4, 1, 0] rfl) (by omega)
set_option maxHeartbeats 4000000 in
set_option maxRecDepth 100000 in
theorem zX2_tryFrom_10_L3 (l : Launch) (G : kG) (sz : Nat) (b : Nat) (a : Nat → Nat) (g0 : Nat → Nat → Int32) (L0 : Nat → Nat → Int64) (hI : zI XT g0) (p1 : Int32) (p2 : Int32) (hp1 : 9 ≤ p1.toInt ∧ p1.toInt ≤ 12) : kM l yX2_tryFrom cX2_tryFrom 3 none { frames := 15, cells := 0, slots := 0, locals := 319 } G [.ref (a 10), .int p1, .int p2] (zw G (XS b) 105 a g0 L0) sz (kQv G (S := zS) (fun u => zI XT u.1 ∧ u.1 0 = g0 0) (fun u => zw G (XS b) 105 a u.1 u.2)) := by
  refine kM.of (by decide) (Nat.le_of_ble_eq_true rfl) ?_
  intro p e s m below meth c A ls H C hr hlk hnm hP hD hS hl
  have C : kC G p s m c cX2_tryFrom 3 RX2 A := C
  have hx := C.1
  have hb := C.2.1
  have hl : lv_has ls 3 [(0, .ref (a 10)), (1, .int p1), (2, .int p2)] := hl
  have h0c : g0 0 = g0 0 := rfl
  obtain ⟨locs, hlocs⟩ : ∃ q : List Loc, q = [] := ⟨_, rfl⟩
  rw [← hlocs] at hS
  rw [← hlocs]
  refine lv_iload_n hx hb dX2_tryFrom_0 rfl (lv_at hl 2 rfl) ?_
  refine lv_aload_n hx hb dX2_tryFrom_1 rfl (lv_at hl 0 rfl) ?_
  refine x_geti (Or.inl fl_X2_39) C hP (by decide) xs_10 rfl dX2_tryFrom_2 (fun x1 e2 => ?_)
  refine lv_icmp_lt (x := p2) (y := x1) (tgt := 9) hx hb dX2_tryFrom_5 (by decide) (fun c3 => ?_) (fun c3 => ?_)
  ·
    have c3 := icc_lt (m := p2.toInt) (n := x1.toInt) rfl rfl c3
    refine lv_iload_n hx hb dX2_tryFrom_9 rfl (lv_at hl 1 rfl) ?_
    refine lv_aload_n hx hb dX2_tryFrom_10 rfl (lv_at hl 0 rfl) ?_
    refine x_getT hI rfl (Or.inl fl_X2_36) C hP (by decide) xs_10 rfl dX2_tryFrom_11 (fun x4 e5 b6 => ?_)
    have J54 : ∀ (g : Nat → Nat → Int32) (L : Nat → Nat → Int64) (H : Heap) (locs : List Loc) (ls : Array Slot), zI XT g → g 0 = g0 0 → va_P G.1 vwCl (zw G (XS b) 105 a g L) H → va_D A (zw G (XS b) 105 a g L) → va_S A s.heap H locs → lv_has ls 3 [] → W p l e { frames := 15, cells := 0, slots := 0, locals := 319 } s m [.ref (a 10), .int p1, .int p2].toArray below meth c H locs 0 0 (MQ below ((kQv G (S := zS) (fun u => zI XT u.1 ∧ u.1 0 = g0 0) (fun u => zw G (XS b) 105 a u.1 u.2)) A) [.ref (a 10), .int p1, .int p2].toArray s 0 0 A) (F0 m 89 ls []) := by
      intro g L H locs ls hI h0c hP hD hS hl
      exact x_vret C hr hlk hP hD hS (g, L) rfl ⟨hI, h0c⟩ (Nat.le_of_ble_eq_true rfl) (Nat.le_of_ble_eq_true rfl) dX2_tryFrom_89
    refine lv_icmp_gt (x := p1) (y := x4) (tgt := 23) hx hb dX2_tryFrom_14 (by decide) (fun c55 => ?_) (fun c55 => ?_)
    ·
      have c55 := icc_lt (m := x4.toInt) (n := p1.toInt) rfl rfl c55
      refine lv_aload_n hx hb dX2_tryFrom_23 rfl (lv_at hl 0 rfl) ?_
      refine lv_iload_n hx hb dX2_tryFrom_24 rfl (lv_at hl 2 rfl) ?_
      refine x_callVv (rest := []) li_X2_82 C (zX2_takeIfOnTime_10 l G H.size b a g0 L0 hI p2) (kR rfl) hP hD hS 10 2 rfl (zat (by decide) xs_10) rfl hl.1 rfl (Nat.le_of_ble_eq_true rfl) dX2_tryFrom_25 (fun u58 H locs hw56 hP hD hS => ?_)
      obtain ⟨g, L⟩ := u58
      obtain ⟨hI, h0n⟩ := hw56
      have h0c : g 0 = g0 0 := h0n.trans h0c
      have hI : zI XT g := hI
      have hP : va_P G.1 vwCl (zw G (XS b) 105 a g L) H := hP
      have hD : va_D A (zw G (XS b) 105 a g L) := hD
      refine lv_goto (tgt := 89) hx hb dX2_tryFrom_28 (by decide) ?_
      exact J54 g L H locs ls hI h0c hP hD hS (lv_sub hl [] rfl)
    ·
      have c55 := icc_nlt (m := x4.toInt) (n := p1.toInt) rfl rfl c55
      refine lv_iload_n hx hb dX2_tryFrom_17 rfl (lv_at hl 1 rfl) ?_
      refine lv_bipush (v := 12) hx hb dX2_tryFrom_18 (by decide) ?_
      refine lv_icmp_lt (x := p1) (y := 12) (tgt := 31) hx hb dX2_tryFrom_20 (by decide) (fun c61 => ?_) (fun c61 => ?_)
      ·
        have c61 := icc_lt (m := p1.toInt) (n := 12) rfl (by decide) c61
        refine lv_aload_n hx hb dX2_tryFrom_31 rfl (lv_at hl 0 rfl) ?_
        refine x_geti (Or.inl fl_X2_64) C hP (by decide) xs_10 rfl dX2_tryFrom_32 (fun x62 e63 => ?_)
        refine lv_iload_n hx hb dX2_tryFrom_35 rfl (lv_at hl 1 rfl) ?_
        refine x_callSi (rest := []) li_X2_56 C (zX2_isIn l G H.size b a g0 L0 hI x62 p1) (kR rfl) hP hD hS rfl hl.1 rfl (Nat.le_of_ble_eq_true rfl) dX2_tryFrom_36 (fun x65 u66 H locs hw64 hP hD hS => ?_)
        obtain ⟨g, L⟩ := u66
        obtain ⟨hI, h0n, b67⟩ := hw64
        have h0c : g 0 = g0 0 := h0n.trans h0c
        have hI : zI XT g := hI
        have hP : va_P G.1 vwCl (zw G (XS b) 105 a g L) H := hP
        have hD : va_D A (zw G (XS b) 105 a g L) := hD
        refine lv_if_ne (x := x65) (tgt := 53) hx hb dX2_tryFrom_39 (by decide) (fun c69 => ?_) (fun c69 => ?_)
        ·
          have c69 := icc_neq (m := x65.toInt) (n := 0) rfl (by decide) c69
          refine lv_aload_n hx hb dX2_tryFrom_53 rfl (lv_at hl 0 rfl) ?_
          refine x_geti (Or.inl fl_X2_29) C hP (by decide) xs_10 rfl dX2_tryFrom_54 (fun x70 e71 => ?_)
          refine lv_iload_n hx hb dX2_tryFrom_57 rfl (lv_at hl 1 rfl) ?_
          refine x_callSi (rest := []) li_X2_56 C (zX2_isIn l G H.size b a g L hI x70 p1) (kR rfl) hP hD hS rfl hl.1 rfl (Nat.le_of_ble_eq_true rfl) dX2_tryFrom_58 (fun x73 u74 H locs hw72 hP hD hS => ?_)
          obtain ⟨g, L⟩ := u74
          obtain ⟨hI, h0n, b75⟩ := hw72
          have h0c : g 0 = g0 0 := h0n.trans h0c
          have hI : zI XT g := hI
          have hP : va_P G.1 vwCl (zw G (XS b) 105 a g L) H := hP
          have hD : va_D A (zw G (XS b) 105 a g L) := hD
          refine lv_if_ne (x := x73) (tgt := 83) hx hb dX2_tryFrom_61 (by decide) (fun c77 => ?_) (fun c77 => ?_)
          ·
            have c77 := icc_neq (m := x73.toInt) (n := 0) rfl (by decide) c77
            refine lv_aload_n hx hb dX2_tryFrom_83 rfl (lv_at hl 0 rfl) ?_
            refine lv_iload_n hx hb dX2_tryFrom_84 rfl (lv_at hl 1 rfl) ?_
            refine lv_iload_n hx hb dX2_tryFrom_85 rfl (lv_at hl 2 rfl) ?_
            refine x_callVv (rest := []) li_X2_89 C (zX2_tryGapsOf_10_L3 l G H.size b a g L hI p1 p2 (by omega)) (kR rfl) hP hD hS 10 2 rfl (zat (by decide) xs_10) rfl hl.1 rfl (Nat.le_of_ble_eq_true rfl) dX2_tryFrom_86 (fun u80 H locs hw78 hP hD hS => ?_)
            obtain ⟨g, L⟩ := u80
            obtain ⟨hI, h0n⟩ := hw78
            have h0c : g 0 = g0 0 := h0n.trans h0c
            have hI : zI XT g := hI
            have hP : va_P G.1 vwCl (zw G (XS b) 105 a g L) H := hP
            have hD : va_D A (zw G (XS b) 105 a g L) := hD
            exact J54 g L H locs ls hI h0c hP hD hS (lv_sub hl [] rfl)
          ·
            have c77 := icc_eq (m := x73.toInt) (n := 0) rfl (by decide) c77
            refine lv_aload_n hx hb dX2_tryFrom_64 rfl (lv_at hl 0 rfl) ?_
            refine x_getr (Or.inl fl_X2_18) C hP (by decide) xs_10 rfl dX2_tryFrom_65 ?_
            refine lv_iload_n hx hb dX2_tryFrom_68 rfl (lv_at hl 1 rfl) ?_
            refine x_callNv (rest := []) li_X2_86 C (zX1_runOne_8 l G H.size b a g L hI p1 (by omega)) (kR rfl) hP hD hS 8 1 rfl (zat (by decide) xs_8) rfl hl.1 rfl (Nat.le_of_ble_eq_true rfl) dX2_tryFrom_69 (fun u85 H locs hw83 hP hD hS => ?_)
            obtain ⟨g, L⟩ := u85
            obtain ⟨hI, h0n⟩ := hw83
            have h0c : g 0 = g0 0 := h0n.trans h0c
            have hI : zI XT g := hI
            have hP : va_P G.1 vwCl (zw G (XS b) 105 a g L) H := hP
            have hD : va_D A (zw G (XS b) 105 a g L) := hD
            refine lv_aload_n hx hb dX2_tryFrom_72 rfl (lv_at hl 0 rfl) ?_
            refine lv_iload_n hx hb dX2_tryFrom_73 rfl (lv_at hl 1 rfl) ?_
            refine lv_iconst (v := 1) hx hb dX2_tryFrom_74 (by decide) ?_
            refine lv_iadd hx hb dX2_tryFrom_75 ?_
            refine x_val (ic_addc (m := p1.toInt) (n := 1) rfl (by decide) (by omega) (by omega)) (fun x88 e89 => ?_)
            refine lv_iload_n hx hb dX2_tryFrom_76 rfl (lv_at hl 2 rfl) ?_
            refine x_callVv (rest := []) li_X2_60 C (zX2_tryFrom_10_L2 l G H.size b a g L hI x88 p2 (by omega)) (kR rfl) hP hD hS 10 2 rfl (zat (by decide) xs_10) rfl hl.1 rfl (Nat.le_of_ble_eq_true rfl) dX2_tryFrom_77 (fun u92 H locs hw90 hP hD hS => ?_)
            obtain ⟨g, L⟩ := u92
            obtain ⟨hI, h0n⟩ := hw90
            have h0c : g 0 = g0 0 := h0n.trans h0c
            have hI : zI XT g := hI
            have hP : va_P G.1 vwCl (zw G (XS b) 105 a g L) H := hP
            have hD : va_D A (zw G (XS b) 105 a g L) := hD
            refine lv_goto (tgt := 89) hx hb dX2_tryFrom_80 (by decide) ?_
            exact J54 g L H locs ls hI h0c hP hD hS (lv_sub hl [] rfl)
        ·
          have c69 := icc_eq (m := x65.toInt) (n := 0) rfl (by decide) c69
          refine lv_aload_n hx hb dX2_tryFrom_42 rfl (lv_at hl 0 rfl) ?_
          refine lv_iload_n hx hb dX2_tryFrom_43 rfl (lv_at hl 1 rfl) ?_
          refine lv_iconst (v := 1) hx hb dX2_tryFrom_44 (by decide) ?_
          refine lv_iadd hx hb dX2_tryFrom_45 ?_
          refine x_val (ic_addc (m := p1.toInt) (n := 1) rfl (by decide) (by omega) (by omega)) (fun x95 e96 => ?_)
          refine lv_iload_n hx hb dX2_tryFrom_46 rfl (lv_at hl 2 rfl) ?_
          refine x_callVv (rest := []) li_X2_60 C (zX2_tryFrom_10_L2 l G H.size b a g L hI x95 p2 (by omega)) (kR rfl) hP hD hS 10 2 rfl (zat (by decide) xs_10) rfl hl.1 rfl (Nat.le_of_ble_eq_true rfl) dX2_tryFrom_47 (fun u99 H locs hw97 hP hD hS => ?_)
          obtain ⟨g, L⟩ := u99
          obtain ⟨hI, h0n⟩ := hw97
          have h0c : g 0 = g0 0 := h0n.trans h0c
          have hI : zI XT g := hI
          have hP : va_P G.1 vwCl (zw G (XS b) 105 a g L) H := hP
          have hD : va_D A (zw G (XS b) 105 a g L) := hD
          refine lv_goto (tgt := 89) hx hb dX2_tryFrom_50 (by decide) ?_
          exact J54 g L H locs ls hI h0c hP hD hS (lv_sub hl [] rfl)
      ·
        have c61 := icc_nlt (m := p1.toInt) (n := 12) rfl (by decide) c61
        omega
  ·
    have c3 := icc_nlt (m := p2.toInt) (n := x1.toInt) rfl rfl c3
    exact x_vret C hr hlk hP hD hS (g0, L0) rfl ⟨hI, h0c⟩ (Nat.le_of_ble_eq_true rfl) (Nat.le_of_ble_eq_true rfl) dX2_tryFrom_8
set_option maxHeartbeats 4000000 in
set_option maxRecDepth 100000 in
theorem zX2_tryGapsOf_10_L4 (l : Launch) (G : kG) (sz : Nat) (b : Nat) (a : Nat → Nat) (g0 : Nat → Nat → Int32) (L0 : Nat → Nat → Int64) (hI : zI XT g0) (p1 : Int32) (p2 : Int32) (hp1 : 8 ≤ p1.toInt ∧ p1.toInt ≤ 11) : kM l yX2_tryGapsOf cX2_tryGapsOf 5 none { frames := 16, cells := 0, slots := 0, locals := 341 } G [.ref (a 10), .int p1, .int p2] (zw G (XS b) 105 a g0 L0) sz (kQv G (S := zS) (fun u => zI XT u.1 ∧ u.1 0 = g0 0) (fun u => zw G (XS b) 105 a u.1 u.2)) := by
  refine kM.of (by decide) (Nat.le_of_ble_eq_true rfl) ?_
  intro p e s m below meth c A ls H C hr hlk hnm hP hD hS hl
  have C : kC G p s m c cX2_tryGapsOf 5 RX2 A := C
  have hx := C.1
  have hb := C.2.1
  have hl : lv_has ls 5 [(0, .ref (a 10)), (1, .int p1), (2, .int p2)] := hl
  have h0c : g0 0 = g0 0 := rfl
  obtain ⟨locs, hlocs⟩ : ∃ q : List Loc, q = [] := ⟨_, rfl⟩
  rw [← hlocs] at hS
  rw [← hlocs]
  refine lv_iconst (v := -1) hx hb dX2_tryGapsOf_0 (by decide) ?_
  refine lv_istore_n (lv' := [(3, .int (-1)), (0, .ref (a 10)), (1, .int p1), (2, .int p2)]) hx hb dX2_tryGapsOf_1 rfl hl (by decide) rfl (fun ls hl => ?_)
  refine lv_iconst (v := 0) hx hb dX2_tryGapsOf_2 (by decide) ?_
  refine lv_istore (lv' := [(4, .int 0), (3, .int (-1)), (0, .ref (a 10)), (1, .int p1), (2, .int p2)]) hx hb dX2_tryGapsOf_3 hl (by decide) rfl (fun ls hl => ?_)
  have lp279 : ∀ fu : Nat, ∀ (x276 : Int32) (x277 : Int32) (g : Nat → Nat → Int32) (L : Nat → Nat → Int64) (H : Heap) (locs : List Loc) (ls : Array Slot), (0 ≤ x277.toInt ∧ x277.toInt ≤ 5) → zI XT g → g 0 = g0 0 → va_P G.1 vwCl (zw G (XS b) 105 a g L) H → va_D A (zw G (XS b) 105 a g L) → va_S A s.heap H locs → lv_has ls 5 [(0, .ref (a 10)), (1, .int p1), (2, .int p2), (3, .int x276), (4, .int x277)] → 5 - x277.toInt < (fu : Int) → W p l e { frames := 16, cells := 0, slots := 0, locals := 341 } s m [.ref (a 10), .int p1, .int p2].toArray below meth c H locs 0 0 (MQ below ((kQv G (S := zS) (fun u => zI XT u.1 ∧ u.1 0 = g0 0) (fun u => zw G (XS b) 105 a u.1 u.2)) A) [.ref (a 10), .int p1, .int p2].toArray s 0 0 A) (F0 m 5 ls []) := by
    intro fu
    induction fu with
    | zero => intro x276 x277 g L H locs ls b278 hI h0c hP hD hS hl hm; exact absurd hm (by omega)
    | succ fu ih =>
      intro x276 x277 g L H locs ls b278 hI h0c hP hD hS hl hm
      have ih280 := ih
      refine lv_iload hx hb dX2_tryGapsOf_5 (lv_at hl 4 rfl) ?_
      refine lv_iconst (v := 4) hx hb dX2_tryGapsOf_7 (by decide) ?_
      refine lv_icmp_gt (x := x277) (y := 4) (tgt := 70) hx hb dX2_tryGapsOf_8 (by decide) (fun c281 => ?_) (fun c281 => ?_)
      ·
        have c281 := icc_lt (m := 4) (n := x277.toInt) (by decide) rfl c281
        exact x_vret C hr hlk hP hD hS (g, L) rfl ⟨hI, h0c⟩ (Nat.le_of_ble_eq_true rfl) (Nat.le_of_ble_eq_true rfl) dX2_tryGapsOf_70
      ·
        have c281 := icc_nlt (m := 4) (n := x277.toInt) (by decide) rfl c281
        refine lv_aload_n hx hb dX2_tryGapsOf_11 rfl (lv_at hl 0 rfl) ?_
        refine x_getr (Or.inl fl_X2_28) C hP (by decide) xs_10 rfl dX2_tryGapsOf_12 ?_
        refine x_getr (Or.inr fl_X2_45) C hP (by decide) xs_6 rfl dX2_tryGapsOf_15 ?_
        refine lv_iload_n hx hb dX2_tryGapsOf_18 rfl (lv_at hl 1 rfl) ?_
        refine lv_iload hx hb dX2_tryGapsOf_19 (lv_at hl 4 rfl) ?_
        refine x_ast (hI.updN rfl) C hP hD hS (by decide) xs_26 (by omega) (by omega) dX2_tryGapsOf_21 (fun g H locs eg hI hP hD hS => ?_)
        have h0c : g 0 = g0 0 := by rw [eg]; exact h0c
        refine lv_aload_n hx hb dX2_tryGapsOf_22 rfl (lv_at hl 0 rfl) ?_
        refine x_getr (Or.inl fl_X2_18) C hP (by decide) xs_10 rfl dX2_tryGapsOf_23 ?_
        refine lv_iload_n hx hb dX2_tryGapsOf_26 rfl (lv_at hl 1 rfl) ?_
        refine x_callNv (rest := []) li_X2_86 C (zX1_runOne_8 l G H.size b a g L hI p1 (by omega)) (kR rfl) hP hD hS 8 1 rfl (zat (by decide) xs_8) rfl hl.1 rfl (Nat.le_of_ble_eq_true rfl) dX2_tryGapsOf_27 (fun u284 H locs hw282 hP hD hS => ?_)
        obtain ⟨g, L⟩ := u284
        obtain ⟨hI, h0n⟩ := hw282
        have h0c : g 0 = g0 0 := h0n.trans h0c
        have hI : zI XT g := hI
        have hP : va_P G.1 vwCl (zw G (XS b) 105 a g L) H := hP
        have hD : va_D A (zw G (XS b) 105 a g L) := hD
        refine lv_aload_n hx hb dX2_tryGapsOf_30 rfl (lv_at hl 0 rfl) ?_
        refine x_getr (Or.inl fl_X2_18) C hP (by decide) xs_10 rfl dX2_tryGapsOf_31 ?_
        refine x_getr (Or.inr fl_X2_92) C hP (by decide) xs_8 rfl dX2_tryGapsOf_34 ?_
        refine lv_iload_n hx hb dX2_tryGapsOf_37 rfl (lv_at hl 1 rfl) ?_
        refine x_ald C hP (by decide) xs_44 (by omega) (by omega) dX2_tryGapsOf_38 (fun x287 e288 => ?_)
        refine lv_iload_n hx hb dX2_tryGapsOf_39 rfl (lv_at hl 3 rfl) ?_
        have J303 : ∀ (x304 : Int32) (g : Nat → Nat → Int32) (L : Nat → Nat → Int64) (H : Heap) (locs : List Loc) (ls : Array Slot), zI XT g → g 0 = g0 0 → va_P G.1 vwCl (zw G (XS b) 105 a g L) H → va_D A (zw G (XS b) 105 a g L) → va_S A s.heap H locs → lv_has ls 5 [(0, .ref (a 10)), (1, .int p1), (2, .int p2), (3, .int x304), (4, .int x277)] → W p l e { frames := 16, cells := 0, slots := 0, locals := 341 } s m [.ref (a 10), .int p1, .int p2].toArray below meth c H locs 0 0 (MQ below ((kQv G (S := zS) (fun u => zI XT u.1 ∧ u.1 0 = g0 0) (fun u => zw G (XS b) 105 a u.1 u.2)) A) [.ref (a 10), .int p1, .int p2].toArray s 0 0 A) (F0 m 64 ls []) := by
          intro x304 g L H locs ls hI h0c hP hD hS hl
          obtain ⟨x305, e306q, e306⟩ : ∃ z : Int32, x277 + Int32.ofInt (1) = z ∧ z.toInt = x277.toInt + (1) := ⟨_, rfl, ic_addc rfl (by decide) (by omega) (by omega)⟩
          refine lv_iinc (v := x305) (lv' := [(4, .int x305), (0, .ref (a 10)), (1, .int p1), (2, .int p2), (3, .int x304)]) hx hb dX2_tryGapsOf_64 hl (k := 4) rfl e306q (by decide) rfl (fun ls hl => ?_)
          refine lv_goto (tgt := 5) hx hb dX2_tryGapsOf_67 (by decide) ?_
          exact ih280 x304 x305 g L H locs ls (by omega) hI h0c hP hD hS (lv_sub hl [1, 2, 3, 4, 0] rfl) (by omega)
        refine lv_icmp_eq (x := x287) (y := x276) (tgt := 64) hx hb dX2_tryGapsOf_40 (by decide) (fun c307 => ?_) (fun c307 => ?_)
        ·
          have c307 := icc_eq (m := x287.toInt) (n := x276.toInt) rfl rfl c307
          exact J303 x276 g L H locs ls hI h0c hP hD hS (lv_sub hl [0, 1, 2, 3, 4] rfl)
        ·
          have c307 := icc_neq (m := x287.toInt) (n := x276.toInt) rfl rfl c307
          refine lv_aload_n hx hb dX2_tryGapsOf_43 rfl (lv_at hl 0 rfl) ?_
          refine x_getr (Or.inl fl_X2_18) C hP (by decide) xs_10 rfl dX2_tryGapsOf_44 ?_
          refine x_getr (Or.inr fl_X2_92) C hP (by decide) xs_8 rfl dX2_tryGapsOf_47 ?_
          refine lv_iload_n hx hb dX2_tryGapsOf_50 rfl (lv_at hl 1 rfl) ?_
          refine x_ald C hP (by decide) xs_44 (by omega) (by omega) dX2_tryGapsOf_51 (fun x308 e309 => ?_)
          refine lv_istore_n (lv' := [(3, .int x308), (0, .ref (a 10)), (1, .int p1), (2, .int p2), (4, .int x277)]) hx hb dX2_tryGapsOf_52 rfl hl (by decide) rfl (fun ls hl => ?_)
          refine lv_aload_n hx hb dX2_tryGapsOf_53 rfl (lv_at hl 1 rfl) ?_
          refine lv_iload_n hx hb dX2_tryGapsOf_54 rfl (lv_at hl 2 rfl) ?_
          refine lv_iconst (v := 1) hx hb dX2_tryGapsOf_55 (by decide) ?_
          refine lv_iadd hx hb dX2_tryGapsOf_56 ?_
          refine x_val (ic_addc (m := p1.toInt) (n := 1) rfl (by decide) (by omega) (by omega)) (fun x310 e311 => ?_)
          refine lv_iload_n hx hb dX2_tryGapsOf_57 rfl (lv_at hl 3 rfl) ?_
          refine lv_iload hx hb dX2_tryGapsOf_58 (lv_at hl 4 rfl) ?_
          refine lv_iadd hx hb dX2_tryGapsOf_60 ?_
          refine x_any (fun x312 => ?_)
          refine x_callVv (rest := []) li_X2_60 C (zX2_tryFrom_10_L3 l G H.size b a g L hI x310 x312 (by omega)) (kR rfl) hP hD hS 10 2 rfl (zat (by decide) xs_10) rfl hl.1 rfl (Nat.le_of_ble_eq_true rfl) dX2_tryGapsOf_61 (fun u315 H locs hw313 hP hD hS => ?_)
          obtain ⟨g, L⟩ := u315
          obtain ⟨hI, h0n⟩ := hw313
          have h0c : g 0 = g0 0 := h0n.trans h0c
          have hI : zI XT g := hI
          have hP : va_P G.1 vwCl (zw G (XS b) 105 a g L) H := hP
          have hD : va_D A (zw G (XS b) 105 a g L) := hD
          exact J303 x308 g L H locs ls hI h0c hP hD hS (lv_sub hl [1, 2, 3, 0, 4] rfl)
  have hc_ : ((-1) : Int32).toInt = (-1) := by decide
  have hc_ : (0 : Int32).toInt = 0 := by decide
  exact lp279 7 (-1) 0 g0 L0 H locs ls (by decide) hI h0c hP hD hS (lv_sub hl [2, 3, 4, 1, 0] rfl) (by omega)
set_option maxHeartbeats 4000000 in
set_option maxRecDepth 100000 in
theorem zX2_tryFrom_10_L4 (l : Launch) (G : kG) (sz : Nat) (b : Nat) (a : Nat → Nat) (g0 : Nat → Nat → Int32) (L0 : Nat → Nat → Int64) (hI : zI XT g0) (p1 : Int32) (p2 : Int32) (hp1 : 8 ≤ p1.toInt ∧ p1.toInt ≤ 12) : kM l yX2_tryFrom cX2_tryFrom 3 none { frames := 17, cells := 0, slots := 0, locals := 365 } G [.ref (a 10), .int p1, .int p2] (zw G (XS b) 105 a g0 L0) sz (kQv G (S := zS) (fun u => zI XT u.1 ∧ u.1 0 = g0 0) (fun u => zw G (XS b) 105 a u.1 u.2)) := by
  refine kM.of (by decide) (Nat.le_of_ble_eq_true rfl) ?_
  intro p e s m below meth c A ls H C hr hlk hnm hP hD hS hl
  have C : kC G p s m c cX2_tryFrom 3 RX2 A := C
  have hx := C.1
  have hb := C.2.1
  have hl : lv_has ls 3 [(0, .ref (a 10)), (1, .int p1), (2, .int p2)] := hl
  have h0c : g0 0 = g0 0 := rfl
  obtain ⟨locs, hlocs⟩ : ∃ q : List Loc, q = [] := ⟨_, rfl⟩
  rw [← hlocs] at hS
  rw [← hlocs]
  refine lv_iload_n hx hb dX2_tryFrom_0 rfl (lv_at hl 2 rfl) ?_
  refine lv_aload_n hx hb dX2_tryFrom_1 rfl (lv_at hl 0 rfl) ?_
  refine x_geti (Or.inl fl_X2_39) C hP (by decide) xs_10 rfl dX2_tryFrom_2 (fun x1 e2 => ?_)
  refine lv_icmp_lt (x := p2) (y := x1) (tgt := 9) hx hb dX2_tryFrom_5 (by decide) (fun c3 => ?_) (fun c3 => ?_)
  ·
    have c3 := icc_lt (m := p2.toInt) (n := x1.toInt) rfl rfl c3
    refine lv_iload_n hx hb dX2_tryFrom_9 rfl (lv_at hl 1 rfl) ?_
    refine lv_aload_n hx hb dX2_tryFrom_10 rfl (lv_at hl 0 rfl) ?_
    refine x_getT hI rfl (Or.inl fl_X2_36) C hP (by decide) xs_10 rfl dX2_tryFrom_11 (fun x4 e5 b6 => ?_)
    have J54 : ∀ (g : Nat → Nat → Int32) (L : Nat → Nat → Int64) (H : Heap) (locs : List Loc) (ls : Array Slot), zI XT g → g 0 = g0 0 → va_P G.1 vwCl (zw G (XS b) 105 a g L) H → va_D A (zw G (XS b) 105 a g L) → va_S A s.heap H locs → lv_has ls 3 [] → W p l e { frames := 17, cells := 0, slots := 0, locals := 365 } s m [.ref (a 10), .int p1, .int p2].toArray below meth c H locs 0 0 (MQ below ((kQv G (S := zS) (fun u => zI XT u.1 ∧ u.1 0 = g0 0) (fun u => zw G (XS b) 105 a u.1 u.2)) A) [.ref (a 10), .int p1, .int p2].toArray s 0 0 A) (F0 m 89 ls []) := by
      intro g L H locs ls hI h0c hP hD hS hl
      exact x_vret C hr hlk hP hD hS (g, L) rfl ⟨hI, h0c⟩ (Nat.le_of_ble_eq_true rfl) (Nat.le_of_ble_eq_true rfl) dX2_tryFrom_89
    refine lv_icmp_gt (x := p1) (y := x4) (tgt := 23) hx hb dX2_tryFrom_14 (by decide) (fun c55 => ?_) (fun c55 => ?_)
    ·
      have c55 := icc_lt (m := x4.toInt) (n := p1.toInt) rfl rfl c55
      refine lv_aload_n hx hb dX2_tryFrom_23 rfl (lv_at hl 0 rfl) ?_
      refine lv_iload_n hx hb dX2_tryFrom_24 rfl (lv_at hl 2 rfl) ?_
      refine x_callVv (rest := []) li_X2_82 C (zX2_takeIfOnTime_10 l G H.size b a g0 L0 hI p2) (kR rfl) hP hD hS 10 2 rfl (zat (by decide) xs_10) rfl hl.1 rfl (Nat.le_of_ble_eq_true rfl) dX2_tryFrom_25 (fun u58 H locs hw56 hP hD hS => ?_)
      obtain ⟨g, L⟩ := u58
      obtain ⟨hI, h0n⟩ := hw56
      have h0c : g 0 = g0 0 := h0n.trans h0c
      have hI : zI XT g := hI
      have hP : va_P G.1 vwCl (zw G (XS b) 105 a g L) H := hP
      have hD : va_D A (zw G (XS b) 105 a g L) := hD
      refine lv_goto (tgt := 89) hx hb dX2_tryFrom_28 (by decide) ?_
      exact J54 g L H locs ls hI h0c hP hD hS (lv_sub hl [] rfl)
    ·
      have c55 := icc_nlt (m := x4.toInt) (n := p1.toInt) rfl rfl c55
      refine lv_iload_n hx hb dX2_tryFrom_17 rfl (lv_at hl 1 rfl) ?_
      refine lv_bipush (v := 12) hx hb dX2_tryFrom_18 (by decide) ?_
      refine lv_icmp_lt (x := p1) (y := 12) (tgt := 31) hx hb dX2_tryFrom_20 (by decide) (fun c61 => ?_) (fun c61 => ?_)
      ·
        have c61 := icc_lt (m := p1.toInt) (n := 12) rfl (by decide) c61
        refine lv_aload_n hx hb dX2_tryFrom_31 rfl (lv_at hl 0 rfl) ?_
        refine x_geti (Or.inl fl_X2_64) C hP (by decide) xs_10 rfl dX2_tryFrom_32 (fun x62 e63 => ?_)
        refine lv_iload_n hx hb dX2_tryFrom_35 rfl (lv_at hl 1 rfl) ?_
        refine x_callSi (rest := []) li_X2_56 C (zX2_isIn l G H.size b a g0 L0 hI x62 p1) (kR rfl) hP hD hS rfl hl.1 rfl (Nat.le_of_ble_eq_true rfl) dX2_tryFrom_36 (fun x65 u66 H locs hw64 hP hD hS => ?_)
        obtain ⟨g, L⟩ := u66
        obtain ⟨hI, h0n, b67⟩ := hw64
        have h0c : g 0 = g0 0 := h0n.trans h0c
        have hI : zI XT g := hI
        have hP : va_P G.1 vwCl (zw G (XS b) 105 a g L) H := hP
        have hD : va_D A (zw G (XS b) 105 a g L) := hD
        refine lv_if_ne (x := x65) (tgt := 53) hx hb dX2_tryFrom_39 (by decide) (fun c69 => ?_) (fun c69 => ?_)
        ·
          have c69 := icc_neq (m := x65.toInt) (n := 0) rfl (by decide) c69
          refine lv_aload_n hx hb dX2_tryFrom_53 rfl (lv_at hl 0 rfl) ?_
          refine x_geti (Or.inl fl_X2_29) C hP (by decide) xs_10 rfl dX2_tryFrom_54 (fun x70 e71 => ?_)
          refine lv_iload_n hx hb dX2_tryFrom_57 rfl (lv_at hl 1 rfl) ?_
          refine x_callSi (rest := []) li_X2_56 C (zX2_isIn l G H.size b a g L hI x70 p1) (kR rfl) hP hD hS rfl hl.1 rfl (Nat.le_of_ble_eq_true rfl) dX2_tryFrom_58 (fun x73 u74 H locs hw72 hP hD hS => ?_)
          obtain ⟨g, L⟩ := u74
          obtain ⟨hI, h0n, b75⟩ := hw72
          have h0c : g 0 = g0 0 := h0n.trans h0c
          have hI : zI XT g := hI
          have hP : va_P G.1 vwCl (zw G (XS b) 105 a g L) H := hP
          have hD : va_D A (zw G (XS b) 105 a g L) := hD
          refine lv_if_ne (x := x73) (tgt := 83) hx hb dX2_tryFrom_61 (by decide) (fun c77 => ?_) (fun c77 => ?_)
          ·
            have c77 := icc_neq (m := x73.toInt) (n := 0) rfl (by decide) c77
            refine lv_aload_n hx hb dX2_tryFrom_83 rfl (lv_at hl 0 rfl) ?_
            refine lv_iload_n hx hb dX2_tryFrom_84 rfl (lv_at hl 1 rfl) ?_
            refine lv_iload_n hx hb dX2_tryFrom_85 rfl (lv_at hl 2 rfl) ?_
            refine x_callVv (rest := []) li_X2_89 C (zX2_tryGapsOf_10_L4 l G H.size b a g L hI p1 p2 (by omega)) (kR rfl) hP hD hS 10 2 rfl (zat (by decide) xs_10) rfl hl.1 rfl (Nat.le_of_ble_eq_true rfl) dX2_tryFrom_86 (fun u80 H locs hw78 hP hD hS => ?_)
            obtain ⟨g, L⟩ := u80
            obtain ⟨hI, h0n⟩ := hw78
            have h0c : g 0 = g0 0 := h0n.trans h0c
            have hI : zI XT g := hI
            have hP : va_P G.1 vwCl (zw G (XS b) 105 a g L) H := hP
            have hD : va_D A (zw G (XS b) 105 a g L) := hD
            exact J54 g L H locs ls hI h0c hP hD hS (lv_sub hl [] rfl)
          ·
            have c77 := icc_eq (m := x73.toInt) (n := 0) rfl (by decide) c77
            refine lv_aload_n hx hb dX2_tryFrom_64 rfl (lv_at hl 0 rfl) ?_
            refine x_getr (Or.inl fl_X2_18) C hP (by decide) xs_10 rfl dX2_tryFrom_65 ?_
            refine lv_iload_n hx hb dX2_tryFrom_68 rfl (lv_at hl 1 rfl) ?_
            refine x_callNv (rest := []) li_X2_86 C (zX1_runOne_8 l G H.size b a g L hI p1 (by omega)) (kR rfl) hP hD hS 8 1 rfl (zat (by decide) xs_8) rfl hl.1 rfl (Nat.le_of_ble_eq_true rfl) dX2_tryFrom_69 (fun u85 H locs hw83 hP hD hS => ?_)
            obtain ⟨g, L⟩ := u85
            obtain ⟨hI, h0n⟩ := hw83
            have h0c : g 0 = g0 0 := h0n.trans h0c
            have hI : zI XT g := hI
            have hP : va_P G.1 vwCl (zw G (XS b) 105 a g L) H := hP
            have hD : va_D A (zw G (XS b) 105 a g L) := hD
            refine lv_aload_n hx hb dX2_tryFrom_72 rfl (lv_at hl 0 rfl) ?_
            refine lv_iload_n hx hb dX2_tryFrom_73 rfl (lv_at hl 1 rfl) ?_
            refine lv_iconst (v := 1) hx hb dX2_tryFrom_74 (by decide) ?_
            refine lv_iadd hx hb dX2_tryFrom_75 ?_
            refine x_val (ic_addc (m := p1.toInt) (n := 1) rfl (by decide) (by omega) (by omega)) (fun x88 e89 => ?_)
            refine lv_iload_n hx hb dX2_tryFrom_76 rfl (lv_at hl 2 rfl) ?_
            refine x_callVv (rest := []) li_X2_60 C (zX2_tryFrom_10_L3 l G H.size b a g L hI x88 p2 (by omega)) (kR rfl) hP hD hS 10 2 rfl (zat (by decide) xs_10) rfl hl.1 rfl (Nat.le_of_ble_eq_true rfl) dX2_tryFrom_77 (fun u92 H locs hw90 hP hD hS => ?_)
            obtain ⟨g, L⟩ := u92
            obtain ⟨hI, h0n⟩ := hw90
            have h0c : g 0 = g0 0 := h0n.trans h0c
            have hI : zI XT g := hI
            have hP : va_P G.1 vwCl (zw G (XS b) 105 a g L) H := hP
            have hD : va_D A (zw G (XS b) 105 a g L) := hD
            refine lv_goto (tgt := 89) hx hb dX2_tryFrom_80 (by decide) ?_
            exact J54 g L H locs ls hI h0c hP hD hS (lv_sub hl [] rfl)
        ·
          have c69 := icc_eq (m := x65.toInt) (n := 0) rfl (by decide) c69
          refine lv_aload_n hx hb dX2_tryFrom_42 rfl (lv_at hl 0 rfl) ?_
          refine lv_iload_n hx hb dX2_tryFrom_43 rfl (lv_at hl 1 rfl) ?_
          refine lv_iconst (v := 1) hx hb dX2_tryFrom_44 (by decide) ?_
          refine lv_iadd hx hb dX2_tryFrom_45 ?_
          refine x_val (ic_addc (m := p1.toInt) (n := 1) rfl (by decide) (by omega) (by omega)) (fun x95 e96 => ?_)
          refine lv_iload_n hx hb dX2_tryFrom_46 rfl (lv_at hl 2 rfl) ?_
          refine x_callVv (rest := []) li_X2_60 C (zX2_tryFrom_10_L3 l G H.size b a g L hI x95 p2 (by omega)) (kR rfl) hP hD hS 10 2 rfl (zat (by decide) xs_10) rfl hl.1 rfl (Nat.le_of_ble_eq_true rfl) dX2_tryFrom_47 (fun u99 H locs hw97 hP hD hS => ?_)
          obtain ⟨g, L⟩ := u99
          obtain ⟨hI, h0n⟩ := hw97
          have h0c : g 0 = g0 0 := h0n.trans h0c
          have hI : zI XT g := hI
          have hP : va_P G.1 vwCl (zw G (XS b) 105 a g L) H := hP
          have hD : va_D A (zw G (XS b) 105 a g L) := hD
          refine lv_goto (tgt := 89) hx hb dX2_tryFrom_50 (by decide) ?_
          exact J54 g L H locs ls hI h0c hP hD hS (lv_sub hl [] rfl)
      ·
        have c61 := icc_nlt (m := p1.toInt) (n := 12) rfl (by decide) c61
        omega
  ·
    have c3 := icc_nlt (m := p2.toInt) (n := x1.toInt) rfl rfl c3
    exact x_vret C hr hlk hP hD hS (g0, L0) rfl ⟨hI, h0c⟩ (Nat.le_of_ble_eq_true rfl) (Nat.le_of_ble_eq_true rfl) dX2_tryFrom_8
set_option maxHeartbeats 4000000 in
set_option maxRecDepth 100000 in
theorem zX2_tryGapsOf_10_L5 (l : Launch) (G : kG) (sz : Nat) (b : Nat) (a : Nat → Nat) (g0 : Nat → Nat → Int32) (L0 : Nat → Nat → Int64) (hI : zI XT g0) (p1 : Int32) (p2 : Int32) (hp1 : 7 ≤ p1.toInt ∧ p1.toInt ≤ 11) : kM l yX2_tryGapsOf cX2_tryGapsOf 5 none { frames := 18, cells := 0, slots := 0, locals := 387 } G [.ref (a 10), .int p1, .int p2] (zw G (XS b) 105 a g0 L0) sz (kQv G (S := zS) (fun u => zI XT u.1 ∧ u.1 0 = g0 0) (fun u => zw G (XS b) 105 a u.1 u.2)) := by
  refine kM.of (by decide) (Nat.le_of_ble_eq_true rfl) ?_
  intro p e s m below meth c A ls H C hr hlk hnm hP hD hS hl
  have C : kC G p s m c cX2_tryGapsOf 5 RX2 A := C
  have hx := C.1
  have hb := C.2.1
  have hl : lv_has ls 5 [(0, .ref (a 10)), (1, .int p1), (2, .int p2)] := hl
  have h0c : g0 0 = g0 0 := rfl
  obtain ⟨locs, hlocs⟩ : ∃ q : List Loc, q = [] := ⟨_, rfl⟩
  rw [← hlocs] at hS
  rw [← hlocs]
  refine lv_iconst (v := -1) hx hb dX2_tryGapsOf_0 (by decide) ?_
  refine lv_istore_n (lv' := [(3, .int (-1)), (0, .ref (a 10)), (1, .int p1), (2, .int p2)]) hx hb dX2_tryGapsOf_1 rfl hl (by decide) rfl (fun ls hl => ?_)
  refine lv_iconst (v := 0) hx hb dX2_tryGapsOf_2 (by decide) ?_
  refine lv_istore (lv' := [(4, .int 0), (3, .int (-1)), (0, .ref (a 10)), (1, .int p1), (2, .int p2)]) hx hb dX2_tryGapsOf_3 hl (by decide) rfl (fun ls hl => ?_)
  have lp279 : ∀ fu : Nat, ∀ (x276 : Int32) (x277 : Int32) (g : Nat → Nat → Int32) (L : Nat → Nat → Int64) (H : Heap) (locs : List Loc) (ls : Array Slot), (0 ≤ x277.toInt ∧ x277.toInt ≤ 5) → zI XT g → g 0 = g0 0 → va_P G.1 vwCl (zw G (XS b) 105 a g L) H → va_D A (zw G (XS b) 105 a g L) → va_S A s.heap H locs → lv_has ls 5 [(0, .ref (a 10)), (1, .int p1), (2, .int p2), (3, .int x276), (4, .int x277)] → 5 - x277.toInt < (fu : Int) → W p l e { frames := 18, cells := 0, slots := 0, locals := 387 } s m [.ref (a 10), .int p1, .int p2].toArray below meth c H locs 0 0 (MQ below ((kQv G (S := zS) (fun u => zI XT u.1 ∧ u.1 0 = g0 0) (fun u => zw G (XS b) 105 a u.1 u.2)) A) [.ref (a 10), .int p1, .int p2].toArray s 0 0 A) (F0 m 5 ls []) := by
    intro fu
    induction fu with
    | zero => intro x276 x277 g L H locs ls b278 hI h0c hP hD hS hl hm; exact absurd hm (by omega)
    | succ fu ih =>
      intro x276 x277 g L H locs ls b278 hI h0c hP hD hS hl hm
      have ih280 := ih
      refine lv_iload hx hb dX2_tryGapsOf_5 (lv_at hl 4 rfl) ?_
      refine lv_iconst (v := 4) hx hb dX2_tryGapsOf_7 (by decide) ?_
      refine lv_icmp_gt (x := x277) (y := 4) (tgt := 70) hx hb dX2_tryGapsOf_8 (by decide) (fun c281 => ?_) (fun c281 => ?_)
      ·
        have c281 := icc_lt (m := 4) (n := x277.toInt) (by decide) rfl c281
        exact x_vret C hr hlk hP hD hS (g, L) rfl ⟨hI, h0c⟩ (Nat.le_of_ble_eq_true rfl) (Nat.le_of_ble_eq_true rfl) dX2_tryGapsOf_70
      ·
        have c281 := icc_nlt (m := 4) (n := x277.toInt) (by decide) rfl c281
        refine lv_aload_n hx hb dX2_tryGapsOf_11 rfl (lv_at hl 0 rfl) ?_
        refine x_getr (Or.inl fl_X2_28) C hP (by decide) xs_10 rfl dX2_tryGapsOf_12 ?_
        refine x_getr (Or.inr fl_X2_45) C hP (by decide) xs_6 rfl dX2_tryGapsOf_15 ?_
        refine lv_iload_n hx hb dX2_tryGapsOf_18 rfl (lv_at hl 1 rfl) ?_
        refine lv_iload hx hb dX2_tryGapsOf_19 (lv_at hl 4 rfl) ?_
        refine x_ast (hI.updN rfl) C hP hD hS (by decide) xs_26 (by omega) (by omega) dX2_tryGapsOf_21 (fun g H locs eg hI hP hD hS => ?_)
        have h0c : g 0 = g0 0 := by rw [eg]; exact h0c
        refine lv_aload_n hx hb dX2_tryGapsOf_22 rfl (lv_at hl 0 rfl) ?_
        refine x_getr (Or.inl fl_X2_18) C hP (by decide) xs_10 rfl dX2_tryGapsOf_23 ?_
        refine lv_iload_n hx hb dX2_tryGapsOf_26 rfl (lv_at hl 1 rfl) ?_
        refine x_callNv (rest := []) li_X2_86 C (zX1_runOne_8 l G H.size b a g L hI p1 (by omega)) (kR rfl) hP hD hS 8 1 rfl (zat (by decide) xs_8) rfl hl.1 rfl (Nat.le_of_ble_eq_true rfl) dX2_tryGapsOf_27 (fun u284 H locs hw282 hP hD hS => ?_)
        obtain ⟨g, L⟩ := u284
        obtain ⟨hI, h0n⟩ := hw282
        have h0c : g 0 = g0 0 := h0n.trans h0c
        have hI : zI XT g := hI
        have hP : va_P G.1 vwCl (zw G (XS b) 105 a g L) H := hP
        have hD : va_D A (zw G (XS b) 105 a g L) := hD
        refine lv_aload_n hx hb dX2_tryGapsOf_30 rfl (lv_at hl 0 rfl) ?_
        refine x_getr (Or.inl fl_X2_18) C hP (by decide) xs_10 rfl dX2_tryGapsOf_31 ?_
        refine x_getr (Or.inr fl_X2_92) C hP (by decide) xs_8 rfl dX2_tryGapsOf_34 ?_
        refine lv_iload_n hx hb dX2_tryGapsOf_37 rfl (lv_at hl 1 rfl) ?_
        refine x_ald C hP (by decide) xs_44 (by omega) (by omega) dX2_tryGapsOf_38 (fun x287 e288 => ?_)
        refine lv_iload_n hx hb dX2_tryGapsOf_39 rfl (lv_at hl 3 rfl) ?_
        have J303 : ∀ (x304 : Int32) (g : Nat → Nat → Int32) (L : Nat → Nat → Int64) (H : Heap) (locs : List Loc) (ls : Array Slot), zI XT g → g 0 = g0 0 → va_P G.1 vwCl (zw G (XS b) 105 a g L) H → va_D A (zw G (XS b) 105 a g L) → va_S A s.heap H locs → lv_has ls 5 [(0, .ref (a 10)), (1, .int p1), (2, .int p2), (3, .int x304), (4, .int x277)] → W p l e { frames := 18, cells := 0, slots := 0, locals := 387 } s m [.ref (a 10), .int p1, .int p2].toArray below meth c H locs 0 0 (MQ below ((kQv G (S := zS) (fun u => zI XT u.1 ∧ u.1 0 = g0 0) (fun u => zw G (XS b) 105 a u.1 u.2)) A) [.ref (a 10), .int p1, .int p2].toArray s 0 0 A) (F0 m 64 ls []) := by
          intro x304 g L H locs ls hI h0c hP hD hS hl
          obtain ⟨x305, e306q, e306⟩ : ∃ z : Int32, x277 + Int32.ofInt (1) = z ∧ z.toInt = x277.toInt + (1) := ⟨_, rfl, ic_addc rfl (by decide) (by omega) (by omega)⟩
          refine lv_iinc (v := x305) (lv' := [(4, .int x305), (0, .ref (a 10)), (1, .int p1), (2, .int p2), (3, .int x304)]) hx hb dX2_tryGapsOf_64 hl (k := 4) rfl e306q (by decide) rfl (fun ls hl => ?_)
          refine lv_goto (tgt := 5) hx hb dX2_tryGapsOf_67 (by decide) ?_
          exact ih280 x304 x305 g L H locs ls (by omega) hI h0c hP hD hS (lv_sub hl [1, 2, 3, 4, 0] rfl) (by omega)
        refine lv_icmp_eq (x := x287) (y := x276) (tgt := 64) hx hb dX2_tryGapsOf_40 (by decide) (fun c307 => ?_) (fun c307 => ?_)
        ·
          have c307 := icc_eq (m := x287.toInt) (n := x276.toInt) rfl rfl c307
          exact J303 x276 g L H locs ls hI h0c hP hD hS (lv_sub hl [0, 1, 2, 3, 4] rfl)
        ·
          have c307 := icc_neq (m := x287.toInt) (n := x276.toInt) rfl rfl c307
          refine lv_aload_n hx hb dX2_tryGapsOf_43 rfl (lv_at hl 0 rfl) ?_
          refine x_getr (Or.inl fl_X2_18) C hP (by decide) xs_10 rfl dX2_tryGapsOf_44 ?_
          refine x_getr (Or.inr fl_X2_92) C hP (by decide) xs_8 rfl dX2_tryGapsOf_47 ?_
          refine lv_iload_n hx hb dX2_tryGapsOf_50 rfl (lv_at hl 1 rfl) ?_
          refine x_ald C hP (by decide) xs_44 (by omega) (by omega) dX2_tryGapsOf_51 (fun x308 e309 => ?_)
          refine lv_istore_n (lv' := [(3, .int x308), (0, .ref (a 10)), (1, .int p1), (2, .int p2), (4, .int x277)]) hx hb dX2_tryGapsOf_52 rfl hl (by decide) rfl (fun ls hl => ?_)
          refine lv_aload_n hx hb dX2_tryGapsOf_53 rfl (lv_at hl 1 rfl) ?_
          refine lv_iload_n hx hb dX2_tryGapsOf_54 rfl (lv_at hl 2 rfl) ?_
          refine lv_iconst (v := 1) hx hb dX2_tryGapsOf_55 (by decide) ?_
          refine lv_iadd hx hb dX2_tryGapsOf_56 ?_
          refine x_val (ic_addc (m := p1.toInt) (n := 1) rfl (by decide) (by omega) (by omega)) (fun x310 e311 => ?_)
          refine lv_iload_n hx hb dX2_tryGapsOf_57 rfl (lv_at hl 3 rfl) ?_
          refine lv_iload hx hb dX2_tryGapsOf_58 (lv_at hl 4 rfl) ?_
          refine lv_iadd hx hb dX2_tryGapsOf_60 ?_
          refine x_any (fun x312 => ?_)
          refine x_callVv (rest := []) li_X2_60 C (zX2_tryFrom_10_L4 l G H.size b a g L hI x310 x312 (by omega)) (kR rfl) hP hD hS 10 2 rfl (zat (by decide) xs_10) rfl hl.1 rfl (Nat.le_of_ble_eq_true rfl) dX2_tryGapsOf_61 (fun u315 H locs hw313 hP hD hS => ?_)
          obtain ⟨g, L⟩ := u315
          obtain ⟨hI, h0n⟩ := hw313
          have h0c : g 0 = g0 0 := h0n.trans h0c
          have hI : zI XT g := hI
          have hP : va_P G.1 vwCl (zw G (XS b) 105 a g L) H := hP
          have hD : va_D A (zw G (XS b) 105 a g L) := hD
          exact J303 x308 g L H locs ls hI h0c hP hD hS (lv_sub hl [1, 2, 3, 0, 4] rfl)
  have hc_ : ((-1) : Int32).toInt = (-1) := by decide
  have hc_ : (0 : Int32).toInt = 0 := by decide
  exact lp279 7 (-1) 0 g0 L0 H locs ls (by decide) hI h0c hP hD hS (lv_sub hl [2, 3, 4, 1, 0] rfl) (by omega)
set_option maxHeartbeats 4000000 in
set_option maxRecDepth 100000 in
theorem zX2_tryFrom_10_L5 (l : Launch) (G : kG) (sz : Nat) (b : Nat) (a : Nat → Nat) (g0 : Nat → Nat → Int32) (L0 : Nat → Nat → Int64) (hI : zI XT g0) (p1 : Int32) (p2 : Int32) (hp1 : 7 ≤ p1.toInt ∧ p1.toInt ≤ 12) : kM l yX2_tryFrom cX2_tryFrom 3 none { frames := 19, cells := 0, slots := 0, locals := 411 } G [.ref (a 10), .int p1, .int p2] (zw G (XS b) 105 a g0 L0) sz (kQv G (S := zS) (fun u => zI XT u.1 ∧ u.1 0 = g0 0) (fun u => zw G (XS b) 105 a u.1 u.2)) := by
  refine kM.of (by decide) (Nat.le_of_ble_eq_true rfl) ?_
  intro p e s m below meth c A ls H C hr hlk hnm hP hD hS hl
  have C : kC G p s m c cX2_tryFrom 3 RX2 A := C
  have hx := C.1
  have hb := C.2.1
  have hl : lv_has ls 3 [(0, .ref (a 10)), (1, .int p1), (2, .int p2)] := hl
  have h0c : g0 0 = g0 0 := rfl
  obtain ⟨locs, hlocs⟩ : ∃ q : List Loc, q = [] := ⟨_, rfl⟩
  rw [← hlocs] at hS
  rw [← hlocs]
  refine lv_iload_n hx hb dX2_tryFrom_0 rfl (lv_at hl 2 rfl) ?_
  refine lv_aload_n hx hb dX2_tryFrom_1 rfl (lv_at hl 0 rfl) ?_
  refine x_geti (Or.inl fl_X2_39) C hP (by decide) xs_10 rfl dX2_tryFrom_2 (fun x1 e2 => ?_)
  refine lv_icmp_lt (x := p2) (y := x1) (tgt := 9) hx hb dX2_tryFrom_5 (by decide) (fun c3 => ?_) (fun c3 => ?_)
  ·
    have c3 := icc_lt (m := p2.toInt) (n := x1.toInt) rfl rfl c3
    refine lv_iload_n hx hb dX2_tryFrom_9 rfl (lv_at hl 1 rfl) ?_
    refine lv_aload_n hx hb dX2_tryFrom_10 rfl (lv_at hl 0 rfl) ?_
    refine x_getT hI rfl (Or.inl fl_X2_36) C hP (by decide) xs_10 rfl dX2_tryFrom_11 (fun x4 e5 b6 => ?_)
    have J54 : ∀ (g : Nat → Nat → Int32) (L : Nat → Nat → Int64) (H : Heap) (locs : List Loc) (ls : Array Slot), zI XT g → g 0 = g0 0 → va_P G.1 vwCl (zw G (XS b) 105 a g L) H → va_D A (zw G (XS b) 105 a g L) → va_S A s.heap H locs → lv_has ls 3 [] → W p l e { frames := 19, cells := 0, slots := 0, locals := 411 } s m [.ref (a 10), .int p1, .int p2].toArray below meth c H locs 0 0 (MQ below ((kQv G (S := zS) (fun u => zI XT u.1 ∧ u.1 0 = g0 0) (fun u => zw G (XS b) 105 a u.1 u.2)) A) [.ref (a 10), .int p1, .int p2].toArray s 0 0 A) (F0 m 89 ls []) := by
      intro g L H locs ls hI h0c hP hD hS hl
      exact x_vret C hr hlk hP hD hS (g, L) rfl ⟨hI, h0c⟩ (Nat.le_of_ble_eq_true rfl) (Nat.le_of_ble_eq_true rfl) dX2_tryFrom_89
    refine lv_icmp_gt (x := p1) (y := x4) (tgt := 23) hx hb dX2_tryFrom_14 (by decide) (fun c55 => ?_) (fun c55 => ?_)
    ·
      have c55 := icc_lt (m := x4.toInt) (n := p1.toInt) rfl rfl c55
      refine lv_aload_n hx hb dX2_tryFrom_23 rfl (lv_at hl 0 rfl) ?_
      refine lv_iload_n hx hb dX2_tryFrom_24 rfl (lv_at hl 2 rfl) ?_
      refine x_callVv (rest := []) li_X2_82 C (zX2_takeIfOnTime_10 l G H.size b a g0 L0 hI p2) (kR rfl) hP hD hS 10 2 rfl (zat (by decide) xs_10) rfl hl.1 rfl (Nat.le_of_ble_eq_true rfl) dX2_tryFrom_25 (fun u58 H locs hw56 hP hD hS => ?_)
      obtain ⟨g, L⟩ := u58
      obtain ⟨hI, h0n⟩ := hw56
      have h0c : g 0 = g0 0 := h0n.trans h0c
      have hI : zI XT g := hI
      have hP : va_P G.1 vwCl (zw G (XS b) 105 a g L) H := hP
      have hD : va_D A (zw G (XS b) 105 a g L) := hD
      refine lv_goto (tgt := 89) hx hb dX2_tryFrom_28 (by decide) ?_
      exact J54 g L H locs ls hI h0c hP hD hS (lv_sub hl [] rfl)
    ·
      have c55 := icc_nlt (m := x4.toInt) (n := p1.toInt) rfl rfl c55
      refine lv_iload_n hx hb dX2_tryFrom_17 rfl (lv_at hl 1 rfl) ?_
      refine lv_bipush (v := 12) hx hb dX2_tryFrom_18 (by decide) ?_
      refine lv_icmp_lt (x := p1) (y := 12) (tgt := 31) hx hb dX2_tryFrom_20 (by decide) (fun c61 => ?_) (fun c61 => ?_)
      ·
        have c61 := icc_lt (m := p1.toInt) (n := 12) rfl (by decide) c61
        refine lv_aload_n hx hb dX2_tryFrom_31 rfl (lv_at hl 0 rfl) ?_
        refine x_geti (Or.inl fl_X2_64) C hP (by decide) xs_10 rfl dX2_tryFrom_32 (fun x62 e63 => ?_)
        refine lv_iload_n hx hb dX2_tryFrom_35 rfl (lv_at hl 1 rfl) ?_
        refine x_callSi (rest := []) li_X2_56 C (zX2_isIn l G H.size b a g0 L0 hI x62 p1) (kR rfl) hP hD hS rfl hl.1 rfl (Nat.le_of_ble_eq_true rfl) dX2_tryFrom_36 (fun x65 u66 H locs hw64 hP hD hS => ?_)
        obtain ⟨g, L⟩ := u66
        obtain ⟨hI, h0n, b67⟩ := hw64
        have h0c : g 0 = g0 0 := h0n.trans h0c
        have hI : zI XT g := hI
        have hP : va_P G.1 vwCl (zw G (XS b) 105 a g L) H := hP
        have hD : va_D A (zw G (XS b) 105 a g L) := hD
        refine lv_if_ne (x := x65) (tgt := 53) hx hb dX2_tryFrom_39 (by decide) (fun c69 => ?_) (fun c69 => ?_)
        ·
          have c69 := icc_neq (m := x65.toInt) (n := 0) rfl (by decide) c69
          refine lv_aload_n hx hb dX2_tryFrom_53 rfl (lv_at hl 0 rfl) ?_
          refine x_geti (Or.inl fl_X2_29) C hP (by decide) xs_10 rfl dX2_tryFrom_54 (fun x70 e71 => ?_)
          refine lv_iload_n hx hb dX2_tryFrom_57 rfl (lv_at hl 1 rfl) ?_
          refine x_callSi (rest := []) li_X2_56 C (zX2_isIn l G H.size b a g L hI x70 p1) (kR rfl) hP hD hS rfl hl.1 rfl (Nat.le_of_ble_eq_true rfl) dX2_tryFrom_58 (fun x73 u74 H locs hw72 hP hD hS => ?_)
          obtain ⟨g, L⟩ := u74
          obtain ⟨hI, h0n, b75⟩ := hw72
          have h0c : g 0 = g0 0 := h0n.trans h0c
          have hI : zI XT g := hI
          have hP : va_P G.1 vwCl (zw G (XS b) 105 a g L) H := hP
          have hD : va_D A (zw G (XS b) 105 a g L) := hD
          refine lv_if_ne (x := x73) (tgt := 83) hx hb dX2_tryFrom_61 (by decide) (fun c77 => ?_) (fun c77 => ?_)
          ·
            have c77 := icc_neq (m := x73.toInt) (n := 0) rfl (by decide) c77
            refine lv_aload_n hx hb dX2_tryFrom_83 rfl (lv_at hl 0 rfl) ?_
            refine lv_iload_n hx hb dX2_tryFrom_84 rfl (lv_at hl 1 rfl) ?_
            refine lv_iload_n hx hb dX2_tryFrom_85 rfl (lv_at hl 2 rfl) ?_
            refine x_callVv (rest := []) li_X2_89 C (zX2_tryGapsOf_10_L5 l G H.size b a g L hI p1 p2 (by omega)) (kR rfl) hP hD hS 10 2 rfl (zat (by decide) xs_10) rfl hl.1 rfl (Nat.le_of_ble_eq_true rfl) dX2_tryFrom_86 (fun u80 H locs hw78 hP hD hS => ?_)
            obtain ⟨g, L⟩ := u80
            obtain ⟨hI, h0n⟩ := hw78
            have h0c : g 0 = g0 0 := h0n.trans h0c
            have hI : zI XT g := hI
            have hP : va_P G.1 vwCl (zw G (XS b) 105 a g L) H := hP
            have hD : va_D A (zw G (XS b) 105 a g L) := hD
            exact J54 g L H locs ls hI h0c hP hD hS (lv_sub hl [] rfl)
          ·
            have c77 := icc_eq (m := x73.toInt) (n := 0) rfl (by decide) c77
            refine lv_aload_n hx hb dX2_tryFrom_64 rfl (lv_at hl 0 rfl) ?_
            refine x_getr (Or.inl fl_X2_18) C hP (by decide) xs_10 rfl dX2_tryFrom_65 ?_
            refine lv_iload_n hx hb dX2_tryFrom_68 rfl (lv_at hl 1 rfl) ?_
            refine x_callNv (rest := []) li_X2_86 C (zX1_runOne_8 l G H.size b a g L hI p1 (by omega)) (kR rfl) hP hD hS 8 1 rfl (zat (by decide) xs_8) rfl hl.1 rfl (Nat.le_of_ble_eq_true rfl) dX2_tryFrom_69 (fun u85 H locs hw83 hP hD hS => ?_)
            obtain ⟨g, L⟩ := u85
            obtain ⟨hI, h0n⟩ := hw83
            have h0c : g 0 = g0 0 := h0n.trans h0c
            have hI : zI XT g := hI
            have hP : va_P G.1 vwCl (zw G (XS b) 105 a g L) H := hP
            have hD : va_D A (zw G (XS b) 105 a g L) := hD
            refine lv_aload_n hx hb dX2_tryFrom_72 rfl (lv_at hl 0 rfl) ?_
            refine lv_iload_n hx hb dX2_tryFrom_73 rfl (lv_at hl 1 rfl) ?_
            refine lv_iconst (v := 1) hx hb dX2_tryFrom_74 (by decide) ?_
            refine lv_iadd hx hb dX2_tryFrom_75 ?_
            refine x_val (ic_addc (m := p1.toInt) (n := 1) rfl (by decide) (by omega) (by omega)) (fun x88 e89 => ?_)
            refine lv_iload_n hx hb dX2_tryFrom_76 rfl (lv_at hl 2 rfl) ?_
            refine x_callVv (rest := []) li_X2_60 C (zX2_tryFrom_10_L4 l G H.size b a g L hI x88 p2 (by omega)) (kR rfl) hP hD hS 10 2 rfl (zat (by decide) xs_10) rfl hl.1 rfl (Nat.le_of_ble_eq_true rfl) dX2_tryFrom_77 (fun u92 H locs hw90 hP hD hS => ?_)
            obtain ⟨g, L⟩ := u92
            obtain ⟨hI, h0n⟩ := hw90
            have h0c : g 0 = g0 0 := h0n.trans h0c
            have hI : zI XT g := hI
            have hP : va_P G.1 vwCl (zw G (XS b) 105 a g L) H := hP
            have hD : va_D A (zw G (XS b) 105 a g L) := hD
            refine lv_goto (tgt := 89) hx hb dX2_tryFrom_80 (by decide) ?_
            exact J54 g L H locs ls hI h0c hP hD hS (lv_sub hl [] rfl)
        ·
          have c69 := icc_eq (m := x65.toInt) (n := 0) rfl (by decide) c69
          refine lv_aload_n hx hb dX2_tryFrom_42 rfl (lv_at hl 0 rfl) ?_
          refine lv_iload_n hx hb dX2_tryFrom_43 rfl (lv_at hl 1 rfl) ?_
          refine lv_iconst (v := 1) hx hb dX2_tryFrom_44 (by decide) ?_
          refine lv_iadd hx hb dX2_tryFrom_45 ?_
          refine x_val (ic_addc (m := p1.toInt) (n := 1) rfl (by decide) (by omega) (by omega)) (fun x95 e96 => ?_)
          refine lv_iload_n hx hb dX2_tryFrom_46 rfl (lv_at hl 2 rfl) ?_
          refine x_callVv (rest := []) li_X2_60 C (zX2_tryFrom_10_L4 l G H.size b a g L hI x95 p2 (by omega)) (kR rfl) hP hD hS 10 2 rfl (zat (by decide) xs_10) rfl hl.1 rfl (Nat.le_of_ble_eq_true rfl) dX2_tryFrom_47 (fun u99 H locs hw97 hP hD hS => ?_)
          obtain ⟨g, L⟩ := u99
          obtain ⟨hI, h0n⟩ := hw97
          have h0c : g 0 = g0 0 := h0n.trans h0c
          have hI : zI XT g := hI
          have hP : va_P G.1 vwCl (zw G (XS b) 105 a g L) H := hP
          have hD : va_D A (zw G (XS b) 105 a g L) := hD
          refine lv_goto (tgt := 89) hx hb dX2_tryFrom_50 (by decide) ?_
          exact J54 g L H locs ls hI h0c hP hD hS (lv_sub hl [] rfl)
      ·
        have c61 := icc_nlt (m := p1.toInt) (n := 12) rfl (by decide) c61
        omega
  ·
    have c3 := icc_nlt (m := p2.toInt) (n := x1.toInt) rfl rfl c3
    exact x_vret C hr hlk hP hD hS (g0, L0) rfl ⟨hI, h0c⟩ (Nat.le_of_ble_eq_true rfl) (Nat.le_of_ble_eq_true rfl) dX2_tryFrom_8
set_option maxHeartbeats 4000000 in
set_option maxRecDepth 100000 in
theorem zX2_tryGapsOf_10_L6 (l : Launch) (G : kG) (sz : Nat) (b : Nat) (a : Nat → Nat) (g0 : Nat → Nat → Int32) (L0 : Nat → Nat → Int64) (hI : zI XT g0) (p1 : Int32) (p2 : Int32) (hp1 : 6 ≤ p1.toInt ∧ p1.toInt ≤ 11) : kM l yX2_tryGapsOf cX2_tryGapsOf 5 none { frames := 20, cells := 0, slots := 0, locals := 433 } G [.ref (a 10), .int p1, .int p2] (zw G (XS b) 105 a g0 L0) sz (kQv G (S := zS) (fun u => zI XT u.1 ∧ u.1 0 = g0 0) (fun u => zw G (XS b) 105 a u.1 u.2)) := by
  refine kM.of (by decide) (Nat.le_of_ble_eq_true rfl) ?_
  intro p e s m below meth c A ls H C hr hlk hnm hP hD hS hl
  have C : kC G p s m c cX2_tryGapsOf 5 RX2 A := C
  have hx := C.1
  have hb := C.2.1
  have hl : lv_has ls 5 [(0, .ref (a 10)), (1, .int p1), (2, .int p2)] := hl
  have h0c : g0 0 = g0 0 := rfl
  obtain ⟨locs, hlocs⟩ : ∃ q : List Loc, q = [] := ⟨_, rfl⟩
  rw [← hlocs] at hS
  rw [← hlocs]
  refine lv_iconst (v := -1) hx hb dX2_tryGapsOf_0 (by decide) ?_
  refine lv_istore_n (lv' := [(3, .int (-1)), (0, .ref (a 10)), (1, .int p1), (2, .int p2)]) hx hb dX2_tryGapsOf_1 rfl hl (by decide) rfl (fun ls hl => ?_)
  refine lv_iconst (v := 0) hx hb dX2_tryGapsOf_2 (by decide) ?_
  refine lv_istore (lv' := [(4, .int 0), (3, .int (-1)), (0, .ref (a 10)), (1, .int p1), (2, .int p2)]) hx hb dX2_tryGapsOf_3 hl (by decide) rfl (fun ls hl => ?_)
  have lp279 : ∀ fu : Nat, ∀ (x276 : Int32) (x277 : Int32) (g : Nat → Nat → Int32) (L : Nat → Nat → Int64) (H : Heap) (locs : List Loc) (ls : Array Slot), (0 ≤ x277.toInt ∧ x277.toInt ≤ 5) → zI XT g → g 0 = g0 0 → va_P G.1 vwCl (zw G (XS b) 105 a g L) H → va_D A (zw G (XS b) 105 a g L) → va_S A s.heap H locs → lv_has ls 5 [(0, .ref (a 10)), (1, .int p1), (2, .int p2), (3, .int x276), (4, .int x277)] → 5 - x277.toInt < (fu : Int) → W p l e { frames := 20, cells := 0, slots := 0, locals := 433 } s m [.ref (a 10), .int p1, .int p2].toArray below meth c H locs 0 0 (MQ below ((kQv G (S := zS) (fun u => zI XT u.1 ∧ u.1 0 = g0 0) (fun u => zw G (XS b) 105 a u.1 u.2)) A) [.ref (a 10), .int p1, .int p2].toArray s 0 0 A) (F0 m 5 ls []) := by
    intro fu
    induction fu with
    | zero => intro x276 x277 g L H locs ls b278 hI h0c hP hD hS hl hm; exact absurd hm (by omega)
    | succ fu ih =>
      intro x276 x277 g L H locs ls b278 hI h0c hP hD hS hl hm
      have ih280 := ih
      refine lv_iload hx hb dX2_tryGapsOf_5 (lv_at hl 4 rfl) ?_
      refine lv_iconst (v := 4) hx hb dX2_tryGapsOf_7 (by decide) ?_
      refine lv_icmp_gt (x := x277) (y := 4) (tgt := 70) hx hb dX2_tryGapsOf_8 (by decide) (fun c281 => ?_) (fun c281 => ?_)
      ·
        have c281 := icc_lt (m := 4) (n := x277.toInt) (by decide) rfl c281
        exact x_vret C hr hlk hP hD hS (g, L) rfl ⟨hI, h0c⟩ (Nat.le_of_ble_eq_true rfl) (Nat.le_of_ble_eq_true rfl) dX2_tryGapsOf_70
      ·
        have c281 := icc_nlt (m := 4) (n := x277.toInt) (by decide) rfl c281
        refine lv_aload_n hx hb dX2_tryGapsOf_11 rfl (lv_at hl 0 rfl) ?_
        refine x_getr (Or.inl fl_X2_28) C hP (by decide) xs_10 rfl dX2_tryGapsOf_12 ?_
        refine x_getr (Or.inr fl_X2_45) C hP (by decide) xs_6 rfl dX2_tryGapsOf_15 ?_
        refine lv_iload_n hx hb dX2_tryGapsOf_18 rfl (lv_at hl 1 rfl) ?_
        refine lv_iload hx hb dX2_tryGapsOf_19 (lv_at hl 4 rfl) ?_
        refine x_ast (hI.updN rfl) C hP hD hS (by decide) xs_26 (by omega) (by omega) dX2_tryGapsOf_21 (fun g H locs eg hI hP hD hS => ?_)
        have h0c : g 0 = g0 0 := by rw [eg]; exact h0c
        refine lv_aload_n hx hb dX2_tryGapsOf_22 rfl (lv_at hl 0 rfl) ?_
        refine x_getr (Or.inl fl_X2_18) C hP (by decide) xs_10 rfl dX2_tryGapsOf_23 ?_
        refine lv_iload_n hx hb dX2_tryGapsOf_26 rfl (lv_at hl 1 rfl) ?_
        refine x_callNv (rest := []) li_X2_86 C (zX1_runOne_8 l G H.size b a g L hI p1 (by omega)) (kR rfl) hP hD hS 8 1 rfl (zat (by decide) xs_8) rfl hl.1 rfl (Nat.le_of_ble_eq_true rfl) dX2_tryGapsOf_27 (fun u284 H locs hw282 hP hD hS => ?_)
        obtain ⟨g, L⟩ := u284
        obtain ⟨hI, h0n⟩ := hw282
        have h0c : g 0 = g0 0 := h0n.trans h0c
        have hI : zI XT g := hI
        have hP : va_P G.1 vwCl (zw G (XS b) 105 a g L) H := hP
        have hD : va_D A (zw G (XS b) 105 a g L) := hD
        refine lv_aload_n hx hb dX2_tryGapsOf_30 rfl (lv_at hl 0 rfl) ?_
        refine x_getr (Or.inl fl_X2_18) C hP (by decide) xs_10 rfl dX2_tryGapsOf_31 ?_
        refine x_getr (Or.inr fl_X2_92) C hP (by decide) xs_8 rfl dX2_tryGapsOf_34 ?_
        refine lv_iload_n hx hb dX2_tryGapsOf_37 rfl (lv_at hl 1 rfl) ?_
        refine x_ald C hP (by decide) xs_44 (by omega) (by omega) dX2_tryGapsOf_38 (fun x287 e288 => ?_)
        refine lv_iload_n hx hb dX2_tryGapsOf_39 rfl (lv_at hl 3 rfl) ?_
        have J303 : ∀ (x304 : Int32) (g : Nat → Nat → Int32) (L : Nat → Nat → Int64) (H : Heap) (locs : List Loc) (ls : Array Slot), zI XT g → g 0 = g0 0 → va_P G.1 vwCl (zw G (XS b) 105 a g L) H → va_D A (zw G (XS b) 105 a g L) → va_S A s.heap H locs → lv_has ls 5 [(0, .ref (a 10)), (1, .int p1), (2, .int p2), (3, .int x304), (4, .int x277)] → W p l e { frames := 20, cells := 0, slots := 0, locals := 433 } s m [.ref (a 10), .int p1, .int p2].toArray below meth c H locs 0 0 (MQ below ((kQv G (S := zS) (fun u => zI XT u.1 ∧ u.1 0 = g0 0) (fun u => zw G (XS b) 105 a u.1 u.2)) A) [.ref (a 10), .int p1, .int p2].toArray s 0 0 A) (F0 m 64 ls []) := by
          intro x304 g L H locs ls hI h0c hP hD hS hl
          obtain ⟨x305, e306q, e306⟩ : ∃ z : Int32, x277 + Int32.ofInt (1) = z ∧ z.toInt = x277.toInt + (1) := ⟨_, rfl, ic_addc rfl (by decide) (by omega) (by omega)⟩
          refine lv_iinc (v := x305) (lv' := [(4, .int x305), (0, .ref (a 10)), (1, .int p1), (2, .int p2), (3, .int x304)]) hx hb dX2_tryGapsOf_64 hl (k := 4) rfl e306q (by decide) rfl (fun ls hl => ?_)
          refine lv_goto (tgt := 5) hx hb dX2_tryGapsOf_67 (by decide) ?_
          exact ih280 x304 x305 g L H locs ls (by omega) hI h0c hP hD hS (lv_sub hl [1, 2, 3, 4, 0] rfl) (by omega)
        refine lv_icmp_eq (x := x287) (y := x276) (tgt := 64) hx hb dX2_tryGapsOf_40 (by decide) (fun c307 => ?_) (fun c307 => ?_)
        ·
          have c307 := icc_eq (m := x287.toInt) (n := x276.toInt) rfl rfl c307
          exact J303 x276 g L H locs ls hI h0c hP hD hS (lv_sub hl [0, 1, 2, 3, 4] rfl)
        ·
          have c307 := icc_neq (m := x287.toInt) (n := x276.toInt) rfl rfl c307
          refine lv_aload_n hx hb dX2_tryGapsOf_43 rfl (lv_at hl 0 rfl) ?_
          refine x_getr (Or.inl fl_X2_18) C hP (by decide) xs_10 rfl dX2_tryGapsOf_44 ?_
          refine x_getr (Or.inr fl_X2_92) C hP (by decide) xs_8 rfl dX2_tryGapsOf_47 ?_
          refine lv_iload_n hx hb dX2_tryGapsOf_50 rfl (lv_at hl 1 rfl) ?_
          refine x_ald C hP (by decide) xs_44 (by omega) (by omega) dX2_tryGapsOf_51 (fun x308 e309 => ?_)
          refine lv_istore_n (lv' := [(3, .int x308), (0, .ref (a 10)), (1, .int p1), (2, .int p2), (4, .int x277)]) hx hb dX2_tryGapsOf_52 rfl hl (by decide) rfl (fun ls hl => ?_)
          refine lv_aload_n hx hb dX2_tryGapsOf_53 rfl (lv_at hl 1 rfl) ?_
          refine lv_iload_n hx hb dX2_tryGapsOf_54 rfl (lv_at hl 2 rfl) ?_
          refine lv_iconst (v := 1) hx hb dX2_tryGapsOf_55 (by decide) ?_
          refine lv_iadd hx hb dX2_tryGapsOf_56 ?_
          refine x_val (ic_addc (m := p1.toInt) (n := 1) rfl (by decide) (by omega) (by omega)) (fun x310 e311 => ?_)
          refine lv_iload_n hx hb dX2_tryGapsOf_57 rfl (lv_at hl 3 rfl) ?_
          refine lv_iload hx hb dX2_tryGapsOf_58 (lv_at hl 4 rfl) ?_
          refine lv_iadd hx hb dX2_tryGapsOf_60 ?_
          refine x_any (fun x312 => ?_)
          refine x_callVv (rest := []) li_X2_60 C (zX2_tryFrom_10_L5 l G H.size b a g L hI x310 x312 (by omega)) (kR rfl) hP hD hS 10 2 rfl (zat (by decide) xs_10) rfl hl.1 rfl (Nat.le_of_ble_eq_true rfl) dX2_tryGapsOf_61 (fun u315 H locs hw313 hP hD hS => ?_)
          obtain ⟨g, L⟩ := u315
          obtain ⟨hI, h0n⟩ := hw313
          have h0c : g 0 = g0 0 := h0n.trans h0c
          have hI : zI XT g := hI
          have hP : va_P G.1 vwCl (zw G (XS b) 105 a g L) H := hP
          have hD : va_D A (zw G (XS b) 105 a g L) := hD
          exact J303 x308 g L H locs ls hI h0c hP hD hS (lv_sub hl [1, 2, 3, 0, 4] rfl)
  have hc_ : ((-1) : Int32).toInt = (-1) := by decide
  have hc_ : (0 : Int32).toInt = 0 := by decide
  exact lp279 7 (-1) 0 g0 L0 H locs ls (by decide) hI h0c hP hD hS (lv_sub hl [2, 3, 4, 1, 0] rfl) (by omega)
set_option maxHeartbeats 4000000 in
set_option maxRecDepth 100000 in
theorem zX2_tryFrom_10_L6 (l : Launch) (G : kG) (sz : Nat) (b : Nat) (a : Nat → Nat) (g0 : Nat → Nat → Int32) (L0 : Nat → Nat → Int64) (hI : zI XT g0) (p1 : Int32) (p2 : Int32) (hp1 : 6 ≤ p1.toInt ∧ p1.toInt ≤ 12) : kM l yX2_tryFrom cX2_tryFrom 3 none { frames := 21, cells := 0, slots := 0, locals := 457 } G [.ref (a 10), .int p1, .int p2] (zw G (XS b) 105 a g0 L0) sz (kQv G (S := zS) (fun u => zI XT u.1 ∧ u.1 0 = g0 0) (fun u => zw G (XS b) 105 a u.1 u.2)) := by
  refine kM.of (by decide) (Nat.le_of_ble_eq_true rfl) ?_
  intro p e s m below meth c A ls H C hr hlk hnm hP hD hS hl
  have C : kC G p s m c cX2_tryFrom 3 RX2 A := C
  have hx := C.1
  have hb := C.2.1
  have hl : lv_has ls 3 [(0, .ref (a 10)), (1, .int p1), (2, .int p2)] := hl
  have h0c : g0 0 = g0 0 := rfl
  obtain ⟨locs, hlocs⟩ : ∃ q : List Loc, q = [] := ⟨_, rfl⟩
  rw [← hlocs] at hS
  rw [← hlocs]
  refine lv_iload_n hx hb dX2_tryFrom_0 rfl (lv_at hl 2 rfl) ?_
  refine lv_aload_n hx hb dX2_tryFrom_1 rfl (lv_at hl 0 rfl) ?_
  refine x_geti (Or.inl fl_X2_39) C hP (by decide) xs_10 rfl dX2_tryFrom_2 (fun x1 e2 => ?_)
  refine lv_icmp_lt (x := p2) (y := x1) (tgt := 9) hx hb dX2_tryFrom_5 (by decide) (fun c3 => ?_) (fun c3 => ?_)
  ·
    have c3 := icc_lt (m := p2.toInt) (n := x1.toInt) rfl rfl c3
    refine lv_iload_n hx hb dX2_tryFrom_9 rfl (lv_at hl 1 rfl) ?_
    refine lv_aload_n hx hb dX2_tryFrom_10 rfl (lv_at hl 0 rfl) ?_
    refine x_getT hI rfl (Or.inl fl_X2_36) C hP (by decide) xs_10 rfl dX2_tryFrom_11 (fun x4 e5 b6 => ?_)
    have J54 : ∀ (g : Nat → Nat → Int32) (L : Nat → Nat → Int64) (H : Heap) (locs : List Loc) (ls : Array Slot), zI XT g → g 0 = g0 0 → va_P G.1 vwCl (zw G (XS b) 105 a g L) H → va_D A (zw G (XS b) 105 a g L) → va_S A s.heap H locs → lv_has ls 3 [] → W p l e { frames := 21, cells := 0, slots := 0, locals := 457 } s m [.ref (a 10), .int p1, .int p2].toArray below meth c H locs 0 0 (MQ below ((kQv G (S := zS) (fun u => zI XT u.1 ∧ u.1 0 = g0 0) (fun u => zw G (XS b) 105 a u.1 u.2)) A) [.ref (a 10), .int p1, .int p2].toArray s 0 0 A) (F0 m 89 ls []) := by
      intro g L H locs ls hI h0c hP hD hS hl
      exact x_vret C hr hlk hP hD hS (g, L) rfl ⟨hI, h0c⟩ (Nat.le_of_ble_eq_true rfl) (Nat.le_of_ble_eq_true rfl) dX2_tryFrom_89
    refine lv_icmp_gt (x := p1) (y := x4) (tgt := 23) hx hb dX2_tryFrom_14 (by decide) (fun c55 => ?_) (fun c55 => ?_)
    ·
      have c55 := icc_lt (m := x4.toInt) (n := p1.toInt) rfl rfl c55
      refine lv_aload_n hx hb dX2_tryFrom_23 rfl (lv_at hl 0 rfl) ?_
      refine lv_iload_n hx hb dX2_tryFrom_24 rfl (lv_at hl 2 rfl) ?_
      refine x_callVv (rest := []) li_X2_82 C (zX2_takeIfOnTime_10 l G H.size b a g0 L0 hI p2) (kR rfl) hP hD hS 10 2 rfl (zat (by decide) xs_10) rfl hl.1 rfl (Nat.le_of_ble_eq_true rfl) dX2_tryFrom_25 (fun u58 H locs hw56 hP hD hS => ?_)
      obtain ⟨g, L⟩ := u58
      obtain ⟨hI, h0n⟩ := hw56
      have h0c : g 0 = g0 0 := h0n.trans h0c
      have hI : zI XT g := hI
      have hP : va_P G.1 vwCl (zw G (XS b) 105 a g L) H := hP
      have hD : va_D A (zw G (XS b) 105 a g L) := hD
      refine lv_goto (tgt := 89) hx hb dX2_tryFrom_28 (by decide) ?_
      exact J54 g L H locs ls hI h0c hP hD hS (lv_sub hl [] rfl)
    ·
      have c55 := icc_nlt (m := x4.toInt) (n := p1.toInt) rfl rfl c55
      refine lv_iload_n hx hb dX2_tryFrom_17 rfl (lv_at hl 1 rfl) ?_
      refine lv_bipush (v := 12) hx hb dX2_tryFrom_18 (by decide) ?_
      refine lv_icmp_lt (x := p1) (y := 12) (tgt := 31) hx hb dX2_tryFrom_20 (by decide) (fun c61 => ?_) (fun c61 => ?_)
      ·
        have c61 := icc_lt (m := p1.toInt) (n := 12) rfl (by decide) c61
        refine lv_aload_n hx hb dX2_tryFrom_31 rfl (lv_at hl 0 rfl) ?_
        refine x_geti (Or.inl fl_X2_64) C hP (by decide) xs_10 rfl dX2_tryFrom_32 (fun x62 e63 => ?_)
        refine lv_iload_n hx hb dX2_tryFrom_35 rfl (lv_at hl 1 rfl) ?_
        refine x_callSi (rest := []) li_X2_56 C (zX2_isIn l G H.size b a g0 L0 hI x62 p1) (kR rfl) hP hD hS rfl hl.1 rfl (Nat.le_of_ble_eq_true rfl) dX2_tryFrom_36 (fun x65 u66 H locs hw64 hP hD hS => ?_)
        obtain ⟨g, L⟩ := u66
        obtain ⟨hI, h0n, b67⟩ := hw64
        have h0c : g 0 = g0 0 := h0n.trans h0c
        have hI : zI XT g := hI
        have hP : va_P G.1 vwCl (zw G (XS b) 105 a g L) H := hP
        have hD : va_D A (zw G (XS b) 105 a g L) := hD
        refine lv_if_ne (x := x65) (tgt := 53) hx hb dX2_tryFrom_39 (by decide) (fun c69 => ?_) (fun c69 => ?_)
        ·
          have c69 := icc_neq (m := x65.toInt) (n := 0) rfl (by decide) c69
          refine lv_aload_n hx hb dX2_tryFrom_53 rfl (lv_at hl 0 rfl) ?_
          refine x_geti (Or.inl fl_X2_29) C hP (by decide) xs_10 rfl dX2_tryFrom_54 (fun x70 e71 => ?_)
          refine lv_iload_n hx hb dX2_tryFrom_57 rfl (lv_at hl 1 rfl) ?_
          refine x_callSi (rest := []) li_X2_56 C (zX2_isIn l G H.size b a g L hI x70 p1) (kR rfl) hP hD hS rfl hl.1 rfl (Nat.le_of_ble_eq_true rfl) dX2_tryFrom_58 (fun x73 u74 H locs hw72 hP hD hS => ?_)
          obtain ⟨g, L⟩ := u74
          obtain ⟨hI, h0n, b75⟩ := hw72
          have h0c : g 0 = g0 0 := h0n.trans h0c
          have hI : zI XT g := hI
          have hP : va_P G.1 vwCl (zw G (XS b) 105 a g L) H := hP
          have hD : va_D A (zw G (XS b) 105 a g L) := hD
          refine lv_if_ne (x := x73) (tgt := 83) hx hb dX2_tryFrom_61 (by decide) (fun c77 => ?_) (fun c77 => ?_)
          ·
            have c77 := icc_neq (m := x73.toInt) (n := 0) rfl (by decide) c77
            refine lv_aload_n hx hb dX2_tryFrom_83 rfl (lv_at hl 0 rfl) ?_
            refine lv_iload_n hx hb dX2_tryFrom_84 rfl (lv_at hl 1 rfl) ?_
            refine lv_iload_n hx hb dX2_tryFrom_85 rfl (lv_at hl 2 rfl) ?_
            refine x_callVv (rest := []) li_X2_89 C (zX2_tryGapsOf_10_L6 l G H.size b a g L hI p1 p2 (by omega)) (kR rfl) hP hD hS 10 2 rfl (zat (by decide) xs_10) rfl hl.1 rfl (Nat.le_of_ble_eq_true rfl) dX2_tryFrom_86 (fun u80 H locs hw78 hP hD hS => ?_)
            obtain ⟨g, L⟩ := u80
            obtain ⟨hI, h0n⟩ := hw78
            have h0c : g 0 = g0 0 := h0n.trans h0c
            have hI : zI XT g := hI
            have hP : va_P G.1 vwCl (zw G (XS b) 105 a g L) H := hP
            have hD : va_D A (zw G (XS b) 105 a g L) := hD
            exact J54 g L H locs ls hI h0c hP hD hS (lv_sub hl [] rfl)
          ·
            have c77 := icc_eq (m := x73.toInt) (n := 0) rfl (by decide) c77
            refine lv_aload_n hx hb dX2_tryFrom_64 rfl (lv_at hl 0 rfl) ?_
            refine x_getr (Or.inl fl_X2_18) C hP (by decide) xs_10 rfl dX2_tryFrom_65 ?_
            refine lv_iload_n hx hb dX2_tryFrom_68 rfl (lv_at hl 1 rfl) ?_
            refine x_callNv (rest := []) li_X2_86 C (zX1_runOne_8 l G H.size b a g L hI p1 (by omega)) (kR rfl) hP hD hS 8 1 rfl (zat (by decide) xs_8) rfl hl.1 rfl (Nat.le_of_ble_eq_true rfl) dX2_tryFrom_69 (fun u85 H locs hw83 hP hD hS => ?_)
            obtain ⟨g, L⟩ := u85
            obtain ⟨hI, h0n⟩ := hw83
            have h0c : g 0 = g0 0 := h0n.trans h0c
            have hI : zI XT g := hI
            have hP : va_P G.1 vwCl (zw G (XS b) 105 a g L) H := hP
            have hD : va_D A (zw G (XS b) 105 a g L) := hD
            refine lv_aload_n hx hb dX2_tryFrom_72 rfl (lv_at hl 0 rfl) ?_
            refine lv_iload_n hx hb dX2_tryFrom_73 rfl (lv_at hl 1 rfl) ?_
            refine lv_iconst (v := 1) hx hb dX2_tryFrom_74 (by decide) ?_
            refine lv_iadd hx hb dX2_tryFrom_75 ?_
            refine x_val (ic_addc (m := p1.toInt) (n := 1) rfl (by decide) (by omega) (by omega)) (fun x88 e89 => ?_)
            refine lv_iload_n hx hb dX2_tryFrom_76 rfl (lv_at hl 2 rfl) ?_
            refine x_callVv (rest := []) li_X2_60 C (zX2_tryFrom_10_L5 l G H.size b a g L hI x88 p2 (by omega)) (kR rfl) hP hD hS 10 2 rfl (zat (by decide) xs_10) rfl hl.1 rfl (Nat.le_of_ble_eq_true rfl) dX2_tryFrom_77 (fun u92 H locs hw90 hP hD hS => ?_)
            obtain ⟨g, L⟩ := u92
            obtain ⟨hI, h0n⟩ := hw90
            have h0c : g 0 = g0 0 := h0n.trans h0c
            have hI : zI XT g := hI
            have hP : va_P G.1 vwCl (zw G (XS b) 105 a g L) H := hP
            have hD : va_D A (zw G (XS b) 105 a g L) := hD
            refine lv_goto (tgt := 89) hx hb dX2_tryFrom_80 (by decide) ?_
            exact J54 g L H locs ls hI h0c hP hD hS (lv_sub hl [] rfl)
        ·
          have c69 := icc_eq (m := x65.toInt) (n := 0) rfl (by decide) c69
          refine lv_aload_n hx hb dX2_tryFrom_42 rfl (lv_at hl 0 rfl) ?_
          refine lv_iload_n hx hb dX2_tryFrom_43 rfl (lv_at hl 1 rfl) ?_
          refine lv_iconst (v := 1) hx hb dX2_tryFrom_44 (by decide) ?_
          refine lv_iadd hx hb dX2_tryFrom_45 ?_
          refine x_val (ic_addc (m := p1.toInt) (n := 1) rfl (by decide) (by omega) (by omega)) (fun x95 e96 => ?_)
          refine lv_iload_n hx hb dX2_tryFrom_46 rfl (lv_at hl 2 rfl) ?_
          refine x_callVv (rest := []) li_X2_60 C (zX2_tryFrom_10_L5 l G H.size b a g L hI x95 p2 (by omega)) (kR rfl) hP hD hS 10 2 rfl (zat (by decide) xs_10) rfl hl.1 rfl (Nat.le_of_ble_eq_true rfl) dX2_tryFrom_47 (fun u99 H locs hw97 hP hD hS => ?_)
          obtain ⟨g, L⟩ := u99
          obtain ⟨hI, h0n⟩ := hw97
          have h0c : g 0 = g0 0 := h0n.trans h0c
          have hI : zI XT g := hI
          have hP : va_P G.1 vwCl (zw G (XS b) 105 a g L) H := hP
          have hD : va_D A (zw G (XS b) 105 a g L) := hD
          refine lv_goto (tgt := 89) hx hb dX2_tryFrom_50 (by decide) ?_
          exact J54 g L H locs ls hI h0c hP hD hS (lv_sub hl [] rfl)
      ·
        have c61 := icc_nlt (m := p1.toInt) (n := 12) rfl (by decide) c61
        omega
  ·
    have c3 := icc_nlt (m := p2.toInt) (n := x1.toInt) rfl rfl c3
    exact x_vret C hr hlk hP hD hS (g0, L0) rfl ⟨hI, h0c⟩ (Nat.le_of_ble_eq_true rfl) (Nat.le_of_ble_eq_true rfl) dX2_tryFrom_8
set_option maxHeartbeats 4000000 in
set_option maxRecDepth 100000 in
theorem zX2_tryGapsOf_10_L7 (l : Launch) (G : kG) (sz : Nat) (b : Nat) (a : Nat → Nat) (g0 : Nat → Nat → Int32) (L0 : Nat → Nat → Int64) (hI : zI XT g0) (p1 : Int32) (p2 : Int32) (hp1 : 5 ≤ p1.toInt ∧ p1.toInt ≤ 11) : kM l yX2_tryGapsOf cX2_tryGapsOf 5 none { frames := 22, cells := 0, slots := 0, locals := 479 } G [.ref (a 10), .int p1, .int p2] (zw G (XS b) 105 a g0 L0) sz (kQv G (S := zS) (fun u => zI XT u.1 ∧ u.1 0 = g0 0) (fun u => zw G (XS b) 105 a u.1 u.2)) := by
  refine kM.of (by decide) (Nat.le_of_ble_eq_true rfl) ?_
  intro p e s m below meth c A ls H C hr hlk hnm hP hD hS hl
  have C : kC G p s m c cX2_tryGapsOf 5 RX2 A := C
  have hx := C.1
  have hb := C.2.1
  have hl : lv_has ls 5 [(0, .ref (a 10)), (1, .int p1), (2, .int p2)] := hl
  have h0c : g0 0 = g0 0 := rfl
  obtain ⟨locs, hlocs⟩ : ∃ q : List Loc, q = [] := ⟨_, rfl⟩
  rw [← hlocs] at hS
  rw [← hlocs]
  refine lv_iconst (v := -1) hx hb dX2_tryGapsOf_0 (by decide) ?_
  refine lv_istore_n (lv' := [(3, .int (-1)), (0, .ref (a 10)), (1, .int p1), (2, .int p2)]) hx hb dX2_tryGapsOf_1 rfl hl (by decide) rfl (fun ls hl => ?_)
  refine lv_iconst (v := 0) hx hb dX2_tryGapsOf_2 (by decide) ?_
  refine lv_istore (lv' := [(4, .int 0), (3, .int (-1)), (0, .ref (a 10)), (1, .int p1), (2, .int p2)]) hx hb dX2_tryGapsOf_3 hl (by decide) rfl (fun ls hl => ?_)
  have lp279 : ∀ fu : Nat, ∀ (x276 : Int32) (x277 : Int32) (g : Nat → Nat → Int32) (L : Nat → Nat → Int64) (H : Heap) (locs : List Loc) (ls : Array Slot), (0 ≤ x277.toInt ∧ x277.toInt ≤ 5) → zI XT g → g 0 = g0 0 → va_P G.1 vwCl (zw G (XS b) 105 a g L) H → va_D A (zw G (XS b) 105 a g L) → va_S A s.heap H locs → lv_has ls 5 [(0, .ref (a 10)), (1, .int p1), (2, .int p2), (3, .int x276), (4, .int x277)] → 5 - x277.toInt < (fu : Int) → W p l e { frames := 22, cells := 0, slots := 0, locals := 479 } s m [.ref (a 10), .int p1, .int p2].toArray below meth c H locs 0 0 (MQ below ((kQv G (S := zS) (fun u => zI XT u.1 ∧ u.1 0 = g0 0) (fun u => zw G (XS b) 105 a u.1 u.2)) A) [.ref (a 10), .int p1, .int p2].toArray s 0 0 A) (F0 m 5 ls []) := by
    intro fu
    induction fu with
    | zero => intro x276 x277 g L H locs ls b278 hI h0c hP hD hS hl hm; exact absurd hm (by omega)
    | succ fu ih =>
      intro x276 x277 g L H locs ls b278 hI h0c hP hD hS hl hm
      have ih280 := ih
      refine lv_iload hx hb dX2_tryGapsOf_5 (lv_at hl 4 rfl) ?_
      refine lv_iconst (v := 4) hx hb dX2_tryGapsOf_7 (by decide) ?_
      refine lv_icmp_gt (x := x277) (y := 4) (tgt := 70) hx hb dX2_tryGapsOf_8 (by decide) (fun c281 => ?_) (fun c281 => ?_)
      ·
        have c281 := icc_lt (m := 4) (n := x277.toInt) (by decide) rfl c281
        exact x_vret C hr hlk hP hD hS (g, L) rfl ⟨hI, h0c⟩ (Nat.le_of_ble_eq_true rfl) (Nat.le_of_ble_eq_true rfl) dX2_tryGapsOf_70
      ·
        have c281 := icc_nlt (m := 4) (n := x277.toInt) (by decide) rfl c281
        refine lv_aload_n hx hb dX2_tryGapsOf_11 rfl (lv_at hl 0 rfl) ?_
        refine x_getr (Or.inl fl_X2_28) C hP (by decide) xs_10 rfl dX2_tryGapsOf_12 ?_
        refine x_getr (Or.inr fl_X2_45) C hP (by decide) xs_6 rfl dX2_tryGapsOf_15 ?_
        refine lv_iload_n hx hb dX2_tryGapsOf_18 rfl (lv_at hl 1 rfl) ?_
        refine lv_iload hx hb dX2_tryGapsOf_19 (lv_at hl 4 rfl) ?_
        refine x_ast (hI.updN rfl) C hP hD hS (by decide) xs_26 (by omega) (by omega) dX2_tryGapsOf_21 (fun g H locs eg hI hP hD hS => ?_)
        have h0c : g 0 = g0 0 := by rw [eg]; exact h0c
        refine lv_aload_n hx hb dX2_tryGapsOf_22 rfl (lv_at hl 0 rfl) ?_
        refine x_getr (Or.inl fl_X2_18) C hP (by decide) xs_10 rfl dX2_tryGapsOf_23 ?_
        refine lv_iload_n hx hb dX2_tryGapsOf_26 rfl (lv_at hl 1 rfl) ?_
        refine x_callNv (rest := []) li_X2_86 C (zX1_runOne_8 l G H.size b a g L hI p1 (by omega)) (kR rfl) hP hD hS 8 1 rfl (zat (by decide) xs_8) rfl hl.1 rfl (Nat.le_of_ble_eq_true rfl) dX2_tryGapsOf_27 (fun u284 H locs hw282 hP hD hS => ?_)
        obtain ⟨g, L⟩ := u284
        obtain ⟨hI, h0n⟩ := hw282
        have h0c : g 0 = g0 0 := h0n.trans h0c
        have hI : zI XT g := hI
        have hP : va_P G.1 vwCl (zw G (XS b) 105 a g L) H := hP
        have hD : va_D A (zw G (XS b) 105 a g L) := hD
        refine lv_aload_n hx hb dX2_tryGapsOf_30 rfl (lv_at hl 0 rfl) ?_
        refine x_getr (Or.inl fl_X2_18) C hP (by decide) xs_10 rfl dX2_tryGapsOf_31 ?_
        refine x_getr (Or.inr fl_X2_92) C hP (by decide) xs_8 rfl dX2_tryGapsOf_34 ?_
        refine lv_iload_n hx hb dX2_tryGapsOf_37 rfl (lv_at hl 1 rfl) ?_
        refine x_ald C hP (by decide) xs_44 (by omega) (by omega) dX2_tryGapsOf_38 (fun x287 e288 => ?_)
        refine lv_iload_n hx hb dX2_tryGapsOf_39 rfl (lv_at hl 3 rfl) ?_
        have J303 : ∀ (x304 : Int32) (g : Nat → Nat → Int32) (L : Nat → Nat → Int64) (H : Heap) (locs : List Loc) (ls : Array Slot), zI XT g → g 0 = g0 0 → va_P G.1 vwCl (zw G (XS b) 105 a g L) H → va_D A (zw G (XS b) 105 a g L) → va_S A s.heap H locs → lv_has ls 5 [(0, .ref (a 10)), (1, .int p1), (2, .int p2), (3, .int x304), (4, .int x277)] → W p l e { frames := 22, cells := 0, slots := 0, locals := 479 } s m [.ref (a 10), .int p1, .int p2].toArray below meth c H locs 0 0 (MQ below ((kQv G (S := zS) (fun u => zI XT u.1 ∧ u.1 0 = g0 0) (fun u => zw G (XS b) 105 a u.1 u.2)) A) [.ref (a 10), .int p1, .int p2].toArray s 0 0 A) (F0 m 64 ls []) := by
          intro x304 g L H locs ls hI h0c hP hD hS hl
          obtain ⟨x305, e306q, e306⟩ : ∃ z : Int32, x277 + Int32.ofInt (1) = z ∧ z.toInt = x277.toInt + (1) := ⟨_, rfl, ic_addc rfl (by decide) (by omega) (by omega)⟩
          refine lv_iinc (v := x305) (lv' := [(4, .int x305), (0, .ref (a 10)), (1, .int p1), (2, .int p2), (3, .int x304)]) hx hb dX2_tryGapsOf_64 hl (k := 4) rfl e306q (by decide) rfl (fun ls hl => ?_)
          refine lv_goto (tgt := 5) hx hb dX2_tryGapsOf_67 (by decide) ?_
          exact ih280 x304 x305 g L H locs ls (by omega) hI h0c hP hD hS (lv_sub hl [1, 2, 3, 4, 0] rfl) (by omega)
        refine lv_icmp_eq (x := x287) (y := x276) (tgt := 64) hx hb dX2_tryGapsOf_40 (by decide) (fun c307 => ?_) (fun c307 => ?_)
        ·
          have c307 := icc_eq (m := x287.toInt) (n := x276.toInt) rfl rfl c307
          exact J303 x276 g L H locs ls hI h0c hP hD hS (lv_sub hl [0, 1, 2, 3, 4] rfl)
        ·
          have c307 := icc_neq (m := x287.toInt) (n := x276.toInt) rfl rfl c307
          refine lv_aload_n hx hb dX2_tryGapsOf_43 rfl (lv_at hl 0 rfl) ?_
          refine x_getr (Or.inl fl_X2_18) C hP (by decide) xs_10 rfl dX2_tryGapsOf_44 ?_
          refine x_getr (Or.inr fl_X2_92) C hP (by decide) xs_8 rfl dX2_tryGapsOf_47 ?_
          refine lv_iload_n hx hb dX2_tryGapsOf_50 rfl (lv_at hl 1 rfl) ?_
          refine x_ald C hP (by decide) xs_44 (by omega) (by omega) dX2_tryGapsOf_51 (fun x308 e309 => ?_)
          refine lv_istore_n (lv' := [(3, .int x308), (0, .ref (a 10)), (1, .int p1), (2, .int p2), (4, .int x277)]) hx hb dX2_tryGapsOf_52 rfl hl (by decide) rfl (fun ls hl => ?_)
          refine lv_aload_n hx hb dX2_tryGapsOf_53 rfl (lv_at hl 1 rfl) ?_
          refine lv_iload_n hx hb dX2_tryGapsOf_54 rfl (lv_at hl 2 rfl) ?_
          refine lv_iconst (v := 1) hx hb dX2_tryGapsOf_55 (by decide) ?_
          refine lv_iadd hx hb dX2_tryGapsOf_56 ?_
          refine x_val (ic_addc (m := p1.toInt) (n := 1) rfl (by decide) (by omega) (by omega)) (fun x310 e311 => ?_)
          refine lv_iload_n hx hb dX2_tryGapsOf_57 rfl (lv_at hl 3 rfl) ?_
          refine lv_iload hx hb dX2_tryGapsOf_58 (lv_at hl 4 rfl) ?_
          refine lv_iadd hx hb dX2_tryGapsOf_60 ?_
          refine x_any (fun x312 => ?_)
          refine x_callVv (rest := []) li_X2_60 C (zX2_tryFrom_10_L6 l G H.size b a g L hI x310 x312 (by omega)) (kR rfl) hP hD hS 10 2 rfl (zat (by decide) xs_10) rfl hl.1 rfl (Nat.le_of_ble_eq_true rfl) dX2_tryGapsOf_61 (fun u315 H locs hw313 hP hD hS => ?_)
          obtain ⟨g, L⟩ := u315
          obtain ⟨hI, h0n⟩ := hw313
          have h0c : g 0 = g0 0 := h0n.trans h0c
          have hI : zI XT g := hI
          have hP : va_P G.1 vwCl (zw G (XS b) 105 a g L) H := hP
          have hD : va_D A (zw G (XS b) 105 a g L) := hD
          exact J303 x308 g L H locs ls hI h0c hP hD hS (lv_sub hl [1, 2, 3, 0, 4] rfl)
  have hc_ : ((-1) : Int32).toInt = (-1) := by decide
  have hc_ : (0 : Int32).toInt = 0 := by decide
  exact lp279 7 (-1) 0 g0 L0 H locs ls (by decide) hI h0c hP hD hS (lv_sub hl [2, 3, 4, 1, 0] rfl) (by omega)
set_option maxHeartbeats 4000000 in
set_option maxRecDepth 100000 in
theorem zX2_tryFrom_10_L7 (l : Launch) (G : kG) (sz : Nat) (b : Nat) (a : Nat → Nat) (g0 : Nat → Nat → Int32) (L0 : Nat → Nat → Int64) (hI : zI XT g0) (p1 : Int32) (p2 : Int32) (hp1 : 5 ≤ p1.toInt ∧ p1.toInt ≤ 12) : kM l yX2_tryFrom cX2_tryFrom 3 none { frames := 23, cells := 0, slots := 0, locals := 503 } G [.ref (a 10), .int p1, .int p2] (zw G (XS b) 105 a g0 L0) sz (kQv G (S := zS) (fun u => zI XT u.1 ∧ u.1 0 = g0 0) (fun u => zw G (XS b) 105 a u.1 u.2)) := by
  refine kM.of (by decide) (Nat.le_of_ble_eq_true rfl) ?_
  intro p e s m below meth c A ls H C hr hlk hnm hP hD hS hl
  have C : kC G p s m c cX2_tryFrom 3 RX2 A := C
  have hx := C.1
  have hb := C.2.1
  have hl : lv_has ls 3 [(0, .ref (a 10)), (1, .int p1), (2, .int p2)] := hl
  have h0c : g0 0 = g0 0 := rfl
  obtain ⟨locs, hlocs⟩ : ∃ q : List Loc, q = [] := ⟨_, rfl⟩
  rw [← hlocs] at hS
  rw [← hlocs]
  refine lv_iload_n hx hb dX2_tryFrom_0 rfl (lv_at hl 2 rfl) ?_
  refine lv_aload_n hx hb dX2_tryFrom_1 rfl (lv_at hl 0 rfl) ?_
  refine x_geti (Or.inl fl_X2_39) C hP (by decide) xs_10 rfl dX2_tryFrom_2 (fun x1 e2 => ?_)
  refine lv_icmp_lt (x := p2) (y := x1) (tgt := 9) hx hb dX2_tryFrom_5 (by decide) (fun c3 => ?_) (fun c3 => ?_)
  ·
    have c3 := icc_lt (m := p2.toInt) (n := x1.toInt) rfl rfl c3
    refine lv_iload_n hx hb dX2_tryFrom_9 rfl (lv_at hl 1 rfl) ?_
    refine lv_aload_n hx hb dX2_tryFrom_10 rfl (lv_at hl 0 rfl) ?_
    refine x_getT hI rfl (Or.inl fl_X2_36) C hP (by decide) xs_10 rfl dX2_tryFrom_11 (fun x4 e5 b6 => ?_)
    have J54 : ∀ (g : Nat → Nat → Int32) (L : Nat → Nat → Int64) (H : Heap) (locs : List Loc) (ls : Array Slot), zI XT g → g 0 = g0 0 → va_P G.1 vwCl (zw G (XS b) 105 a g L) H → va_D A (zw G (XS b) 105 a g L) → va_S A s.heap H locs → lv_has ls 3 [] → W p l e { frames := 23, cells := 0, slots := 0, locals := 503 } s m [.ref (a 10), .int p1, .int p2].toArray below meth c H locs 0 0 (MQ below ((kQv G (S := zS) (fun u => zI XT u.1 ∧ u.1 0 = g0 0) (fun u => zw G (XS b) 105 a u.1 u.2)) A) [.ref (a 10), .int p1, .int p2].toArray s 0 0 A) (F0 m 89 ls []) := by
      intro g L H locs ls hI h0c hP hD hS hl
      exact x_vret C hr hlk hP hD hS (g, L) rfl ⟨hI, h0c⟩ (Nat.le_of_ble_eq_true rfl) (Nat.le_of_ble_eq_true rfl) dX2_tryFrom_89
    refine lv_icmp_gt (x := p1) (y := x4) (tgt := 23) hx hb dX2_tryFrom_14 (by decide) (fun c55 => ?_) (fun c55 => ?_)
    ·
      have c55 := icc_lt (m := x4.toInt) (n := p1.toInt) rfl rfl c55
      refine lv_aload_n hx hb dX2_tryFrom_23 rfl (lv_at hl 0 rfl) ?_
      refine lv_iload_n hx hb dX2_tryFrom_24 rfl (lv_at hl 2 rfl) ?_
      refine x_callVv (rest := []) li_X2_82 C (zX2_takeIfOnTime_10 l G H.size b a g0 L0 hI p2) (kR rfl) hP hD hS 10 2 rfl (zat (by decide) xs_10) rfl hl.1 rfl (Nat.le_of_ble_eq_true rfl) dX2_tryFrom_25 (fun u58 H locs hw56 hP hD hS => ?_)
      obtain ⟨g, L⟩ := u58
      obtain ⟨hI, h0n⟩ := hw56
      have h0c : g 0 = g0 0 := h0n.trans h0c
      have hI : zI XT g := hI
      have hP : va_P G.1 vwCl (zw G (XS b) 105 a g L) H := hP
      have hD : va_D A (zw G (XS b) 105 a g L) := hD
      refine lv_goto (tgt := 89) hx hb dX2_tryFrom_28 (by decide) ?_
      exact J54 g L H locs ls hI h0c hP hD hS (lv_sub hl [] rfl)
    ·
      have c55 := icc_nlt (m := x4.toInt) (n := p1.toInt) rfl rfl c55
      refine lv_iload_n hx hb dX2_tryFrom_17 rfl (lv_at hl 1 rfl) ?_
      refine lv_bipush (v := 12) hx hb dX2_tryFrom_18 (by decide) ?_
      refine lv_icmp_lt (x := p1) (y := 12) (tgt := 31) hx hb dX2_tryFrom_20 (by decide) (fun c61 => ?_) (fun c61 => ?_)
      ·
        have c61 := icc_lt (m := p1.toInt) (n := 12) rfl (by decide) c61
        refine lv_aload_n hx hb dX2_tryFrom_31 rfl (lv_at hl 0 rfl) ?_
        refine x_geti (Or.inl fl_X2_64) C hP (by decide) xs_10 rfl dX2_tryFrom_32 (fun x62 e63 => ?_)
        refine lv_iload_n hx hb dX2_tryFrom_35 rfl (lv_at hl 1 rfl) ?_
        refine x_callSi (rest := []) li_X2_56 C (zX2_isIn l G H.size b a g0 L0 hI x62 p1) (kR rfl) hP hD hS rfl hl.1 rfl (Nat.le_of_ble_eq_true rfl) dX2_tryFrom_36 (fun x65 u66 H locs hw64 hP hD hS => ?_)
        obtain ⟨g, L⟩ := u66
        obtain ⟨hI, h0n, b67⟩ := hw64
        have h0c : g 0 = g0 0 := h0n.trans h0c
        have hI : zI XT g := hI
        have hP : va_P G.1 vwCl (zw G (XS b) 105 a g L) H := hP
        have hD : va_D A (zw G (XS b) 105 a g L) := hD
        refine lv_if_ne (x := x65) (tgt := 53) hx hb dX2_tryFrom_39 (by decide) (fun c69 => ?_) (fun c69 => ?_)
        ·
          have c69 := icc_neq (m := x65.toInt) (n := 0) rfl (by decide) c69
          refine lv_aload_n hx hb dX2_tryFrom_53 rfl (lv_at hl 0 rfl) ?_
          refine x_geti (Or.inl fl_X2_29) C hP (by decide) xs_10 rfl dX2_tryFrom_54 (fun x70 e71 => ?_)
          refine lv_iload_n hx hb dX2_tryFrom_57 rfl (lv_at hl 1 rfl) ?_
          refine x_callSi (rest := []) li_X2_56 C (zX2_isIn l G H.size b a g L hI x70 p1) (kR rfl) hP hD hS rfl hl.1 rfl (Nat.le_of_ble_eq_true rfl) dX2_tryFrom_58 (fun x73 u74 H locs hw72 hP hD hS => ?_)
          obtain ⟨g, L⟩ := u74
          obtain ⟨hI, h0n, b75⟩ := hw72
          have h0c : g 0 = g0 0 := h0n.trans h0c
          have hI : zI XT g := hI
          have hP : va_P G.1 vwCl (zw G (XS b) 105 a g L) H := hP
          have hD : va_D A (zw G (XS b) 105 a g L) := hD
          refine lv_if_ne (x := x73) (tgt := 83) hx hb dX2_tryFrom_61 (by decide) (fun c77 => ?_) (fun c77 => ?_)
          ·
            have c77 := icc_neq (m := x73.toInt) (n := 0) rfl (by decide) c77
            refine lv_aload_n hx hb dX2_tryFrom_83 rfl (lv_at hl 0 rfl) ?_
            refine lv_iload_n hx hb dX2_tryFrom_84 rfl (lv_at hl 1 rfl) ?_
            refine lv_iload_n hx hb dX2_tryFrom_85 rfl (lv_at hl 2 rfl) ?_
            refine x_callVv (rest := []) li_X2_89 C (zX2_tryGapsOf_10_L7 l G H.size b a g L hI p1 p2 (by omega)) (kR rfl) hP hD hS 10 2 rfl (zat (by decide) xs_10) rfl hl.1 rfl (Nat.le_of_ble_eq_true rfl) dX2_tryFrom_86 (fun u80 H locs hw78 hP hD hS => ?_)
            obtain ⟨g, L⟩ := u80
            obtain ⟨hI, h0n⟩ := hw78
            have h0c : g 0 = g0 0 := h0n.trans h0c
            have hI : zI XT g := hI
            have hP : va_P G.1 vwCl (zw G (XS b) 105 a g L) H := hP
            have hD : va_D A (zw G (XS b) 105 a g L) := hD
            exact J54 g L H locs ls hI h0c hP hD hS (lv_sub hl [] rfl)
          ·
            have c77 := icc_eq (m := x73.toInt) (n := 0) rfl (by decide) c77
            refine lv_aload_n hx hb dX2_tryFrom_64 rfl (lv_at hl 0 rfl) ?_
            refine x_getr (Or.inl fl_X2_18) C hP (by decide) xs_10 rfl dX2_tryFrom_65 ?_
            refine lv_iload_n hx hb dX2_tryFrom_68 rfl (lv_at hl 1 rfl) ?_
            refine x_callNv (rest := []) li_X2_86 C (zX1_runOne_8 l G H.size b a g L hI p1 (by omega)) (kR rfl) hP hD hS 8 1 rfl (zat (by decide) xs_8) rfl hl.1 rfl (Nat.le_of_ble_eq_true rfl) dX2_tryFrom_69 (fun u85 H locs hw83 hP hD hS => ?_)
            obtain ⟨g, L⟩ := u85
            obtain ⟨hI, h0n⟩ := hw83
            have h0c : g 0 = g0 0 := h0n.trans h0c
            have hI : zI XT g := hI
            have hP : va_P G.1 vwCl (zw G (XS b) 105 a g L) H := hP
            have hD : va_D A (zw G (XS b) 105 a g L) := hD
            refine lv_aload_n hx hb dX2_tryFrom_72 rfl (lv_at hl 0 rfl) ?_
            refine lv_iload_n hx hb dX2_tryFrom_73 rfl (lv_at hl 1 rfl) ?_
            refine lv_iconst (v := 1) hx hb dX2_tryFrom_74 (by decide) ?_
            refine lv_iadd hx hb dX2_tryFrom_75 ?_
            refine x_val (ic_addc (m := p1.toInt) (n := 1) rfl (by decide) (by omega) (by omega)) (fun x88 e89 => ?_)
            refine lv_iload_n hx hb dX2_tryFrom_76 rfl (lv_at hl 2 rfl) ?_
            refine x_callVv (rest := []) li_X2_60 C (zX2_tryFrom_10_L6 l G H.size b a g L hI x88 p2 (by omega)) (kR rfl) hP hD hS 10 2 rfl (zat (by decide) xs_10) rfl hl.1 rfl (Nat.le_of_ble_eq_true rfl) dX2_tryFrom_77 (fun u92 H locs hw90 hP hD hS => ?_)
            obtain ⟨g, L⟩ := u92
            obtain ⟨hI, h0n⟩ := hw90
            have h0c : g 0 = g0 0 := h0n.trans h0c
            have hI : zI XT g := hI
            have hP : va_P G.1 vwCl (zw G (XS b) 105 a g L) H := hP
            have hD : va_D A (zw G (XS b) 105 a g L) := hD
            refine lv_goto (tgt := 89) hx hb dX2_tryFrom_80 (by decide) ?_
            exact J54 g L H locs ls hI h0c hP hD hS (lv_sub hl [] rfl)
        ·
          have c69 := icc_eq (m := x65.toInt) (n := 0) rfl (by decide) c69
          refine lv_aload_n hx hb dX2_tryFrom_42 rfl (lv_at hl 0 rfl) ?_
          refine lv_iload_n hx hb dX2_tryFrom_43 rfl (lv_at hl 1 rfl) ?_
          refine lv_iconst (v := 1) hx hb dX2_tryFrom_44 (by decide) ?_
          refine lv_iadd hx hb dX2_tryFrom_45 ?_
          refine x_val (ic_addc (m := p1.toInt) (n := 1) rfl (by decide) (by omega) (by omega)) (fun x95 e96 => ?_)
          refine lv_iload_n hx hb dX2_tryFrom_46 rfl (lv_at hl 2 rfl) ?_
          refine x_callVv (rest := []) li_X2_60 C (zX2_tryFrom_10_L6 l G H.size b a g L hI x95 p2 (by omega)) (kR rfl) hP hD hS 10 2 rfl (zat (by decide) xs_10) rfl hl.1 rfl (Nat.le_of_ble_eq_true rfl) dX2_tryFrom_47 (fun u99 H locs hw97 hP hD hS => ?_)
          obtain ⟨g, L⟩ := u99
          obtain ⟨hI, h0n⟩ := hw97
          have h0c : g 0 = g0 0 := h0n.trans h0c
          have hI : zI XT g := hI
          have hP : va_P G.1 vwCl (zw G (XS b) 105 a g L) H := hP
          have hD : va_D A (zw G (XS b) 105 a g L) := hD
          refine lv_goto (tgt := 89) hx hb dX2_tryFrom_50 (by decide) ?_
          exact J54 g L H locs ls hI h0c hP hD hS (lv_sub hl [] rfl)
      ·
        have c61 := icc_nlt (m := p1.toInt) (n := 12) rfl (by decide) c61
        omega
  ·
    have c3 := icc_nlt (m := p2.toInt) (n := x1.toInt) rfl rfl c3
    exact x_vret C hr hlk hP hD hS (g0, L0) rfl ⟨hI, h0c⟩ (Nat.le_of_ble_eq_true rfl) (Nat.le_of_ble_eq_true rfl) dX2_tryFrom_8
set_option maxHeartbeats 4000000 in
set_option maxRecDepth 100000 in
theorem zX2_tryGapsOf_10_L8 (l : Launch) (G : kG) (sz : Nat) (b : Nat) (a : Nat → Nat) (g0 : Nat → Nat → Int32) (L0 : Nat → Nat → Int64) (hI : zI XT g0) (p1 : Int32) (p2 : Int32) (hp1 : 4 ≤ p1.toInt ∧ p1.toInt ≤ 11) : kM l yX2_tryGapsOf cX2_tryGapsOf 5 none { frames := 24, cells := 0, slots := 0, locals := 525 } G [.ref (a 10), .int p1, .int p2] (zw G (XS b) 105 a g0 L0) sz (kQv G (S := zS) (fun u => zI XT u.1 ∧ u.1 0 = g0 0) (fun u => zw G (XS b) 105 a u.1 u.2)) := by
  refine kM.of (by decide) (Nat.le_of_ble_eq_true rfl) ?_
  intro p e s m below meth c A ls H C hr hlk hnm hP hD hS hl
  have C : kC G p s m c cX2_tryGapsOf 5 RX2 A := C
  have hx := C.1
  have hb := C.2.1
  have hl : lv_has ls 5 [(0, .ref (a 10)), (1, .int p1), (2, .int p2)] := hl
  have h0c : g0 0 = g0 0 := rfl
  obtain ⟨locs, hlocs⟩ : ∃ q : List Loc, q = [] := ⟨_, rfl⟩
  rw [← hlocs] at hS
  rw [← hlocs]
  refine lv_iconst (v := -1) hx hb dX2_tryGapsOf_0 (by decide) ?_
  refine lv_istore_n (lv' := [(3, .int (-1)), (0, .ref (a 10)), (1, .int p1), (2, .int p2)]) hx hb dX2_tryGapsOf_1 rfl hl (by decide) rfl (fun ls hl => ?_)
  refine lv_iconst (v := 0) hx hb dX2_tryGapsOf_2 (by decide) ?_
  refine lv_istore (lv' := [(4, .int 0), (3, .int (-1)), (0, .ref (a 10)), (1, .int p1), (2, .int p2)]) hx hb dX2_tryGapsOf_3 hl (by decide) rfl (fun ls hl => ?_)
  have lp279 : ∀ fu : Nat, ∀ (x276 : Int32) (x277 : Int32) (g : Nat → Nat → Int32) (L : Nat → Nat → Int64) (H : Heap) (locs : List Loc) (ls : Array Slot), (0 ≤ x277.toInt ∧ x277.toInt ≤ 5) → zI XT g → g 0 = g0 0 → va_P G.1 vwCl (zw G (XS b) 105 a g L) H → va_D A (zw G (XS b) 105 a g L) → va_S A s.heap H locs → lv_has ls 5 [(0, .ref (a 10)), (1, .int p1), (2, .int p2), (3, .int x276), (4, .int x277)] → 5 - x277.toInt < (fu : Int) → W p l e { frames := 24, cells := 0, slots := 0, locals := 525 } s m [.ref (a 10), .int p1, .int p2].toArray below meth c H locs 0 0 (MQ below ((kQv G (S := zS) (fun u => zI XT u.1 ∧ u.1 0 = g0 0) (fun u => zw G (XS b) 105 a u.1 u.2)) A) [.ref (a 10), .int p1, .int p2].toArray s 0 0 A) (F0 m 5 ls []) := by
    intro fu
    induction fu with
    | zero => intro x276 x277 g L H locs ls b278 hI h0c hP hD hS hl hm; exact absurd hm (by omega)
    | succ fu ih =>
      intro x276 x277 g L H locs ls b278 hI h0c hP hD hS hl hm
      have ih280 := ih
      refine lv_iload hx hb dX2_tryGapsOf_5 (lv_at hl 4 rfl) ?_
      refine lv_iconst (v := 4) hx hb dX2_tryGapsOf_7 (by decide) ?_
      refine lv_icmp_gt (x := x277) (y := 4) (tgt := 70) hx hb dX2_tryGapsOf_8 (by decide) (fun c281 => ?_) (fun c281 => ?_)
      ·
        have c281 := icc_lt (m := 4) (n := x277.toInt) (by decide) rfl c281
        exact x_vret C hr hlk hP hD hS (g, L) rfl ⟨hI, h0c⟩ (Nat.le_of_ble_eq_true rfl) (Nat.le_of_ble_eq_true rfl) dX2_tryGapsOf_70
      ·
        have c281 := icc_nlt (m := 4) (n := x277.toInt) (by decide) rfl c281
        refine lv_aload_n hx hb dX2_tryGapsOf_11 rfl (lv_at hl 0 rfl) ?_
        refine x_getr (Or.inl fl_X2_28) C hP (by decide) xs_10 rfl dX2_tryGapsOf_12 ?_
        refine x_getr (Or.inr fl_X2_45) C hP (by decide) xs_6 rfl dX2_tryGapsOf_15 ?_
        refine lv_iload_n hx hb dX2_tryGapsOf_18 rfl (lv_at hl 1 rfl) ?_
        refine lv_iload hx hb dX2_tryGapsOf_19 (lv_at hl 4 rfl) ?_
        refine x_ast (hI.updN rfl) C hP hD hS (by decide) xs_26 (by omega) (by omega) dX2_tryGapsOf_21 (fun g H locs eg hI hP hD hS => ?_)
        have h0c : g 0 = g0 0 := by rw [eg]; exact h0c
        refine lv_aload_n hx hb dX2_tryGapsOf_22 rfl (lv_at hl 0 rfl) ?_
        refine x_getr (Or.inl fl_X2_18) C hP (by decide) xs_10 rfl dX2_tryGapsOf_23 ?_
        refine lv_iload_n hx hb dX2_tryGapsOf_26 rfl (lv_at hl 1 rfl) ?_
        refine x_callNv (rest := []) li_X2_86 C (zX1_runOne_8 l G H.size b a g L hI p1 (by omega)) (kR rfl) hP hD hS 8 1 rfl (zat (by decide) xs_8) rfl hl.1 rfl (Nat.le_of_ble_eq_true rfl) dX2_tryGapsOf_27 (fun u284 H locs hw282 hP hD hS => ?_)
        obtain ⟨g, L⟩ := u284
        obtain ⟨hI, h0n⟩ := hw282
        have h0c : g 0 = g0 0 := h0n.trans h0c
        have hI : zI XT g := hI
        have hP : va_P G.1 vwCl (zw G (XS b) 105 a g L) H := hP
        have hD : va_D A (zw G (XS b) 105 a g L) := hD
        refine lv_aload_n hx hb dX2_tryGapsOf_30 rfl (lv_at hl 0 rfl) ?_
        refine x_getr (Or.inl fl_X2_18) C hP (by decide) xs_10 rfl dX2_tryGapsOf_31 ?_
        refine x_getr (Or.inr fl_X2_92) C hP (by decide) xs_8 rfl dX2_tryGapsOf_34 ?_
        refine lv_iload_n hx hb dX2_tryGapsOf_37 rfl (lv_at hl 1 rfl) ?_
        refine x_ald C hP (by decide) xs_44 (by omega) (by omega) dX2_tryGapsOf_38 (fun x287 e288 => ?_)
        refine lv_iload_n hx hb dX2_tryGapsOf_39 rfl (lv_at hl 3 rfl) ?_
        have J303 : ∀ (x304 : Int32) (g : Nat → Nat → Int32) (L : Nat → Nat → Int64) (H : Heap) (locs : List Loc) (ls : Array Slot), zI XT g → g 0 = g0 0 → va_P G.1 vwCl (zw G (XS b) 105 a g L) H → va_D A (zw G (XS b) 105 a g L) → va_S A s.heap H locs → lv_has ls 5 [(0, .ref (a 10)), (1, .int p1), (2, .int p2), (3, .int x304), (4, .int x277)] → W p l e { frames := 24, cells := 0, slots := 0, locals := 525 } s m [.ref (a 10), .int p1, .int p2].toArray below meth c H locs 0 0 (MQ below ((kQv G (S := zS) (fun u => zI XT u.1 ∧ u.1 0 = g0 0) (fun u => zw G (XS b) 105 a u.1 u.2)) A) [.ref (a 10), .int p1, .int p2].toArray s 0 0 A) (F0 m 64 ls []) := by
          intro x304 g L H locs ls hI h0c hP hD hS hl
          obtain ⟨x305, e306q, e306⟩ : ∃ z : Int32, x277 + Int32.ofInt (1) = z ∧ z.toInt = x277.toInt + (1) := ⟨_, rfl, ic_addc rfl (by decide) (by omega) (by omega)⟩
          refine lv_iinc (v := x305) (lv' := [(4, .int x305), (0, .ref (a 10)), (1, .int p1), (2, .int p2), (3, .int x304)]) hx hb dX2_tryGapsOf_64 hl (k := 4) rfl e306q (by decide) rfl (fun ls hl => ?_)
          refine lv_goto (tgt := 5) hx hb dX2_tryGapsOf_67 (by decide) ?_
          exact ih280 x304 x305 g L H locs ls (by omega) hI h0c hP hD hS (lv_sub hl [1, 2, 3, 4, 0] rfl) (by omega)
        refine lv_icmp_eq (x := x287) (y := x276) (tgt := 64) hx hb dX2_tryGapsOf_40 (by decide) (fun c307 => ?_) (fun c307 => ?_)
        ·
          have c307 := icc_eq (m := x287.toInt) (n := x276.toInt) rfl rfl c307
          exact J303 x276 g L H locs ls hI h0c hP hD hS (lv_sub hl [0, 1, 2, 3, 4] rfl)
        ·
          have c307 := icc_neq (m := x287.toInt) (n := x276.toInt) rfl rfl c307
          refine lv_aload_n hx hb dX2_tryGapsOf_43 rfl (lv_at hl 0 rfl) ?_
          refine x_getr (Or.inl fl_X2_18) C hP (by decide) xs_10 rfl dX2_tryGapsOf_44 ?_
          refine x_getr (Or.inr fl_X2_92) C hP (by decide) xs_8 rfl dX2_tryGapsOf_47 ?_
          refine lv_iload_n hx hb dX2_tryGapsOf_50 rfl (lv_at hl 1 rfl) ?_
          refine x_ald C hP (by decide) xs_44 (by omega) (by omega) dX2_tryGapsOf_51 (fun x308 e309 => ?_)
          refine lv_istore_n (lv' := [(3, .int x308), (0, .ref (a 10)), (1, .int p1), (2, .int p2), (4, .int x277)]) hx hb dX2_tryGapsOf_52 rfl hl (by decide) rfl (fun ls hl => ?_)
          refine lv_aload_n hx hb dX2_tryGapsOf_53 rfl (lv_at hl 1 rfl) ?_
          refine lv_iload_n hx hb dX2_tryGapsOf_54 rfl (lv_at hl 2 rfl) ?_
          refine lv_iconst (v := 1) hx hb dX2_tryGapsOf_55 (by decide) ?_
          refine lv_iadd hx hb dX2_tryGapsOf_56 ?_
          refine x_val (ic_addc (m := p1.toInt) (n := 1) rfl (by decide) (by omega) (by omega)) (fun x310 e311 => ?_)
          refine lv_iload_n hx hb dX2_tryGapsOf_57 rfl (lv_at hl 3 rfl) ?_
          refine lv_iload hx hb dX2_tryGapsOf_58 (lv_at hl 4 rfl) ?_
          refine lv_iadd hx hb dX2_tryGapsOf_60 ?_
          refine x_any (fun x312 => ?_)
          refine x_callVv (rest := []) li_X2_60 C (zX2_tryFrom_10_L7 l G H.size b a g L hI x310 x312 (by omega)) (kR rfl) hP hD hS 10 2 rfl (zat (by decide) xs_10) rfl hl.1 rfl (Nat.le_of_ble_eq_true rfl) dX2_tryGapsOf_61 (fun u315 H locs hw313 hP hD hS => ?_)
          obtain ⟨g, L⟩ := u315
          obtain ⟨hI, h0n⟩ := hw313
          have h0c : g 0 = g0 0 := h0n.trans h0c
          have hI : zI XT g := hI
          have hP : va_P G.1 vwCl (zw G (XS b) 105 a g L) H := hP
          have hD : va_D A (zw G (XS b) 105 a g L) := hD
          exact J303 x308 g L H locs ls hI h0c hP hD hS (lv_sub hl [1, 2, 3, 0, 4] rfl)
  have hc_ : ((-1) : Int32).toInt = (-1) := by decide
  have hc_ : (0 : Int32).toInt = 0 := by decide
  exact lp279 7 (-1) 0 g0 L0 H locs ls (by decide) hI h0c hP hD hS (lv_sub hl [2, 3, 4, 1, 0] rfl) (by omega)
set_option maxHeartbeats 4000000 in
set_option maxRecDepth 100000 in
theorem zX2_tryFrom_10_L8 (l : Launch) (G : kG) (sz : Nat) (b : Nat) (a : Nat → Nat) (g0 : Nat → Nat → Int32) (L0 : Nat → Nat → Int64) (hI : zI XT g0) (p1 : Int32) (p2 : Int32) (hp1 : 4 ≤ p1.toInt ∧ p1.toInt ≤ 12) : kM l yX2_tryFrom cX2_tryFrom 3 none { frames := 25, cells := 0, slots := 0, locals := 549 } G [.ref (a 10), .int p1, .int p2] (zw G (XS b) 105 a g0 L0) sz (kQv G (S := zS) (fun u => zI XT u.1 ∧ u.1 0 = g0 0) (fun u => zw G (XS b) 105 a u.1 u.2)) := by
  refine kM.of (by decide) (Nat.le_of_ble_eq_true rfl) ?_
  intro p e s m below meth c A ls H C hr hlk hnm hP hD hS hl
  have C : kC G p s m c cX2_tryFrom 3 RX2 A := C
  have hx := C.1
  have hb := C.2.1
  have hl : lv_has ls 3 [(0, .ref (a 10)), (1, .int p1), (2, .int p2)] := hl
  have h0c : g0 0 = g0 0 := rfl
  obtain ⟨locs, hlocs⟩ : ∃ q : List Loc, q = [] := ⟨_, rfl⟩
  rw [← hlocs] at hS
  rw [← hlocs]
  refine lv_iload_n hx hb dX2_tryFrom_0 rfl (lv_at hl 2 rfl) ?_
  refine lv_aload_n hx hb dX2_tryFrom_1 rfl (lv_at hl 0 rfl) ?_
  refine x_geti (Or.inl fl_X2_39) C hP (by decide) xs_10 rfl dX2_tryFrom_2 (fun x1 e2 => ?_)
  refine lv_icmp_lt (x := p2) (y := x1) (tgt := 9) hx hb dX2_tryFrom_5 (by decide) (fun c3 => ?_) (fun c3 => ?_)
  ·
    have c3 := icc_lt (m := p2.toInt) (n := x1.toInt) rfl rfl c3
    refine lv_iload_n hx hb dX2_tryFrom_9 rfl (lv_at hl 1 rfl) ?_
    refine lv_aload_n hx hb dX2_tryFrom_10 rfl (lv_at hl 0 rfl) ?_
    refine x_getT hI rfl (Or.inl fl_X2_36) C hP (by decide) xs_10 rfl dX2_tryFrom_11 (fun x4 e5 b6 => ?_)
    have J54 : ∀ (g : Nat → Nat → Int32) (L : Nat → Nat → Int64) (H : Heap) (locs : List Loc) (ls : Array Slot), zI XT g → g 0 = g0 0 → va_P G.1 vwCl (zw G (XS b) 105 a g L) H → va_D A (zw G (XS b) 105 a g L) → va_S A s.heap H locs → lv_has ls 3 [] → W p l e { frames := 25, cells := 0, slots := 0, locals := 549 } s m [.ref (a 10), .int p1, .int p2].toArray below meth c H locs 0 0 (MQ below ((kQv G (S := zS) (fun u => zI XT u.1 ∧ u.1 0 = g0 0) (fun u => zw G (XS b) 105 a u.1 u.2)) A) [.ref (a 10), .int p1, .int p2].toArray s 0 0 A) (F0 m 89 ls []) := by
      intro g L H locs ls hI h0c hP hD hS hl
      exact x_vret C hr hlk hP hD hS (g, L) rfl ⟨hI, h0c⟩ (Nat.le_of_ble_eq_true rfl) (Nat.le_of_ble_eq_true rfl) dX2_tryFrom_89
    refine lv_icmp_gt (x := p1) (y := x4) (tgt := 23) hx hb dX2_tryFrom_14 (by decide) (fun c55 => ?_) (fun c55 => ?_)
    ·
      have c55 := icc_lt (m := x4.toInt) (n := p1.toInt) rfl rfl c55
      refine lv_aload_n hx hb dX2_tryFrom_23 rfl (lv_at hl 0 rfl) ?_
      refine lv_iload_n hx hb dX2_tryFrom_24 rfl (lv_at hl 2 rfl) ?_
      refine x_callVv (rest := []) li_X2_82 C (zX2_takeIfOnTime_10 l G H.size b a g0 L0 hI p2) (kR rfl) hP hD hS 10 2 rfl (zat (by decide) xs_10) rfl hl.1 rfl (Nat.le_of_ble_eq_true rfl) dX2_tryFrom_25 (fun u58 H locs hw56 hP hD hS => ?_)
      obtain ⟨g, L⟩ := u58
      obtain ⟨hI, h0n⟩ := hw56
      have h0c : g 0 = g0 0 := h0n.trans h0c
      have hI : zI XT g := hI
      have hP : va_P G.1 vwCl (zw G (XS b) 105 a g L) H := hP
      have hD : va_D A (zw G (XS b) 105 a g L) := hD
      refine lv_goto (tgt := 89) hx hb dX2_tryFrom_28 (by decide) ?_
      exact J54 g L H locs ls hI h0c hP hD hS (lv_sub hl [] rfl)
    ·
      have c55 := icc_nlt (m := x4.toInt) (n := p1.toInt) rfl rfl c55
      refine lv_iload_n hx hb dX2_tryFrom_17 rfl (lv_at hl 1 rfl) ?_
      refine lv_bipush (v := 12) hx hb dX2_tryFrom_18 (by decide) ?_
      refine lv_icmp_lt (x := p1) (y := 12) (tgt := 31) hx hb dX2_tryFrom_20 (by decide) (fun c61 => ?_) (fun c61 => ?_)
      ·
        have c61 := icc_lt (m := p1.toInt) (n := 12) rfl (by decide) c61
        refine lv_aload_n hx hb dX2_tryFrom_31 rfl (lv_at hl 0 rfl) ?_
        refine x_geti (Or.inl fl_X2_64) C hP (by decide) xs_10 rfl dX2_tryFrom_32 (fun x62 e63 => ?_)
        refine lv_iload_n hx hb dX2_tryFrom_35 rfl (lv_at hl 1 rfl) ?_
        refine x_callSi (rest := []) li_X2_56 C (zX2_isIn l G H.size b a g0 L0 hI x62 p1) (kR rfl) hP hD hS rfl hl.1 rfl (Nat.le_of_ble_eq_true rfl) dX2_tryFrom_36 (fun x65 u66 H locs hw64 hP hD hS => ?_)
        obtain ⟨g, L⟩ := u66
        obtain ⟨hI, h0n, b67⟩ := hw64
        have h0c : g 0 = g0 0 := h0n.trans h0c
        have hI : zI XT g := hI
        have hP : va_P G.1 vwCl (zw G (XS b) 105 a g L) H := hP
        have hD : va_D A (zw G (XS b) 105 a g L) := hD
        refine lv_if_ne (x := x65) (tgt := 53) hx hb dX2_tryFrom_39 (by decide) (fun c69 => ?_) (fun c69 => ?_)
        ·
          have c69 := icc_neq (m := x65.toInt) (n := 0) rfl (by decide) c69
          refine lv_aload_n hx hb dX2_tryFrom_53 rfl (lv_at hl 0 rfl) ?_
          refine x_geti (Or.inl fl_X2_29) C hP (by decide) xs_10 rfl dX2_tryFrom_54 (fun x70 e71 => ?_)
          refine lv_iload_n hx hb dX2_tryFrom_57 rfl (lv_at hl 1 rfl) ?_
          refine x_callSi (rest := []) li_X2_56 C (zX2_isIn l G H.size b a g L hI x70 p1) (kR rfl) hP hD hS rfl hl.1 rfl (Nat.le_of_ble_eq_true rfl) dX2_tryFrom_58 (fun x73 u74 H locs hw72 hP hD hS => ?_)
          obtain ⟨g, L⟩ := u74
          obtain ⟨hI, h0n, b75⟩ := hw72
          have h0c : g 0 = g0 0 := h0n.trans h0c
          have hI : zI XT g := hI
          have hP : va_P G.1 vwCl (zw G (XS b) 105 a g L) H := hP
          have hD : va_D A (zw G (XS b) 105 a g L) := hD
          refine lv_if_ne (x := x73) (tgt := 83) hx hb dX2_tryFrom_61 (by decide) (fun c77 => ?_) (fun c77 => ?_)
          ·
            have c77 := icc_neq (m := x73.toInt) (n := 0) rfl (by decide) c77
            refine lv_aload_n hx hb dX2_tryFrom_83 rfl (lv_at hl 0 rfl) ?_
            refine lv_iload_n hx hb dX2_tryFrom_84 rfl (lv_at hl 1 rfl) ?_
            refine lv_iload_n hx hb dX2_tryFrom_85 rfl (lv_at hl 2 rfl) ?_
            refine x_callVv (rest := []) li_X2_89 C (zX2_tryGapsOf_10_L8 l G H.size b a g L hI p1 p2 (by omega)) (kR rfl) hP hD hS 10 2 rfl (zat (by decide) xs_10) rfl hl.1 rfl (Nat.le_of_ble_eq_true rfl) dX2_tryFrom_86 (fun u80 H locs hw78 hP hD hS => ?_)
            obtain ⟨g, L⟩ := u80
            obtain ⟨hI, h0n⟩ := hw78
            have h0c : g 0 = g0 0 := h0n.trans h0c
            have hI : zI XT g := hI
            have hP : va_P G.1 vwCl (zw G (XS b) 105 a g L) H := hP
            have hD : va_D A (zw G (XS b) 105 a g L) := hD
            exact J54 g L H locs ls hI h0c hP hD hS (lv_sub hl [] rfl)
          ·
            have c77 := icc_eq (m := x73.toInt) (n := 0) rfl (by decide) c77
            refine lv_aload_n hx hb dX2_tryFrom_64 rfl (lv_at hl 0 rfl) ?_
            refine x_getr (Or.inl fl_X2_18) C hP (by decide) xs_10 rfl dX2_tryFrom_65 ?_
            refine lv_iload_n hx hb dX2_tryFrom_68 rfl (lv_at hl 1 rfl) ?_
            refine x_callNv (rest := []) li_X2_86 C (zX1_runOne_8 l G H.size b a g L hI p1 (by omega)) (kR rfl) hP hD hS 8 1 rfl (zat (by decide) xs_8) rfl hl.1 rfl (Nat.le_of_ble_eq_true rfl) dX2_tryFrom_69 (fun u85 H locs hw83 hP hD hS => ?_)
            obtain ⟨g, L⟩ := u85
            obtain ⟨hI, h0n⟩ := hw83
            have h0c : g 0 = g0 0 := h0n.trans h0c
            have hI : zI XT g := hI
            have hP : va_P G.1 vwCl (zw G (XS b) 105 a g L) H := hP
            have hD : va_D A (zw G (XS b) 105 a g L) := hD
            refine lv_aload_n hx hb dX2_tryFrom_72 rfl (lv_at hl 0 rfl) ?_
            refine lv_iload_n hx hb dX2_tryFrom_73 rfl (lv_at hl 1 rfl) ?_
            refine lv_iconst (v := 1) hx hb dX2_tryFrom_74 (by decide) ?_
            refine lv_iadd hx hb dX2_tryFrom_75 ?_
            refine x_val (ic_addc (m := p1.toInt) (n := 1) rfl (by decide) (by omega) (by omega)) (fun x88 e89 => ?_)
            refine lv_iload_n hx hb dX2_tryFrom_76 rfl (lv_at hl 2 rfl) ?_
            refine x_callVv (rest := []) li_X2_60 C (zX2_tryFrom_10_L7 l G H.size b a g L hI x88 p2 (by omega)) (kR rfl) hP hD hS 10 2 rfl (zat (by decide) xs_10) rfl hl.1 rfl (Nat.le_of_ble_eq_true rfl) dX2_tryFrom_77 (fun u92 H locs hw90 hP hD hS => ?_)
            obtain ⟨g, L⟩ := u92
            obtain ⟨hI, h0n⟩ := hw90
            have h0c : g 0 = g0 0 := h0n.trans h0c
            have hI : zI XT g := hI
            have hP : va_P G.1 vwCl (zw G (XS b) 105 a g L) H := hP
            have hD : va_D A (zw G (XS b) 105 a g L) := hD
            refine lv_goto (tgt := 89) hx hb dX2_tryFrom_80 (by decide) ?_
            exact J54 g L H locs ls hI h0c hP hD hS (lv_sub hl [] rfl)
        ·
          have c69 := icc_eq (m := x65.toInt) (n := 0) rfl (by decide) c69
          refine lv_aload_n hx hb dX2_tryFrom_42 rfl (lv_at hl 0 rfl) ?_
          refine lv_iload_n hx hb dX2_tryFrom_43 rfl (lv_at hl 1 rfl) ?_
          refine lv_iconst (v := 1) hx hb dX2_tryFrom_44 (by decide) ?_
          refine lv_iadd hx hb dX2_tryFrom_45 ?_
          refine x_val (ic_addc (m := p1.toInt) (n := 1) rfl (by decide) (by omega) (by omega)) (fun x95 e96 => ?_)
          refine lv_iload_n hx hb dX2_tryFrom_46 rfl (lv_at hl 2 rfl) ?_
          refine x_callVv (rest := []) li_X2_60 C (zX2_tryFrom_10_L7 l G H.size b a g L hI x95 p2 (by omega)) (kR rfl) hP hD hS 10 2 rfl (zat (by decide) xs_10) rfl hl.1 rfl (Nat.le_of_ble_eq_true rfl) dX2_tryFrom_47 (fun u99 H locs hw97 hP hD hS => ?_)
          obtain ⟨g, L⟩ := u99
          obtain ⟨hI, h0n⟩ := hw97
          have h0c : g 0 = g0 0 := h0n.trans h0c
          have hI : zI XT g := hI
          have hP : va_P G.1 vwCl (zw G (XS b) 105 a g L) H := hP
          have hD : va_D A (zw G (XS b) 105 a g L) := hD
          refine lv_goto (tgt := 89) hx hb dX2_tryFrom_50 (by decide) ?_
          exact J54 g L H locs ls hI h0c hP hD hS (lv_sub hl [] rfl)
      ·
        have c61 := icc_nlt (m := p1.toInt) (n := 12) rfl (by decide) c61
        omega
  ·
    have c3 := icc_nlt (m := p2.toInt) (n := x1.toInt) rfl rfl c3
    exact x_vret C hr hlk hP hD hS (g0, L0) rfl ⟨hI, h0c⟩ (Nat.le_of_ble_eq_true rfl) (Nat.le_of_ble_eq_true rfl) dX2_tryFrom_8
set_option maxHeartbeats 4000000 in
set_option maxRecDepth 100000 in
theorem zX2_tryGapsOf_10_L9 (l : Launch) (G : kG) (sz : Nat) (b : Nat) (a : Nat → Nat) (g0 : Nat → Nat → Int32) (L0 : Nat → Nat → Int64) (hI : zI XT g0) (p1 : Int32) (p2 : Int32) (hp1 : 3 ≤ p1.toInt ∧ p1.toInt ≤ 11) : kM l yX2_tryGapsOf cX2_tryGapsOf 5 none { frames := 26, cells := 0, slots := 0, locals := 571 } G [.ref (a 10), .int p1, .int p2] (zw G (XS b) 105 a g0 L0) sz (kQv G (S := zS) (fun u => zI XT u.1 ∧ u.1 0 = g0 0) (fun u => zw G (XS b) 105 a u.1 u.2)) := by
  refine kM.of (by decide) (Nat.le_of_ble_eq_true rfl) ?_
  intro p e s m below meth c A ls H C hr hlk hnm hP hD hS hl
  have C : kC G p s m c cX2_tryGapsOf 5 RX2 A := C
  have hx := C.1
  have hb := C.2.1
  have hl : lv_has ls 5 [(0, .ref (a 10)), (1, .int p1), (2, .int p2)] := hl
  have h0c : g0 0 = g0 0 := rfl
  obtain ⟨locs, hlocs⟩ : ∃ q : List Loc, q = [] := ⟨_, rfl⟩
  rw [← hlocs] at hS
  rw [← hlocs]
  refine lv_iconst (v := -1) hx hb dX2_tryGapsOf_0 (by decide) ?_
  refine lv_istore_n (lv' := [(3, .int (-1)), (0, .ref (a 10)), (1, .int p1), (2, .int p2)]) hx hb dX2_tryGapsOf_1 rfl hl (by decide) rfl (fun ls hl => ?_)
  refine lv_iconst (v := 0) hx hb dX2_tryGapsOf_2 (by decide) ?_
  refine lv_istore (lv' := [(4, .int 0), (3, .int (-1)), (0, .ref (a 10)), (1, .int p1), (2, .int p2)]) hx hb dX2_tryGapsOf_3 hl (by decide) rfl (fun ls hl => ?_)
  have lp279 : ∀ fu : Nat, ∀ (x276 : Int32) (x277 : Int32) (g : Nat → Nat → Int32) (L : Nat → Nat → Int64) (H : Heap) (locs : List Loc) (ls : Array Slot), (0 ≤ x277.toInt ∧ x277.toInt ≤ 5) → zI XT g → g 0 = g0 0 → va_P G.1 vwCl (zw G (XS b) 105 a g L) H → va_D A (zw G (XS b) 105 a g L) → va_S A s.heap H locs → lv_has ls 5 [(0, .ref (a 10)), (1, .int p1), (2, .int p2), (3, .int x276), (4, .int x277)] → 5 - x277.toInt < (fu : Int) → W p l e { frames := 26, cells := 0, slots := 0, locals := 571 } s m [.ref (a 10), .int p1, .int p2].toArray below meth c H locs 0 0 (MQ below ((kQv G (S := zS) (fun u => zI XT u.1 ∧ u.1 0 = g0 0) (fun u => zw G (XS b) 105 a u.1 u.2)) A) [.ref (a 10), .int p1, .int p2].toArray s 0 0 A) (F0 m 5 ls []) := by
    intro fu
    induction fu with
    | zero => intro x276 x277 g L H locs ls b278 hI h0c hP hD hS hl hm; exact absurd hm (by omega)
    | succ fu ih =>
      intro x276 x277 g L H locs ls b278 hI h0c hP hD hS hl hm
      have ih280 := ih
      refine lv_iload hx hb dX2_tryGapsOf_5 (lv_at hl 4 rfl) ?_
      refine lv_iconst (v := 4) hx hb dX2_tryGapsOf_7 (by decide) ?_
      refine lv_icmp_gt (x := x277) (y := 4) (tgt := 70) hx hb dX2_tryGapsOf_8 (by decide) (fun c281 => ?_) (fun c281 => ?_)
      ·
        have c281 := icc_lt (m := 4) (n := x277.toInt) (by decide) rfl c281
        exact x_vret C hr hlk hP hD hS (g, L) rfl ⟨hI, h0c⟩ (Nat.le_of_ble_eq_true rfl) (Nat.le_of_ble_eq_true rfl) dX2_tryGapsOf_70
      ·
        have c281 := icc_nlt (m := 4) (n := x277.toInt) (by decide) rfl c281
        refine lv_aload_n hx hb dX2_tryGapsOf_11 rfl (lv_at hl 0 rfl) ?_
        refine x_getr (Or.inl fl_X2_28) C hP (by decide) xs_10 rfl dX2_tryGapsOf_12 ?_
        refine x_getr (Or.inr fl_X2_45) C hP (by decide) xs_6 rfl dX2_tryGapsOf_15 ?_
        refine lv_iload_n hx hb dX2_tryGapsOf_18 rfl (lv_at hl 1 rfl) ?_
        refine lv_iload hx hb dX2_tryGapsOf_19 (lv_at hl 4 rfl) ?_
        refine x_ast (hI.updN rfl) C hP hD hS (by decide) xs_26 (by omega) (by omega) dX2_tryGapsOf_21 (fun g H locs eg hI hP hD hS => ?_)
        have h0c : g 0 = g0 0 := by rw [eg]; exact h0c
        refine lv_aload_n hx hb dX2_tryGapsOf_22 rfl (lv_at hl 0 rfl) ?_
        refine x_getr (Or.inl fl_X2_18) C hP (by decide) xs_10 rfl dX2_tryGapsOf_23 ?_
        refine lv_iload_n hx hb dX2_tryGapsOf_26 rfl (lv_at hl 1 rfl) ?_
        refine x_callNv (rest := []) li_X2_86 C (zX1_runOne_8 l G H.size b a g L hI p1 (by omega)) (kR rfl) hP hD hS 8 1 rfl (zat (by decide) xs_8) rfl hl.1 rfl (Nat.le_of_ble_eq_true rfl) dX2_tryGapsOf_27 (fun u284 H locs hw282 hP hD hS => ?_)
        obtain ⟨g, L⟩ := u284
        obtain ⟨hI, h0n⟩ := hw282
        have h0c : g 0 = g0 0 := h0n.trans h0c
        have hI : zI XT g := hI
        have hP : va_P G.1 vwCl (zw G (XS b) 105 a g L) H := hP
        have hD : va_D A (zw G (XS b) 105 a g L) := hD
        refine lv_aload_n hx hb dX2_tryGapsOf_30 rfl (lv_at hl 0 rfl) ?_
        refine x_getr (Or.inl fl_X2_18) C hP (by decide) xs_10 rfl dX2_tryGapsOf_31 ?_
        refine x_getr (Or.inr fl_X2_92) C hP (by decide) xs_8 rfl dX2_tryGapsOf_34 ?_
        refine lv_iload_n hx hb dX2_tryGapsOf_37 rfl (lv_at hl 1 rfl) ?_
        refine x_ald C hP (by decide) xs_44 (by omega) (by omega) dX2_tryGapsOf_38 (fun x287 e288 => ?_)
        refine lv_iload_n hx hb dX2_tryGapsOf_39 rfl (lv_at hl 3 rfl) ?_
        have J303 : ∀ (x304 : Int32) (g : Nat → Nat → Int32) (L : Nat → Nat → Int64) (H : Heap) (locs : List Loc) (ls : Array Slot), zI XT g → g 0 = g0 0 → va_P G.1 vwCl (zw G (XS b) 105 a g L) H → va_D A (zw G (XS b) 105 a g L) → va_S A s.heap H locs → lv_has ls 5 [(0, .ref (a 10)), (1, .int p1), (2, .int p2), (3, .int x304), (4, .int x277)] → W p l e { frames := 26, cells := 0, slots := 0, locals := 571 } s m [.ref (a 10), .int p1, .int p2].toArray below meth c H locs 0 0 (MQ below ((kQv G (S := zS) (fun u => zI XT u.1 ∧ u.1 0 = g0 0) (fun u => zw G (XS b) 105 a u.1 u.2)) A) [.ref (a 10), .int p1, .int p2].toArray s 0 0 A) (F0 m 64 ls []) := by
          intro x304 g L H locs ls hI h0c hP hD hS hl
          obtain ⟨x305, e306q, e306⟩ : ∃ z : Int32, x277 + Int32.ofInt (1) = z ∧ z.toInt = x277.toInt + (1) := ⟨_, rfl, ic_addc rfl (by decide) (by omega) (by omega)⟩
          refine lv_iinc (v := x305) (lv' := [(4, .int x305), (0, .ref (a 10)), (1, .int p1), (2, .int p2), (3, .int x304)]) hx hb dX2_tryGapsOf_64 hl (k := 4) rfl e306q (by decide) rfl (fun ls hl => ?_)
          refine lv_goto (tgt := 5) hx hb dX2_tryGapsOf_67 (by decide) ?_
          exact ih280 x304 x305 g L H locs ls (by omega) hI h0c hP hD hS (lv_sub hl [1, 2, 3, 4, 0] rfl) (by omega)
        refine lv_icmp_eq (x := x287) (y := x276) (tgt := 64) hx hb dX2_tryGapsOf_40 (by decide) (fun c307 => ?_) (fun c307 => ?_)
        ·
          have c307 := icc_eq (m := x287.toInt) (n := x276.toInt) rfl rfl c307
          exact J303 x276 g L H locs ls hI h0c hP hD hS (lv_sub hl [0, 1, 2, 3, 4] rfl)
        ·
          have c307 := icc_neq (m := x287.toInt) (n := x276.toInt) rfl rfl c307
          refine lv_aload_n hx hb dX2_tryGapsOf_43 rfl (lv_at hl 0 rfl) ?_
          refine x_getr (Or.inl fl_X2_18) C hP (by decide) xs_10 rfl dX2_tryGapsOf_44 ?_
          refine x_getr (Or.inr fl_X2_92) C hP (by decide) xs_8 rfl dX2_tryGapsOf_47 ?_
          refine lv_iload_n hx hb dX2_tryGapsOf_50 rfl (lv_at hl 1 rfl) ?_
          refine x_ald C hP (by decide) xs_44 (by omega) (by omega) dX2_tryGapsOf_51 (fun x308 e309 => ?_)
          refine lv_istore_n (lv' := [(3, .int x308), (0, .ref (a 10)), (1, .int p1), (2, .int p2), (4, .int x277)]) hx hb dX2_tryGapsOf_52 rfl hl (by decide) rfl (fun ls hl => ?_)
          refine lv_aload_n hx hb dX2_tryGapsOf_53 rfl (lv_at hl 1 rfl) ?_
          refine lv_iload_n hx hb dX2_tryGapsOf_54 rfl (lv_at hl 2 rfl) ?_
          refine lv_iconst (v := 1) hx hb dX2_tryGapsOf_55 (by decide) ?_
          refine lv_iadd hx hb dX2_tryGapsOf_56 ?_
          refine x_val (ic_addc (m := p1.toInt) (n := 1) rfl (by decide) (by omega) (by omega)) (fun x310 e311 => ?_)
          refine lv_iload_n hx hb dX2_tryGapsOf_57 rfl (lv_at hl 3 rfl) ?_
          refine lv_iload hx hb dX2_tryGapsOf_58 (lv_at hl 4 rfl) ?_
          refine lv_iadd hx hb dX2_tryGapsOf_60 ?_
          refine x_any (fun x312 => ?_)
          refine x_callVv (rest := []) li_X2_60 C (zX2_tryFrom_10_L8 l G H.size b a g L hI x310 x312 (by omega)) (kR rfl) hP hD hS 10 2 rfl (zat (by decide) xs_10) rfl hl.1 rfl (Nat.le_of_ble_eq_true rfl) dX2_tryGapsOf_61 (fun u315 H locs hw313 hP hD hS => ?_)
          obtain ⟨g, L⟩ := u315
          obtain ⟨hI, h0n⟩ := hw313
          have h0c : g 0 = g0 0 := h0n.trans h0c
          have hI : zI XT g := hI
          have hP : va_P G.1 vwCl (zw G (XS b) 105 a g L) H := hP
          have hD : va_D A (zw G (XS b) 105 a g L) := hD
          exact J303 x308 g L H locs ls hI h0c hP hD hS (lv_sub hl [1, 2, 3, 0, 4] rfl)
  have hc_ : ((-1) : Int32).toInt = (-1) := by decide
  have hc_ : (0 : Int32).toInt = 0 := by decide
  exact lp279 7 (-1) 0 g0 L0 H locs ls (by decide) hI h0c hP hD hS (lv_sub hl [2, 3, 4, 1, 0] rfl) (by omega)
set_option maxHeartbeats 4000000 in
set_option maxRecDepth 100000 in
theorem zX2_tryFrom_10_L9 (l : Launch) (G : kG) (sz : Nat) (b : Nat) (a : Nat → Nat) (g0 : Nat → Nat → Int32) (L0 : Nat → Nat → Int64) (hI : zI XT g0) (p1 : Int32) (p2 : Int32) (hp1 : 3 ≤ p1.toInt ∧ p1.toInt ≤ 12) : kM l yX2_tryFrom cX2_tryFrom 3 none { frames := 27, cells := 0, slots := 0, locals := 595 } G [.ref (a 10), .int p1, .int p2] (zw G (XS b) 105 a g0 L0) sz (kQv G (S := zS) (fun u => zI XT u.1 ∧ u.1 0 = g0 0) (fun u => zw G (XS b) 105 a u.1 u.2)) := by
  refine kM.of (by decide) (Nat.le_of_ble_eq_true rfl) ?_
  intro p e s m below meth c A ls H C hr hlk hnm hP hD hS hl
  have C : kC G p s m c cX2_tryFrom 3 RX2 A := C
  have hx := C.1
  have hb := C.2.1
  have hl : lv_has ls 3 [(0, .ref (a 10)), (1, .int p1), (2, .int p2)] := hl
  have h0c : g0 0 = g0 0 := rfl
  obtain ⟨locs, hlocs⟩ : ∃ q : List Loc, q = [] := ⟨_, rfl⟩
  rw [← hlocs] at hS
  rw [← hlocs]
  refine lv_iload_n hx hb dX2_tryFrom_0 rfl (lv_at hl 2 rfl) ?_
  refine lv_aload_n hx hb dX2_tryFrom_1 rfl (lv_at hl 0 rfl) ?_
  refine x_geti (Or.inl fl_X2_39) C hP (by decide) xs_10 rfl dX2_tryFrom_2 (fun x1 e2 => ?_)
  refine lv_icmp_lt (x := p2) (y := x1) (tgt := 9) hx hb dX2_tryFrom_5 (by decide) (fun c3 => ?_) (fun c3 => ?_)
  ·
    have c3 := icc_lt (m := p2.toInt) (n := x1.toInt) rfl rfl c3
    refine lv_iload_n hx hb dX2_tryFrom_9 rfl (lv_at hl 1 rfl) ?_
    refine lv_aload_n hx hb dX2_tryFrom_10 rfl (lv_at hl 0 rfl) ?_
    refine x_getT hI rfl (Or.inl fl_X2_36) C hP (by decide) xs_10 rfl dX2_tryFrom_11 (fun x4 e5 b6 => ?_)
    have J54 : ∀ (g : Nat → Nat → Int32) (L : Nat → Nat → Int64) (H : Heap) (locs : List Loc) (ls : Array Slot), zI XT g → g 0 = g0 0 → va_P G.1 vwCl (zw G (XS b) 105 a g L) H → va_D A (zw G (XS b) 105 a g L) → va_S A s.heap H locs → lv_has ls 3 [] → W p l e { frames := 27, cells := 0, slots := 0, locals := 595 } s m [.ref (a 10), .int p1, .int p2].toArray below meth c H locs 0 0 (MQ below ((kQv G (S := zS) (fun u => zI XT u.1 ∧ u.1 0 = g0 0) (fun u => zw G (XS b) 105 a u.1 u.2)) A) [.ref (a 10), .int p1, .int p2].toArray s 0 0 A) (F0 m 89 ls []) := by
      intro g L H locs ls hI h0c hP hD hS hl
      exact x_vret C hr hlk hP hD hS (g, L) rfl ⟨hI, h0c⟩ (Nat.le_of_ble_eq_true rfl) (Nat.le_of_ble_eq_true rfl) dX2_tryFrom_89
    refine lv_icmp_gt (x := p1) (y := x4) (tgt := 23) hx hb dX2_tryFrom_14 (by decide) (fun c55 => ?_) (fun c55 => ?_)
    ·
      have c55 := icc_lt (m := x4.toInt) (n := p1.toInt) rfl rfl c55
      refine lv_aload_n hx hb dX2_tryFrom_23 rfl (lv_at hl 0 rfl) ?_
      refine lv_iload_n hx hb dX2_tryFrom_24 rfl (lv_at hl 2 rfl) ?_
      refine x_callVv (rest := []) li_X2_82 C (zX2_takeIfOnTime_10 l G H.size b a g0 L0 hI p2) (kR rfl) hP hD hS 10 2 rfl (zat (by decide) xs_10) rfl hl.1 rfl (Nat.le_of_ble_eq_true rfl) dX2_tryFrom_25 (fun u58 H locs hw56 hP hD hS => ?_)
      obtain ⟨g, L⟩ := u58
      obtain ⟨hI, h0n⟩ := hw56
      have h0c : g 0 = g0 0 := h0n.trans h0c
      have hI : zI XT g := hI
      have hP : va_P G.1 vwCl (zw G (XS b) 105 a g L) H := hP
      have hD : va_D A (zw G (XS b) 105 a g L) := hD
      refine lv_goto (tgt := 89) hx hb dX2_tryFrom_28 (by decide) ?_
      exact J54 g L H locs ls hI h0c hP hD hS (lv_sub hl [] rfl)
    ·
      have c55 := icc_nlt (m := x4.toInt) (n := p1.toInt) rfl rfl c55
      refine lv_iload_n hx hb dX2_tryFrom_17 rfl (lv_at hl 1 rfl) ?_
      refine lv_bipush (v := 12) hx hb dX2_tryFrom_18 (by decide) ?_
      refine lv_icmp_lt (x := p1) (y := 12) (tgt := 31) hx hb dX2_tryFrom_20 (by decide) (fun c61 => ?_) (fun c61 => ?_)
      ·
        have c61 := icc_lt (m := p1.toInt) (n := 12) rfl (by decide) c61
        refine lv_aload_n hx hb dX2_tryFrom_31 rfl (lv_at hl 0 rfl) ?_
        refine x_geti (Or.inl fl_X2_64) C hP (by decide) xs_10 rfl dX2_tryFrom_32 (fun x62 e63 => ?_)
        refine lv_iload_n hx hb dX2_tryFrom_35 rfl (lv_at hl 1 rfl) ?_
        refine x_callSi (rest := []) li_X2_56 C (zX2_isIn l G H.size b a g0 L0 hI x62 p1) (kR rfl) hP hD hS rfl hl.1 rfl (Nat.le_of_ble_eq_true rfl) dX2_tryFrom_36 (fun x65 u66 H locs hw64 hP hD hS => ?_)
        obtain ⟨g, L⟩ := u66
        obtain ⟨hI, h0n, b67⟩ := hw64
        have h0c : g 0 = g0 0 := h0n.trans h0c
        have hI : zI XT g := hI
        have hP : va_P G.1 vwCl (zw G (XS b) 105 a g L) H := hP
        have hD : va_D A (zw G (XS b) 105 a g L) := hD
        refine lv_if_ne (x := x65) (tgt := 53) hx hb dX2_tryFrom_39 (by decide) (fun c69 => ?_) (fun c69 => ?_)
        ·
          have c69 := icc_neq (m := x65.toInt) (n := 0) rfl (by decide) c69
          refine lv_aload_n hx hb dX2_tryFrom_53 rfl (lv_at hl 0 rfl) ?_
          refine x_geti (Or.inl fl_X2_29) C hP (by decide) xs_10 rfl dX2_tryFrom_54 (fun x70 e71 => ?_)
          refine lv_iload_n hx hb dX2_tryFrom_57 rfl (lv_at hl 1 rfl) ?_
          refine x_callSi (rest := []) li_X2_56 C (zX2_isIn l G H.size b a g L hI x70 p1) (kR rfl) hP hD hS rfl hl.1 rfl (Nat.le_of_ble_eq_true rfl) dX2_tryFrom_58 (fun x73 u74 H locs hw72 hP hD hS => ?_)
          obtain ⟨g, L⟩ := u74
          obtain ⟨hI, h0n, b75⟩ := hw72
          have h0c : g 0 = g0 0 := h0n.trans h0c
          have hI : zI XT g := hI
          have hP : va_P G.1 vwCl (zw G (XS b) 105 a g L) H := hP
          have hD : va_D A (zw G (XS b) 105 a g L) := hD
          refine lv_if_ne (x := x73) (tgt := 83) hx hb dX2_tryFrom_61 (by decide) (fun c77 => ?_) (fun c77 => ?_)
          ·
            have c77 := icc_neq (m := x73.toInt) (n := 0) rfl (by decide) c77
            refine lv_aload_n hx hb dX2_tryFrom_83 rfl (lv_at hl 0 rfl) ?_
            refine lv_iload_n hx hb dX2_tryFrom_84 rfl (lv_at hl 1 rfl) ?_
            refine lv_iload_n hx hb dX2_tryFrom_85 rfl (lv_at hl 2 rfl) ?_
            refine x_callVv (rest := []) li_X2_89 C (zX2_tryGapsOf_10_L9 l G H.size b a g L hI p1 p2 (by omega)) (kR rfl) hP hD hS 10 2 rfl (zat (by decide) xs_10) rfl hl.1 rfl (Nat.le_of_ble_eq_true rfl) dX2_tryFrom_86 (fun u80 H locs hw78 hP hD hS => ?_)
            obtain ⟨g, L⟩ := u80
            obtain ⟨hI, h0n⟩ := hw78
            have h0c : g 0 = g0 0 := h0n.trans h0c
            have hI : zI XT g := hI
            have hP : va_P G.1 vwCl (zw G (XS b) 105 a g L) H := hP
            have hD : va_D A (zw G (XS b) 105 a g L) := hD
            exact J54 g L H locs ls hI h0c hP hD hS (lv_sub hl [] rfl)
          ·
            have c77 := icc_eq (m := x73.toInt) (n := 0) rfl (by decide) c77
            refine lv_aload_n hx hb dX2_tryFrom_64 rfl (lv_at hl 0 rfl) ?_
            refine x_getr (Or.inl fl_X2_18) C hP (by decide) xs_10 rfl dX2_tryFrom_65 ?_
            refine lv_iload_n hx hb dX2_tryFrom_68 rfl (lv_at hl 1 rfl) ?_
            refine x_callNv (rest := []) li_X2_86 C (zX1_runOne_8 l G H.size b a g L hI p1 (by omega)) (kR rfl) hP hD hS 8 1 rfl (zat (by decide) xs_8) rfl hl.1 rfl (Nat.le_of_ble_eq_true rfl) dX2_tryFrom_69 (fun u85 H locs hw83 hP hD hS => ?_)
            obtain ⟨g, L⟩ := u85
            obtain ⟨hI, h0n⟩ := hw83
            have h0c : g 0 = g0 0 := h0n.trans h0c
            have hI : zI XT g := hI
            have hP : va_P G.1 vwCl (zw G (XS b) 105 a g L) H := hP
            have hD : va_D A (zw G (XS b) 105 a g L) := hD
            refine lv_aload_n hx hb dX2_tryFrom_72 rfl (lv_at hl 0 rfl) ?_
            refine lv_iload_n hx hb dX2_tryFrom_73 rfl (lv_at hl 1 rfl) ?_
            refine lv_iconst (v := 1) hx hb dX2_tryFrom_74 (by decide) ?_
            refine lv_iadd hx hb dX2_tryFrom_75 ?_
            refine x_val (ic_addc (m := p1.toInt) (n := 1) rfl (by decide) (by omega) (by omega)) (fun x88 e89 => ?_)
            refine lv_iload_n hx hb dX2_tryFrom_76 rfl (lv_at hl 2 rfl) ?_
            refine x_callVv (rest := []) li_X2_60 C (zX2_tryFrom_10_L8 l G H.size b a g L hI x88 p2 (by omega)) (kR rfl) hP hD hS 10 2 rfl (zat (by decide) xs_10) rfl hl.1 rfl (Nat.le_of_ble_eq_true rfl) dX2_tryFrom_77 (fun u92 H locs hw90 hP hD hS => ?_)
            obtain ⟨g, L⟩ := u92
            obtain ⟨hI, h0n⟩ := hw90
            have h0c : g 0 = g0 0 := h0n.trans h0c
            have hI : zI XT g := hI
            have hP : va_P G.1 vwCl (zw G (XS b) 105 a g L) H := hP
            have hD : va_D A (zw G (XS b) 105 a g L) := hD
            refine lv_goto (tgt := 89) hx hb dX2_tryFrom_80 (by decide) ?_
            exact J54 g L H locs ls hI h0c hP hD hS (lv_sub hl [] rfl)
        ·
          have c69 := icc_eq (m := x65.toInt) (n := 0) rfl (by decide) c69
          refine lv_aload_n hx hb dX2_tryFrom_42 rfl (lv_at hl 0 rfl) ?_
          refine lv_iload_n hx hb dX2_tryFrom_43 rfl (lv_at hl 1 rfl) ?_
          refine lv_iconst (v := 1) hx hb dX2_tryFrom_44 (by decide) ?_
          refine lv_iadd hx hb dX2_tryFrom_45 ?_
          refine x_val (ic_addc (m := p1.toInt) (n := 1) rfl (by decide) (by omega) (by omega)) (fun x95 e96 => ?_)
          refine lv_iload_n hx hb dX2_tryFrom_46 rfl (lv_at hl 2 rfl) ?_
          refine x_callVv (rest := []) li_X2_60 C (zX2_tryFrom_10_L8 l G H.size b a g L hI x95 p2 (by omega)) (kR rfl) hP hD hS 10 2 rfl (zat (by decide) xs_10) rfl hl.1 rfl (Nat.le_of_ble_eq_true rfl) dX2_tryFrom_47 (fun u99 H locs hw97 hP hD hS => ?_)
          obtain ⟨g, L⟩ := u99
          obtain ⟨hI, h0n⟩ := hw97
          have h0c : g 0 = g0 0 := h0n.trans h0c
          have hI : zI XT g := hI
          have hP : va_P G.1 vwCl (zw G (XS b) 105 a g L) H := hP
          have hD : va_D A (zw G (XS b) 105 a g L) := hD
          refine lv_goto (tgt := 89) hx hb dX2_tryFrom_50 (by decide) ?_
          exact J54 g L H locs ls hI h0c hP hD hS (lv_sub hl [] rfl)
      ·
        have c61 := icc_nlt (m := p1.toInt) (n := 12) rfl (by decide) c61
        omega
  ·
    have c3 := icc_nlt (m := p2.toInt) (n := x1.toInt) rfl rfl c3
    exact x_vret C hr hlk hP hD hS (g0, L0) rfl ⟨hI, h0c⟩ (Nat.le_of_ble_eq_true rfl) (Nat.le_of_ble_eq_true rfl) dX2_tryFrom_8
set_option maxHeartbeats 4000000 in
set_option maxRecDepth 100000 in
theorem zX2_tryGapsOf_10_L10 (l : Launch) (G : kG) (sz : Nat) (b : Nat) (a : Nat → Nat) (g0 : Nat → Nat → Int32) (L0 : Nat → Nat → Int64) (hI : zI XT g0) (p1 : Int32) (p2 : Int32) (hp1 : 2 ≤ p1.toInt ∧ p1.toInt ≤ 11) : kM l yX2_tryGapsOf cX2_tryGapsOf 5 none { frames := 28, cells := 0, slots := 0, locals := 617 } G [.ref (a 10), .int p1, .int p2] (zw G (XS b) 105 a g0 L0) sz (kQv G (S := zS) (fun u => zI XT u.1 ∧ u.1 0 = g0 0) (fun u => zw G (XS b) 105 a u.1 u.2)) := by
  refine kM.of (by decide) (Nat.le_of_ble_eq_true rfl) ?_
  intro p e s m below meth c A ls H C hr hlk hnm hP hD hS hl
  have C : kC G p s m c cX2_tryGapsOf 5 RX2 A := C
  have hx := C.1
  have hb := C.2.1
  have hl : lv_has ls 5 [(0, .ref (a 10)), (1, .int p1), (2, .int p2)] := hl
  have h0c : g0 0 = g0 0 := rfl
  obtain ⟨locs, hlocs⟩ : ∃ q : List Loc, q = [] := ⟨_, rfl⟩
  rw [← hlocs] at hS
  rw [← hlocs]
  refine lv_iconst (v := -1) hx hb dX2_tryGapsOf_0 (by decide) ?_
  refine lv_istore_n (lv' := [(3, .int (-1)), (0, .ref (a 10)), (1, .int p1), (2, .int p2)]) hx hb dX2_tryGapsOf_1 rfl hl (by decide) rfl (fun ls hl => ?_)
  refine lv_iconst (v := 0) hx hb dX2_tryGapsOf_2 (by decide) ?_
  refine lv_istore (lv' := [(4, .int 0), (3, .int (-1)), (0, .ref (a 10)), (1, .int p1), (2, .int p2)]) hx hb dX2_tryGapsOf_3 hl (by decide) rfl (fun ls hl => ?_)
  have lp279 : ∀ fu : Nat, ∀ (x276 : Int32) (x277 : Int32) (g : Nat → Nat → Int32) (L : Nat → Nat → Int64) (H : Heap) (locs : List Loc) (ls : Array Slot), (0 ≤ x277.toInt ∧ x277.toInt ≤ 5) → zI XT g → g 0 = g0 0 → va_P G.1 vwCl (zw G (XS b) 105 a g L) H → va_D A (zw G (XS b) 105 a g L) → va_S A s.heap H locs → lv_has ls 5 [(0, .ref (a 10)), (1, .int p1), (2, .int p2), (3, .int x276), (4, .int x277)] → 5 - x277.toInt < (fu : Int) → W p l e { frames := 28, cells := 0, slots := 0, locals := 617 } s m [.ref (a 10), .int p1, .int p2].toArray below meth c H locs 0 0 (MQ below ((kQv G (S := zS) (fun u => zI XT u.1 ∧ u.1 0 = g0 0) (fun u => zw G (XS b) 105 a u.1 u.2)) A) [.ref (a 10), .int p1, .int p2].toArray s 0 0 A) (F0 m 5 ls []) := by
    intro fu
    induction fu with
    | zero => intro x276 x277 g L H locs ls b278 hI h0c hP hD hS hl hm; exact absurd hm (by omega)
    | succ fu ih =>
      intro x276 x277 g L H locs ls b278 hI h0c hP hD hS hl hm
      have ih280 := ih
      refine lv_iload hx hb dX2_tryGapsOf_5 (lv_at hl 4 rfl) ?_
      refine lv_iconst (v := 4) hx hb dX2_tryGapsOf_7 (by decide) ?_
      refine lv_icmp_gt (x := x277) (y := 4) (tgt := 70) hx hb dX2_tryGapsOf_8 (by decide) (fun c281 => ?_) (fun c281 => ?_)
      ·
        have c281 := icc_lt (m := 4) (n := x277.toInt) (by decide) rfl c281
        exact x_vret C hr hlk hP hD hS (g, L) rfl ⟨hI, h0c⟩ (Nat.le_of_ble_eq_true rfl) (Nat.le_of_ble_eq_true rfl) dX2_tryGapsOf_70
      ·
        have c281 := icc_nlt (m := 4) (n := x277.toInt) (by decide) rfl c281
        refine lv_aload_n hx hb dX2_tryGapsOf_11 rfl (lv_at hl 0 rfl) ?_
        refine x_getr (Or.inl fl_X2_28) C hP (by decide) xs_10 rfl dX2_tryGapsOf_12 ?_
        refine x_getr (Or.inr fl_X2_45) C hP (by decide) xs_6 rfl dX2_tryGapsOf_15 ?_
        refine lv_iload_n hx hb dX2_tryGapsOf_18 rfl (lv_at hl 1 rfl) ?_
        refine lv_iload hx hb dX2_tryGapsOf_19 (lv_at hl 4 rfl) ?_
        refine x_ast (hI.updN rfl) C hP hD hS (by decide) xs_26 (by omega) (by omega) dX2_tryGapsOf_21 (fun g H locs eg hI hP hD hS => ?_)
        have h0c : g 0 = g0 0 := by rw [eg]; exact h0c
        refine lv_aload_n hx hb dX2_tryGapsOf_22 rfl (lv_at hl 0 rfl) ?_
        refine x_getr (Or.inl fl_X2_18) C hP (by decide) xs_10 rfl dX2_tryGapsOf_23 ?_
        refine lv_iload_n hx hb dX2_tryGapsOf_26 rfl (lv_at hl 1 rfl) ?_
        refine x_callNv (rest := []) li_X2_86 C (zX1_runOne_8 l G H.size b a g L hI p1 (by omega)) (kR rfl) hP hD hS 8 1 rfl (zat (by decide) xs_8) rfl hl.1 rfl (Nat.le_of_ble_eq_true rfl) dX2_tryGapsOf_27 (fun u284 H locs hw282 hP hD hS => ?_)
        obtain ⟨g, L⟩ := u284
        obtain ⟨hI, h0n⟩ := hw282
        have h0c : g 0 = g0 0 := h0n.trans h0c
        have hI : zI XT g := hI
        have hP : va_P G.1 vwCl (zw G (XS b) 105 a g L) H := hP
        have hD : va_D A (zw G (XS b) 105 a g L) := hD
        refine lv_aload_n hx hb dX2_tryGapsOf_30 rfl (lv_at hl 0 rfl) ?_
        refine x_getr (Or.inl fl_X2_18) C hP (by decide) xs_10 rfl dX2_tryGapsOf_31 ?_
        refine x_getr (Or.inr fl_X2_92) C hP (by decide) xs_8 rfl dX2_tryGapsOf_34 ?_
        refine lv_iload_n hx hb dX2_tryGapsOf_37 rfl (lv_at hl 1 rfl) ?_
        refine x_ald C hP (by decide) xs_44 (by omega) (by omega) dX2_tryGapsOf_38 (fun x287 e288 => ?_)
        refine lv_iload_n hx hb dX2_tryGapsOf_39 rfl (lv_at hl 3 rfl) ?_
        have J303 : ∀ (x304 : Int32) (g : Nat → Nat → Int32) (L : Nat → Nat → Int64) (H : Heap) (locs : List Loc) (ls : Array Slot), zI XT g → g 0 = g0 0 → va_P G.1 vwCl (zw G (XS b) 105 a g L) H → va_D A (zw G (XS b) 105 a g L) → va_S A s.heap H locs → lv_has ls 5 [(0, .ref (a 10)), (1, .int p1), (2, .int p2), (3, .int x304), (4, .int x277)] → W p l e { frames := 28, cells := 0, slots := 0, locals := 617 } s m [.ref (a 10), .int p1, .int p2].toArray below meth c H locs 0 0 (MQ below ((kQv G (S := zS) (fun u => zI XT u.1 ∧ u.1 0 = g0 0) (fun u => zw G (XS b) 105 a u.1 u.2)) A) [.ref (a 10), .int p1, .int p2].toArray s 0 0 A) (F0 m 64 ls []) := by
          intro x304 g L H locs ls hI h0c hP hD hS hl
          obtain ⟨x305, e306q, e306⟩ : ∃ z : Int32, x277 + Int32.ofInt (1) = z ∧ z.toInt = x277.toInt + (1) := ⟨_, rfl, ic_addc rfl (by decide) (by omega) (by omega)⟩
          refine lv_iinc (v := x305) (lv' := [(4, .int x305), (0, .ref (a 10)), (1, .int p1), (2, .int p2), (3, .int x304)]) hx hb dX2_tryGapsOf_64 hl (k := 4) rfl e306q (by decide) rfl (fun ls hl => ?_)
          refine lv_goto (tgt := 5) hx hb dX2_tryGapsOf_67 (by decide) ?_
          exact ih280 x304 x305 g L H locs ls (by omega) hI h0c hP hD hS (lv_sub hl [1, 2, 3, 4, 0] rfl) (by omega)
        refine lv_icmp_eq (x := x287) (y := x276) (tgt := 64) hx hb dX2_tryGapsOf_40 (by decide) (fun c307 => ?_) (fun c307 => ?_)
        ·
          have c307 := icc_eq (m := x287.toInt) (n := x276.toInt) rfl rfl c307
          exact J303 x276 g L H locs ls hI h0c hP hD hS (lv_sub hl [0, 1, 2, 3, 4] rfl)
        ·
          have c307 := icc_neq (m := x287.toInt) (n := x276.toInt) rfl rfl c307
          refine lv_aload_n hx hb dX2_tryGapsOf_43 rfl (lv_at hl 0 rfl) ?_
          refine x_getr (Or.inl fl_X2_18) C hP (by decide) xs_10 rfl dX2_tryGapsOf_44 ?_
          refine x_getr (Or.inr fl_X2_92) C hP (by decide) xs_8 rfl dX2_tryGapsOf_47 ?_
          refine lv_iload_n hx hb dX2_tryGapsOf_50 rfl (lv_at hl 1 rfl) ?_
          refine x_ald C hP (by decide) xs_44 (by omega) (by omega) dX2_tryGapsOf_51 (fun x308 e309 => ?_)
          refine lv_istore_n (lv' := [(3, .int x308), (0, .ref (a 10)), (1, .int p1), (2, .int p2), (4, .int x277)]) hx hb dX2_tryGapsOf_52 rfl hl (by decide) rfl (fun ls hl => ?_)
          refine lv_aload_n hx hb dX2_tryGapsOf_53 rfl (lv_at hl 1 rfl) ?_
          refine lv_iload_n hx hb dX2_tryGapsOf_54 rfl (lv_at hl 2 rfl) ?_
          refine lv_iconst (v := 1) hx hb dX2_tryGapsOf_55 (by decide) ?_
          refine lv_iadd hx hb dX2_tryGapsOf_56 ?_
          refine x_val (ic_addc (m := p1.toInt) (n := 1) rfl (by decide) (by omega) (by omega)) (fun x310 e311 => ?_)
          refine lv_iload_n hx hb dX2_tryGapsOf_57 rfl (lv_at hl 3 rfl) ?_
          refine lv_iload hx hb dX2_tryGapsOf_58 (lv_at hl 4 rfl) ?_
          refine lv_iadd hx hb dX2_tryGapsOf_60 ?_
          refine x_any (fun x312 => ?_)
          refine x_callVv (rest := []) li_X2_60 C (zX2_tryFrom_10_L9 l G H.size b a g L hI x310 x312 (by omega)) (kR rfl) hP hD hS 10 2 rfl (zat (by decide) xs_10) rfl hl.1 rfl (Nat.le_of_ble_eq_true rfl) dX2_tryGapsOf_61 (fun u315 H locs hw313 hP hD hS => ?_)
          obtain ⟨g, L⟩ := u315
          obtain ⟨hI, h0n⟩ := hw313
          have h0c : g 0 = g0 0 := h0n.trans h0c
          have hI : zI XT g := hI
          have hP : va_P G.1 vwCl (zw G (XS b) 105 a g L) H := hP
          have hD : va_D A (zw G (XS b) 105 a g L) := hD
          exact J303 x308 g L H locs ls hI h0c hP hD hS (lv_sub hl [1, 2, 3, 0, 4] rfl)
  have hc_ : ((-1) : Int32).toInt = (-1) := by decide
  have hc_ : (0 : Int32).toInt = 0 := by decide
  exact lp279 7 (-1) 0 g0 L0 H locs ls (by decide) hI h0c hP hD hS (lv_sub hl [2, 3, 4, 1, 0] rfl) (by omega)
set_option maxHeartbeats 4000000 in
set_option maxRecDepth 100000 in
theorem zX2_tryFrom_10_L10 (l : Launch) (G : kG) (sz : Nat) (b : Nat) (a : Nat → Nat) (g0 : Nat → Nat → Int32) (L0 : Nat → Nat → Int64) (hI : zI XT g0) (p1 : Int32) (p2 : Int32) (hp1 : 2 ≤ p1.toInt ∧ p1.toInt ≤ 12) : kM l yX2_tryFrom cX2_tryFrom 3 none { frames := 29, cells := 0, slots := 0, locals := 641 } G [.ref (a 10), .int p1, .int p2] (zw G (XS b) 105 a g0 L0) sz (kQv G (S := zS) (fun u => zI XT u.1 ∧ u.1 0 = g0 0) (fun u => zw G (XS b) 105 a u.1 u.2)) := by
  refine kM.of (by decide) (Nat.le_of_ble_eq_true rfl) ?_
  intro p e s m below meth c A ls H C hr hlk hnm hP hD hS hl
  have C : kC G p s m c cX2_tryFrom 3 RX2 A := C
  have hx := C.1
  have hb := C.2.1
  have hl : lv_has ls 3 [(0, .ref (a 10)), (1, .int p1), (2, .int p2)] := hl
  have h0c : g0 0 = g0 0 := rfl
  obtain ⟨locs, hlocs⟩ : ∃ q : List Loc, q = [] := ⟨_, rfl⟩
  rw [← hlocs] at hS
  rw [← hlocs]
  refine lv_iload_n hx hb dX2_tryFrom_0 rfl (lv_at hl 2 rfl) ?_
  refine lv_aload_n hx hb dX2_tryFrom_1 rfl (lv_at hl 0 rfl) ?_
  refine x_geti (Or.inl fl_X2_39) C hP (by decide) xs_10 rfl dX2_tryFrom_2 (fun x1 e2 => ?_)
  refine lv_icmp_lt (x := p2) (y := x1) (tgt := 9) hx hb dX2_tryFrom_5 (by decide) (fun c3 => ?_) (fun c3 => ?_)
  ·
    have c3 := icc_lt (m := p2.toInt) (n := x1.toInt) rfl rfl c3
    refine lv_iload_n hx hb dX2_tryFrom_9 rfl (lv_at hl 1 rfl) ?_
    refine lv_aload_n hx hb dX2_tryFrom_10 rfl (lv_at hl 0 rfl) ?_
    refine x_getT hI rfl (Or.inl fl_X2_36) C hP (by decide) xs_10 rfl dX2_tryFrom_11 (fun x4 e5 b6 => ?_)
    have J54 : ∀ (g : Nat → Nat → Int32) (L : Nat → Nat → Int64) (H : Heap) (locs : List Loc) (ls : Array Slot), zI XT g → g 0 = g0 0 → va_P G.1 vwCl (zw G (XS b) 105 a g L) H → va_D A (zw G (XS b) 105 a g L) → va_S A s.heap H locs → lv_has ls 3 [] → W p l e { frames := 29, cells := 0, slots := 0, locals := 641 } s m [.ref (a 10), .int p1, .int p2].toArray below meth c H locs 0 0 (MQ below ((kQv G (S := zS) (fun u => zI XT u.1 ∧ u.1 0 = g0 0) (fun u => zw G (XS b) 105 a u.1 u.2)) A) [.ref (a 10), .int p1, .int p2].toArray s 0 0 A) (F0 m 89 ls []) := by
      intro g L H locs ls hI h0c hP hD hS hl
      exact x_vret C hr hlk hP hD hS (g, L) rfl ⟨hI, h0c⟩ (Nat.le_of_ble_eq_true rfl) (Nat.le_of_ble_eq_true rfl) dX2_tryFrom_89
    refine lv_icmp_gt (x := p1) (y := x4) (tgt := 23) hx hb dX2_tryFrom_14 (by decide) (fun c55 => ?_) (fun c55 => ?_)
    ·
      have c55 := icc_lt (m := x4.toInt) (n := p1.toInt) rfl rfl c55
      refine lv_aload_n hx hb dX2_tryFrom_23 rfl (lv_at hl 0 rfl) ?_
      refine lv_iload_n hx hb dX2_tryFrom_24 rfl (lv_at hl 2 rfl) ?_
      refine x_callVv (rest := []) li_X2_82 C (zX2_takeIfOnTime_10 l G H.size b a g0 L0 hI p2) (kR rfl) hP hD hS 10 2 rfl (zat (by decide) xs_10) rfl hl.1 rfl (Nat.le_of_ble_eq_true rfl) dX2_tryFrom_25 (fun u58 H locs hw56 hP hD hS => ?_)
      obtain ⟨g, L⟩ := u58
      obtain ⟨hI, h0n⟩ := hw56
      have h0c : g 0 = g0 0 := h0n.trans h0c
      have hI : zI XT g := hI
      have hP : va_P G.1 vwCl (zw G (XS b) 105 a g L) H := hP
      have hD : va_D A (zw G (XS b) 105 a g L) := hD
      refine lv_goto (tgt := 89) hx hb dX2_tryFrom_28 (by decide) ?_
      exact J54 g L H locs ls hI h0c hP hD hS (lv_sub hl [] rfl)
    ·
      have c55 := icc_nlt (m := x4.toInt) (n := p1.toInt) rfl rfl c55
      refine lv_iload_n hx hb dX2_tryFrom_17 rfl (lv_at hl 1 rfl) ?_
      refine lv_bipush (v := 12) hx hb dX2_tryFrom_18 (by decide) ?_
      refine lv_icmp_lt (x := p1) (y := 12) (tgt := 31) hx hb dX2_tryFrom_20 (by decide) (fun c61 => ?_) (fun c61 => ?_)
      ·
        have c61 := icc_lt (m := p1.toInt) (n := 12) rfl (by decide) c61
        refine lv_aload_n hx hb dX2_tryFrom_31 rfl (lv_at hl 0 rfl) ?_
        refine x_geti (Or.inl fl_X2_64) C hP (by decide) xs_10 rfl dX2_tryFrom_32 (fun x62 e63 => ?_)
        refine lv_iload_n hx hb dX2_tryFrom_35 rfl (lv_at hl 1 rfl) ?_
        refine x_callSi (rest := []) li_X2_56 C (zX2_isIn l G H.size b a g0 L0 hI x62 p1) (kR rfl) hP hD hS rfl hl.1 rfl (Nat.le_of_ble_eq_true rfl) dX2_tryFrom_36 (fun x65 u66 H locs hw64 hP hD hS => ?_)
        obtain ⟨g, L⟩ := u66
        obtain ⟨hI, h0n, b67⟩ := hw64
        have h0c : g 0 = g0 0 := h0n.trans h0c
        have hI : zI XT g := hI
        have hP : va_P G.1 vwCl (zw G (XS b) 105 a g L) H := hP
        have hD : va_D A (zw G (XS b) 105 a g L) := hD
        refine lv_if_ne (x := x65) (tgt := 53) hx hb dX2_tryFrom_39 (by decide) (fun c69 => ?_) (fun c69 => ?_)
        ·
          have c69 := icc_neq (m := x65.toInt) (n := 0) rfl (by decide) c69
          refine lv_aload_n hx hb dX2_tryFrom_53 rfl (lv_at hl 0 rfl) ?_
          refine x_geti (Or.inl fl_X2_29) C hP (by decide) xs_10 rfl dX2_tryFrom_54 (fun x70 e71 => ?_)
          refine lv_iload_n hx hb dX2_tryFrom_57 rfl (lv_at hl 1 rfl) ?_
          refine x_callSi (rest := []) li_X2_56 C (zX2_isIn l G H.size b a g L hI x70 p1) (kR rfl) hP hD hS rfl hl.1 rfl (Nat.le_of_ble_eq_true rfl) dX2_tryFrom_58 (fun x73 u74 H locs hw72 hP hD hS => ?_)
          obtain ⟨g, L⟩ := u74
          obtain ⟨hI, h0n, b75⟩ := hw72
          have h0c : g 0 = g0 0 := h0n.trans h0c
          have hI : zI XT g := hI
          have hP : va_P G.1 vwCl (zw G (XS b) 105 a g L) H := hP
          have hD : va_D A (zw G (XS b) 105 a g L) := hD
          refine lv_if_ne (x := x73) (tgt := 83) hx hb dX2_tryFrom_61 (by decide) (fun c77 => ?_) (fun c77 => ?_)
          ·
            have c77 := icc_neq (m := x73.toInt) (n := 0) rfl (by decide) c77
            refine lv_aload_n hx hb dX2_tryFrom_83 rfl (lv_at hl 0 rfl) ?_
            refine lv_iload_n hx hb dX2_tryFrom_84 rfl (lv_at hl 1 rfl) ?_
            refine lv_iload_n hx hb dX2_tryFrom_85 rfl (lv_at hl 2 rfl) ?_
            refine x_callVv (rest := []) li_X2_89 C (zX2_tryGapsOf_10_L10 l G H.size b a g L hI p1 p2 (by omega)) (kR rfl) hP hD hS 10 2 rfl (zat (by decide) xs_10) rfl hl.1 rfl (Nat.le_of_ble_eq_true rfl) dX2_tryFrom_86 (fun u80 H locs hw78 hP hD hS => ?_)
            obtain ⟨g, L⟩ := u80
            obtain ⟨hI, h0n⟩ := hw78
            have h0c : g 0 = g0 0 := h0n.trans h0c
            have hI : zI XT g := hI
            have hP : va_P G.1 vwCl (zw G (XS b) 105 a g L) H := hP
            have hD : va_D A (zw G (XS b) 105 a g L) := hD
            exact J54 g L H locs ls hI h0c hP hD hS (lv_sub hl [] rfl)
          ·
            have c77 := icc_eq (m := x73.toInt) (n := 0) rfl (by decide) c77
            refine lv_aload_n hx hb dX2_tryFrom_64 rfl (lv_at hl 0 rfl) ?_
            refine x_getr (Or.inl fl_X2_18) C hP (by decide) xs_10 rfl dX2_tryFrom_65 ?_
            refine lv_iload_n hx hb dX2_tryFrom_68 rfl (lv_at hl 1 rfl) ?_
            refine x_callNv (rest := []) li_X2_86 C (zX1_runOne_8 l G H.size b a g L hI p1 (by omega)) (kR rfl) hP hD hS 8 1 rfl (zat (by decide) xs_8) rfl hl.1 rfl (Nat.le_of_ble_eq_true rfl) dX2_tryFrom_69 (fun u85 H locs hw83 hP hD hS => ?_)
            obtain ⟨g, L⟩ := u85
            obtain ⟨hI, h0n⟩ := hw83
            have h0c : g 0 = g0 0 := h0n.trans h0c
            have hI : zI XT g := hI
            have hP : va_P G.1 vwCl (zw G (XS b) 105 a g L) H := hP
            have hD : va_D A (zw G (XS b) 105 a g L) := hD
            refine lv_aload_n hx hb dX2_tryFrom_72 rfl (lv_at hl 0 rfl) ?_
            refine lv_iload_n hx hb dX2_tryFrom_73 rfl (lv_at hl 1 rfl) ?_
            refine lv_iconst (v := 1) hx hb dX2_tryFrom_74 (by decide) ?_
            refine lv_iadd hx hb dX2_tryFrom_75 ?_
            refine x_val (ic_addc (m := p1.toInt) (n := 1) rfl (by decide) (by omega) (by omega)) (fun x88 e89 => ?_)
            refine lv_iload_n hx hb dX2_tryFrom_76 rfl (lv_at hl 2 rfl) ?_
            refine x_callVv (rest := []) li_X2_60 C (zX2_tryFrom_10_L9 l G H.size b a g L hI x88 p2 (by omega)) (kR rfl) hP hD hS 10 2 rfl (zat (by decide) xs_10) rfl hl.1 rfl (Nat.le_of_ble_eq_true rfl) dX2_tryFrom_77 (fun u92 H locs hw90 hP hD hS => ?_)
            obtain ⟨g, L⟩ := u92
            obtain ⟨hI, h0n⟩ := hw90
            have h0c : g 0 = g0 0 := h0n.trans h0c
            have hI : zI XT g := hI
            have hP : va_P G.1 vwCl (zw G (XS b) 105 a g L) H := hP
            have hD : va_D A (zw G (XS b) 105 a g L) := hD
            refine lv_goto (tgt := 89) hx hb dX2_tryFrom_80 (by decide) ?_
            exact J54 g L H locs ls hI h0c hP hD hS (lv_sub hl [] rfl)
        ·
          have c69 := icc_eq (m := x65.toInt) (n := 0) rfl (by decide) c69
          refine lv_aload_n hx hb dX2_tryFrom_42 rfl (lv_at hl 0 rfl) ?_
          refine lv_iload_n hx hb dX2_tryFrom_43 rfl (lv_at hl 1 rfl) ?_
          refine lv_iconst (v := 1) hx hb dX2_tryFrom_44 (by decide) ?_
          refine lv_iadd hx hb dX2_tryFrom_45 ?_
          refine x_val (ic_addc (m := p1.toInt) (n := 1) rfl (by decide) (by omega) (by omega)) (fun x95 e96 => ?_)
          refine lv_iload_n hx hb dX2_tryFrom_46 rfl (lv_at hl 2 rfl) ?_
          refine x_callVv (rest := []) li_X2_60 C (zX2_tryFrom_10_L9 l G H.size b a g L hI x95 p2 (by omega)) (kR rfl) hP hD hS 10 2 rfl (zat (by decide) xs_10) rfl hl.1 rfl (Nat.le_of_ble_eq_true rfl) dX2_tryFrom_47 (fun u99 H locs hw97 hP hD hS => ?_)
          obtain ⟨g, L⟩ := u99
          obtain ⟨hI, h0n⟩ := hw97
          have h0c : g 0 = g0 0 := h0n.trans h0c
          have hI : zI XT g := hI
          have hP : va_P G.1 vwCl (zw G (XS b) 105 a g L) H := hP
          have hD : va_D A (zw G (XS b) 105 a g L) := hD
          refine lv_goto (tgt := 89) hx hb dX2_tryFrom_50 (by decide) ?_
          exact J54 g L H locs ls hI h0c hP hD hS (lv_sub hl [] rfl)
      ·
        have c61 := icc_nlt (m := p1.toInt) (n := 12) rfl (by decide) c61
        omega
  ·
    have c3 := icc_nlt (m := p2.toInt) (n := x1.toInt) rfl rfl c3
    exact x_vret C hr hlk hP hD hS (g0, L0) rfl ⟨hI, h0c⟩ (Nat.le_of_ble_eq_true rfl) (Nat.le_of_ble_eq_true rfl) dX2_tryFrom_8
set_option maxHeartbeats 4000000 in
set_option maxRecDepth 100000 in
theorem zX2_tryGapsOf_10_L11 (l : Launch) (G : kG) (sz : Nat) (b : Nat) (a : Nat → Nat) (g0 : Nat → Nat → Int32) (L0 : Nat → Nat → Int64) (hI : zI XT g0) (p1 : Int32) (p2 : Int32) (hp1 : 1 ≤ p1.toInt ∧ p1.toInt ≤ 11) : kM l yX2_tryGapsOf cX2_tryGapsOf 5 none { frames := 30, cells := 0, slots := 0, locals := 663 } G [.ref (a 10), .int p1, .int p2] (zw G (XS b) 105 a g0 L0) sz (kQv G (S := zS) (fun u => zI XT u.1 ∧ u.1 0 = g0 0) (fun u => zw G (XS b) 105 a u.1 u.2)) := by
  refine kM.of (by decide) (Nat.le_of_ble_eq_true rfl) ?_
  intro p e s m below meth c A ls H C hr hlk hnm hP hD hS hl
  have C : kC G p s m c cX2_tryGapsOf 5 RX2 A := C
  have hx := C.1
  have hb := C.2.1
  have hl : lv_has ls 5 [(0, .ref (a 10)), (1, .int p1), (2, .int p2)] := hl
  have h0c : g0 0 = g0 0 := rfl
  obtain ⟨locs, hlocs⟩ : ∃ q : List Loc, q = [] := ⟨_, rfl⟩
  rw [← hlocs] at hS
  rw [← hlocs]
  refine lv_iconst (v := -1) hx hb dX2_tryGapsOf_0 (by decide) ?_
  refine lv_istore_n (lv' := [(3, .int (-1)), (0, .ref (a 10)), (1, .int p1), (2, .int p2)]) hx hb dX2_tryGapsOf_1 rfl hl (by decide) rfl (fun ls hl => ?_)
  refine lv_iconst (v := 0) hx hb dX2_tryGapsOf_2 (by decide) ?_
  refine lv_istore (lv' := [(4, .int 0), (3, .int (-1)), (0, .ref (a 10)), (1, .int p1), (2, .int p2)]) hx hb dX2_tryGapsOf_3 hl (by decide) rfl (fun ls hl => ?_)
  have lp279 : ∀ fu : Nat, ∀ (x276 : Int32) (x277 : Int32) (g : Nat → Nat → Int32) (L : Nat → Nat → Int64) (H : Heap) (locs : List Loc) (ls : Array Slot), (0 ≤ x277.toInt ∧ x277.toInt ≤ 5) → zI XT g → g 0 = g0 0 → va_P G.1 vwCl (zw G (XS b) 105 a g L) H → va_D A (zw G (XS b) 105 a g L) → va_S A s.heap H locs → lv_has ls 5 [(0, .ref (a 10)), (1, .int p1), (2, .int p2), (3, .int x276), (4, .int x277)] → 5 - x277.toInt < (fu : Int) → W p l e { frames := 30, cells := 0, slots := 0, locals := 663 } s m [.ref (a 10), .int p1, .int p2].toArray below meth c H locs 0 0 (MQ below ((kQv G (S := zS) (fun u => zI XT u.1 ∧ u.1 0 = g0 0) (fun u => zw G (XS b) 105 a u.1 u.2)) A) [.ref (a 10), .int p1, .int p2].toArray s 0 0 A) (F0 m 5 ls []) := by
    intro fu
    induction fu with
    | zero => intro x276 x277 g L H locs ls b278 hI h0c hP hD hS hl hm; exact absurd hm (by omega)
    | succ fu ih =>
      intro x276 x277 g L H locs ls b278 hI h0c hP hD hS hl hm
      have ih280 := ih
      refine lv_iload hx hb dX2_tryGapsOf_5 (lv_at hl 4 rfl) ?_
      refine lv_iconst (v := 4) hx hb dX2_tryGapsOf_7 (by decide) ?_
      refine lv_icmp_gt (x := x277) (y := 4) (tgt := 70) hx hb dX2_tryGapsOf_8 (by decide) (fun c281 => ?_) (fun c281 => ?_)
      ·
        have c281 := icc_lt (m := 4) (n := x277.toInt) (by decide) rfl c281
        exact x_vret C hr hlk hP hD hS (g, L) rfl ⟨hI, h0c⟩ (Nat.le_of_ble_eq_true rfl) (Nat.le_of_ble_eq_true rfl) dX2_tryGapsOf_70
      ·
        have c281 := icc_nlt (m := 4) (n := x277.toInt) (by decide) rfl c281
        refine lv_aload_n hx hb dX2_tryGapsOf_11 rfl (lv_at hl 0 rfl) ?_
        refine x_getr (Or.inl fl_X2_28) C hP (by decide) xs_10 rfl dX2_tryGapsOf_12 ?_
        refine x_getr (Or.inr fl_X2_45) C hP (by decide) xs_6 rfl dX2_tryGapsOf_15 ?_
        refine lv_iload_n hx hb dX2_tryGapsOf_18 rfl (lv_at hl 1 rfl) ?_
        refine lv_iload hx hb dX2_tryGapsOf_19 (lv_at hl 4 rfl) ?_
        refine x_ast (hI.updN rfl) C hP hD hS (by decide) xs_26 (by omega) (by omega) dX2_tryGapsOf_21 (fun g H locs eg hI hP hD hS => ?_)
        have h0c : g 0 = g0 0 := by rw [eg]; exact h0c
        refine lv_aload_n hx hb dX2_tryGapsOf_22 rfl (lv_at hl 0 rfl) ?_
        refine x_getr (Or.inl fl_X2_18) C hP (by decide) xs_10 rfl dX2_tryGapsOf_23 ?_
        refine lv_iload_n hx hb dX2_tryGapsOf_26 rfl (lv_at hl 1 rfl) ?_
        refine x_callNv (rest := []) li_X2_86 C (zX1_runOne_8 l G H.size b a g L hI p1 (by omega)) (kR rfl) hP hD hS 8 1 rfl (zat (by decide) xs_8) rfl hl.1 rfl (Nat.le_of_ble_eq_true rfl) dX2_tryGapsOf_27 (fun u284 H locs hw282 hP hD hS => ?_)
        obtain ⟨g, L⟩ := u284
        obtain ⟨hI, h0n⟩ := hw282
        have h0c : g 0 = g0 0 := h0n.trans h0c
        have hI : zI XT g := hI
        have hP : va_P G.1 vwCl (zw G (XS b) 105 a g L) H := hP
        have hD : va_D A (zw G (XS b) 105 a g L) := hD
        refine lv_aload_n hx hb dX2_tryGapsOf_30 rfl (lv_at hl 0 rfl) ?_
        refine x_getr (Or.inl fl_X2_18) C hP (by decide) xs_10 rfl dX2_tryGapsOf_31 ?_
        refine x_getr (Or.inr fl_X2_92) C hP (by decide) xs_8 rfl dX2_tryGapsOf_34 ?_
        refine lv_iload_n hx hb dX2_tryGapsOf_37 rfl (lv_at hl 1 rfl) ?_
        refine x_ald C hP (by decide) xs_44 (by omega) (by omega) dX2_tryGapsOf_38 (fun x287 e288 => ?_)
        refine lv_iload_n hx hb dX2_tryGapsOf_39 rfl (lv_at hl 3 rfl) ?_
        have J303 : ∀ (x304 : Int32) (g : Nat → Nat → Int32) (L : Nat → Nat → Int64) (H : Heap) (locs : List Loc) (ls : Array Slot), zI XT g → g 0 = g0 0 → va_P G.1 vwCl (zw G (XS b) 105 a g L) H → va_D A (zw G (XS b) 105 a g L) → va_S A s.heap H locs → lv_has ls 5 [(0, .ref (a 10)), (1, .int p1), (2, .int p2), (3, .int x304), (4, .int x277)] → W p l e { frames := 30, cells := 0, slots := 0, locals := 663 } s m [.ref (a 10), .int p1, .int p2].toArray below meth c H locs 0 0 (MQ below ((kQv G (S := zS) (fun u => zI XT u.1 ∧ u.1 0 = g0 0) (fun u => zw G (XS b) 105 a u.1 u.2)) A) [.ref (a 10), .int p1, .int p2].toArray s 0 0 A) (F0 m 64 ls []) := by
          intro x304 g L H locs ls hI h0c hP hD hS hl
          obtain ⟨x305, e306q, e306⟩ : ∃ z : Int32, x277 + Int32.ofInt (1) = z ∧ z.toInt = x277.toInt + (1) := ⟨_, rfl, ic_addc rfl (by decide) (by omega) (by omega)⟩
          refine lv_iinc (v := x305) (lv' := [(4, .int x305), (0, .ref (a 10)), (1, .int p1), (2, .int p2), (3, .int x304)]) hx hb dX2_tryGapsOf_64 hl (k := 4) rfl e306q (by decide) rfl (fun ls hl => ?_)
          refine lv_goto (tgt := 5) hx hb dX2_tryGapsOf_67 (by decide) ?_
          exact ih280 x304 x305 g L H locs ls (by omega) hI h0c hP hD hS (lv_sub hl [1, 2, 3, 4, 0] rfl) (by omega)
        refine lv_icmp_eq (x := x287) (y := x276) (tgt := 64) hx hb dX2_tryGapsOf_40 (by decide) (fun c307 => ?_) (fun c307 => ?_)
        ·
          have c307 := icc_eq (m := x287.toInt) (n := x276.toInt) rfl rfl c307
          exact J303 x276 g L H locs ls hI h0c hP hD hS (lv_sub hl [0, 1, 2, 3, 4] rfl)
        ·
          have c307 := icc_neq (m := x287.toInt) (n := x276.toInt) rfl rfl c307
          refine lv_aload_n hx hb dX2_tryGapsOf_43 rfl (lv_at hl 0 rfl) ?_
          refine x_getr (Or.inl fl_X2_18) C hP (by decide) xs_10 rfl dX2_tryGapsOf_44 ?_
          refine x_getr (Or.inr fl_X2_92) C hP (by decide) xs_8 rfl dX2_tryGapsOf_47 ?_
          refine lv_iload_n hx hb dX2_tryGapsOf_50 rfl (lv_at hl 1 rfl) ?_
          refine x_ald C hP (by decide) xs_44 (by omega) (by omega) dX2_tryGapsOf_51 (fun x308 e309 => ?_)
          refine lv_istore_n (lv' := [(3, .int x308), (0, .ref (a 10)), (1, .int p1), (2, .int p2), (4, .int x277)]) hx hb dX2_tryGapsOf_52 rfl hl (by decide) rfl (fun ls hl => ?_)
          refine lv_aload_n hx hb dX2_tryGapsOf_53 rfl (lv_at hl 1 rfl) ?_
          refine lv_iload_n hx hb dX2_tryGapsOf_54 rfl (lv_at hl 2 rfl) ?_
          refine lv_iconst (v := 1) hx hb dX2_tryGapsOf_55 (by decide) ?_
          refine lv_iadd hx hb dX2_tryGapsOf_56 ?_
          refine x_val (ic_addc (m := p1.toInt) (n := 1) rfl (by decide) (by omega) (by omega)) (fun x310 e311 => ?_)
          refine lv_iload_n hx hb dX2_tryGapsOf_57 rfl (lv_at hl 3 rfl) ?_
          refine lv_iload hx hb dX2_tryGapsOf_58 (lv_at hl 4 rfl) ?_
          refine lv_iadd hx hb dX2_tryGapsOf_60 ?_
          refine x_any (fun x312 => ?_)
          refine x_callVv (rest := []) li_X2_60 C (zX2_tryFrom_10_L10 l G H.size b a g L hI x310 x312 (by omega)) (kR rfl) hP hD hS 10 2 rfl (zat (by decide) xs_10) rfl hl.1 rfl (Nat.le_of_ble_eq_true rfl) dX2_tryGapsOf_61 (fun u315 H locs hw313 hP hD hS => ?_)
          obtain ⟨g, L⟩ := u315
          obtain ⟨hI, h0n⟩ := hw313
          have h0c : g 0 = g0 0 := h0n.trans h0c
          have hI : zI XT g := hI
          have hP : va_P G.1 vwCl (zw G (XS b) 105 a g L) H := hP
          have hD : va_D A (zw G (XS b) 105 a g L) := hD
          exact J303 x308 g L H locs ls hI h0c hP hD hS (lv_sub hl [1, 2, 3, 0, 4] rfl)
  have hc_ : ((-1) : Int32).toInt = (-1) := by decide
  have hc_ : (0 : Int32).toInt = 0 := by decide
  exact lp279 7 (-1) 0 g0 L0 H locs ls (by decide) hI h0c hP hD hS (lv_sub hl [2, 3, 4, 1, 0] rfl) (by omega)
set_option maxHeartbeats 4000000 in
set_option maxRecDepth 100000 in
theorem zX2_tryFrom_10_L11 (l : Launch) (G : kG) (sz : Nat) (b : Nat) (a : Nat → Nat) (g0 : Nat → Nat → Int32) (L0 : Nat → Nat → Int64) (hI : zI XT g0) (p1 : Int32) (p2 : Int32) (hp1 : 1 ≤ p1.toInt ∧ p1.toInt ≤ 12) : kM l yX2_tryFrom cX2_tryFrom 3 none { frames := 31, cells := 0, slots := 0, locals := 687 } G [.ref (a 10), .int p1, .int p2] (zw G (XS b) 105 a g0 L0) sz (kQv G (S := zS) (fun u => zI XT u.1 ∧ u.1 0 = g0 0) (fun u => zw G (XS b) 105 a u.1 u.2)) := by
  refine kM.of (by decide) (Nat.le_of_ble_eq_true rfl) ?_
  intro p e s m below meth c A ls H C hr hlk hnm hP hD hS hl
  have C : kC G p s m c cX2_tryFrom 3 RX2 A := C
  have hx := C.1
  have hb := C.2.1
  have hl : lv_has ls 3 [(0, .ref (a 10)), (1, .int p1), (2, .int p2)] := hl
  have h0c : g0 0 = g0 0 := rfl
  obtain ⟨locs, hlocs⟩ : ∃ q : List Loc, q = [] := ⟨_, rfl⟩
  rw [← hlocs] at hS
  rw [← hlocs]
  refine lv_iload_n hx hb dX2_tryFrom_0 rfl (lv_at hl 2 rfl) ?_
  refine lv_aload_n hx hb dX2_tryFrom_1 rfl (lv_at hl 0 rfl) ?_
  refine x_geti (Or.inl fl_X2_39) C hP (by decide) xs_10 rfl dX2_tryFrom_2 (fun x1 e2 => ?_)
  refine lv_icmp_lt (x := p2) (y := x1) (tgt := 9) hx hb dX2_tryFrom_5 (by decide) (fun c3 => ?_) (fun c3 => ?_)
  ·
    have c3 := icc_lt (m := p2.toInt) (n := x1.toInt) rfl rfl c3
    refine lv_iload_n hx hb dX2_tryFrom_9 rfl (lv_at hl 1 rfl) ?_
    refine lv_aload_n hx hb dX2_tryFrom_10 rfl (lv_at hl 0 rfl) ?_
    refine x_getT hI rfl (Or.inl fl_X2_36) C hP (by decide) xs_10 rfl dX2_tryFrom_11 (fun x4 e5 b6 => ?_)
    have J54 : ∀ (g : Nat → Nat → Int32) (L : Nat → Nat → Int64) (H : Heap) (locs : List Loc) (ls : Array Slot), zI XT g → g 0 = g0 0 → va_P G.1 vwCl (zw G (XS b) 105 a g L) H → va_D A (zw G (XS b) 105 a g L) → va_S A s.heap H locs → lv_has ls 3 [] → W p l e { frames := 31, cells := 0, slots := 0, locals := 687 } s m [.ref (a 10), .int p1, .int p2].toArray below meth c H locs 0 0 (MQ below ((kQv G (S := zS) (fun u => zI XT u.1 ∧ u.1 0 = g0 0) (fun u => zw G (XS b) 105 a u.1 u.2)) A) [.ref (a 10), .int p1, .int p2].toArray s 0 0 A) (F0 m 89 ls []) := by
      intro g L H locs ls hI h0c hP hD hS hl
      exact x_vret C hr hlk hP hD hS (g, L) rfl ⟨hI, h0c⟩ (Nat.le_of_ble_eq_true rfl) (Nat.le_of_ble_eq_true rfl) dX2_tryFrom_89
    refine lv_icmp_gt (x := p1) (y := x4) (tgt := 23) hx hb dX2_tryFrom_14 (by decide) (fun c55 => ?_) (fun c55 => ?_)
    ·
      have c55 := icc_lt (m := x4.toInt) (n := p1.toInt) rfl rfl c55
      refine lv_aload_n hx hb dX2_tryFrom_23 rfl (lv_at hl 0 rfl) ?_
      refine lv_iload_n hx hb dX2_tryFrom_24 rfl (lv_at hl 2 rfl) ?_
      refine x_callVv (rest := []) li_X2_82 C (zX2_takeIfOnTime_10 l G H.size b a g0 L0 hI p2) (kR rfl) hP hD hS 10 2 rfl (zat (by decide) xs_10) rfl hl.1 rfl (Nat.le_of_ble_eq_true rfl) dX2_tryFrom_25 (fun u58 H locs hw56 hP hD hS => ?_)
      obtain ⟨g, L⟩ := u58
      obtain ⟨hI, h0n⟩ := hw56
      have h0c : g 0 = g0 0 := h0n.trans h0c
      have hI : zI XT g := hI
      have hP : va_P G.1 vwCl (zw G (XS b) 105 a g L) H := hP
      have hD : va_D A (zw G (XS b) 105 a g L) := hD
      refine lv_goto (tgt := 89) hx hb dX2_tryFrom_28 (by decide) ?_
      exact J54 g L H locs ls hI h0c hP hD hS (lv_sub hl [] rfl)
    ·
      have c55 := icc_nlt (m := x4.toInt) (n := p1.toInt) rfl rfl c55
      refine lv_iload_n hx hb dX2_tryFrom_17 rfl (lv_at hl 1 rfl) ?_
      refine lv_bipush (v := 12) hx hb dX2_tryFrom_18 (by decide) ?_
      refine lv_icmp_lt (x := p1) (y := 12) (tgt := 31) hx hb dX2_tryFrom_20 (by decide) (fun c61 => ?_) (fun c61 => ?_)
      ·
        have c61 := icc_lt (m := p1.toInt) (n := 12) rfl (by decide) c61
        refine lv_aload_n hx hb dX2_tryFrom_31 rfl (lv_at hl 0 rfl) ?_
        refine x_geti (Or.inl fl_X2_64) C hP (by decide) xs_10 rfl dX2_tryFrom_32 (fun x62 e63 => ?_)
        refine lv_iload_n hx hb dX2_tryFrom_35 rfl (lv_at hl 1 rfl) ?_
        refine x_callSi (rest := []) li_X2_56 C (zX2_isIn l G H.size b a g0 L0 hI x62 p1) (kR rfl) hP hD hS rfl hl.1 rfl (Nat.le_of_ble_eq_true rfl) dX2_tryFrom_36 (fun x65 u66 H locs hw64 hP hD hS => ?_)
        obtain ⟨g, L⟩ := u66
        obtain ⟨hI, h0n, b67⟩ := hw64
        have h0c : g 0 = g0 0 := h0n.trans h0c
        have hI : zI XT g := hI
        have hP : va_P G.1 vwCl (zw G (XS b) 105 a g L) H := hP
        have hD : va_D A (zw G (XS b) 105 a g L) := hD
        refine lv_if_ne (x := x65) (tgt := 53) hx hb dX2_tryFrom_39 (by decide) (fun c69 => ?_) (fun c69 => ?_)
        ·
          have c69 := icc_neq (m := x65.toInt) (n := 0) rfl (by decide) c69
          refine lv_aload_n hx hb dX2_tryFrom_53 rfl (lv_at hl 0 rfl) ?_
          refine x_geti (Or.inl fl_X2_29) C hP (by decide) xs_10 rfl dX2_tryFrom_54 (fun x70 e71 => ?_)
          refine lv_iload_n hx hb dX2_tryFrom_57 rfl (lv_at hl 1 rfl) ?_
          refine x_callSi (rest := []) li_X2_56 C (zX2_isIn l G H.size b a g L hI x70 p1) (kR rfl) hP hD hS rfl hl.1 rfl (Nat.le_of_ble_eq_true rfl) dX2_tryFrom_58 (fun x73 u74 H locs hw72 hP hD hS => ?_)
          obtain ⟨g, L⟩ := u74
          obtain ⟨hI, h0n, b75⟩ := hw72
          have h0c : g 0 = g0 0 := h0n.trans h0c
          have hI : zI XT g := hI
          have hP : va_P G.1 vwCl (zw G (XS b) 105 a g L) H := hP
          have hD : va_D A (zw G (XS b) 105 a g L) := hD
          refine lv_if_ne (x := x73) (tgt := 83) hx hb dX2_tryFrom_61 (by decide) (fun c77 => ?_) (fun c77 => ?_)
          ·
            have c77 := icc_neq (m := x73.toInt) (n := 0) rfl (by decide) c77
            refine lv_aload_n hx hb dX2_tryFrom_83 rfl (lv_at hl 0 rfl) ?_
            refine lv_iload_n hx hb dX2_tryFrom_84 rfl (lv_at hl 1 rfl) ?_
            refine lv_iload_n hx hb dX2_tryFrom_85 rfl (lv_at hl 2 rfl) ?_
            refine x_callVv (rest := []) li_X2_89 C (zX2_tryGapsOf_10_L11 l G H.size b a g L hI p1 p2 (by omega)) (kR rfl) hP hD hS 10 2 rfl (zat (by decide) xs_10) rfl hl.1 rfl (Nat.le_of_ble_eq_true rfl) dX2_tryFrom_86 (fun u80 H locs hw78 hP hD hS => ?_)
            obtain ⟨g, L⟩ := u80
            obtain ⟨hI, h0n⟩ := hw78
            have h0c : g 0 = g0 0 := h0n.trans h0c
            have hI : zI XT g := hI
            have hP : va_P G.1 vwCl (zw G (XS b) 105 a g L) H := hP
            have hD : va_D A (zw G (XS b) 105 a g L) := hD
            exact J54 g L H locs ls hI h0c hP hD hS (lv_sub hl [] rfl)
          ·
            have c77 := icc_eq (m := x73.toInt) (n := 0) rfl (by decide) c77
            refine lv_aload_n hx hb dX2_tryFrom_64 rfl (lv_at hl 0 rfl) ?_
            refine x_getr (Or.inl fl_X2_18) C hP (by decide) xs_10 rfl dX2_tryFrom_65 ?_
            refine lv_iload_n hx hb dX2_tryFrom_68 rfl (lv_at hl 1 rfl) ?_
            refine x_callNv (rest := []) li_X2_86 C (zX1_runOne_8 l G H.size b a g L hI p1 (by omega)) (kR rfl) hP hD hS 8 1 rfl (zat (by decide) xs_8) rfl hl.1 rfl (Nat.le_of_ble_eq_true rfl) dX2_tryFrom_69 (fun u85 H locs hw83 hP hD hS => ?_)
            obtain ⟨g, L⟩ := u85
            obtain ⟨hI, h0n⟩ := hw83
            have h0c : g 0 = g0 0 := h0n.trans h0c
            have hI : zI XT g := hI
            have hP : va_P G.1 vwCl (zw G (XS b) 105 a g L) H := hP
            have hD : va_D A (zw G (XS b) 105 a g L) := hD
            refine lv_aload_n hx hb dX2_tryFrom_72 rfl (lv_at hl 0 rfl) ?_
            refine lv_iload_n hx hb dX2_tryFrom_73 rfl (lv_at hl 1 rfl) ?_
            refine lv_iconst (v := 1) hx hb dX2_tryFrom_74 (by decide) ?_
            refine lv_iadd hx hb dX2_tryFrom_75 ?_
            refine x_val (ic_addc (m := p1.toInt) (n := 1) rfl (by decide) (by omega) (by omega)) (fun x88 e89 => ?_)
            refine lv_iload_n hx hb dX2_tryFrom_76 rfl (lv_at hl 2 rfl) ?_
            refine x_callVv (rest := []) li_X2_60 C (zX2_tryFrom_10_L10 l G H.size b a g L hI x88 p2 (by omega)) (kR rfl) hP hD hS 10 2 rfl (zat (by decide) xs_10) rfl hl.1 rfl (Nat.le_of_ble_eq_true rfl) dX2_tryFrom_77 (fun u92 H locs hw90 hP hD hS => ?_)
            obtain ⟨g, L⟩ := u92
            obtain ⟨hI, h0n⟩ := hw90
            have h0c : g 0 = g0 0 := h0n.trans h0c
            have hI : zI XT g := hI
            have hP : va_P G.1 vwCl (zw G (XS b) 105 a g L) H := hP
            have hD : va_D A (zw G (XS b) 105 a g L) := hD
            refine lv_goto (tgt := 89) hx hb dX2_tryFrom_80 (by decide) ?_
            exact J54 g L H locs ls hI h0c hP hD hS (lv_sub hl [] rfl)
        ·
          have c69 := icc_eq (m := x65.toInt) (n := 0) rfl (by decide) c69
          refine lv_aload_n hx hb dX2_tryFrom_42 rfl (lv_at hl 0 rfl) ?_
          refine lv_iload_n hx hb dX2_tryFrom_43 rfl (lv_at hl 1 rfl) ?_
          refine lv_iconst (v := 1) hx hb dX2_tryFrom_44 (by decide) ?_
          refine lv_iadd hx hb dX2_tryFrom_45 ?_
          refine x_val (ic_addc (m := p1.toInt) (n := 1) rfl (by decide) (by omega) (by omega)) (fun x95 e96 => ?_)
          refine lv_iload_n hx hb dX2_tryFrom_46 rfl (lv_at hl 2 rfl) ?_
          refine x_callVv (rest := []) li_X2_60 C (zX2_tryFrom_10_L10 l G H.size b a g L hI x95 p2 (by omega)) (kR rfl) hP hD hS 10 2 rfl (zat (by decide) xs_10) rfl hl.1 rfl (Nat.le_of_ble_eq_true rfl) dX2_tryFrom_47 (fun u99 H locs hw97 hP hD hS => ?_)
          obtain ⟨g, L⟩ := u99
          obtain ⟨hI, h0n⟩ := hw97
          have h0c : g 0 = g0 0 := h0n.trans h0c
          have hI : zI XT g := hI
          have hP : va_P G.1 vwCl (zw G (XS b) 105 a g L) H := hP
          have hD : va_D A (zw G (XS b) 105 a g L) := hD
          refine lv_goto (tgt := 89) hx hb dX2_tryFrom_50 (by decide) ?_
          exact J54 g L H locs ls hI h0c hP hD hS (lv_sub hl [] rfl)
      ·
        have c61 := icc_nlt (m := p1.toInt) (n := 12) rfl (by decide) c61
        omega
  ·
    have c3 := icc_nlt (m := p2.toInt) (n := x1.toInt) rfl rfl c3
    exact x_vret C hr hlk hP hD hS (g0, L0) rfl ⟨hI, h0c⟩ (Nat.le_of_ble_eq_true rfl) (Nat.le_of_ble_eq_true rfl) dX2_tryFrom_8
set_option maxHeartbeats 4000000 in
set_option maxRecDepth 100000 in
theorem zX2_tryGapsOf_10_L12 (l : Launch) (G : kG) (sz : Nat) (b : Nat) (a : Nat → Nat) (g0 : Nat → Nat → Int32) (L0 : Nat → Nat → Int64) (hI : zI XT g0) (p1 : Int32) (p2 : Int32) (hp1 : 0 ≤ p1.toInt ∧ p1.toInt ≤ 11) : kM l yX2_tryGapsOf cX2_tryGapsOf 5 none { frames := 32, cells := 0, slots := 0, locals := 709 } G [.ref (a 10), .int p1, .int p2] (zw G (XS b) 105 a g0 L0) sz (kQv G (S := zS) (fun u => zI XT u.1 ∧ u.1 0 = g0 0) (fun u => zw G (XS b) 105 a u.1 u.2)) := by
  refine kM.of (by decide) (Nat.le_of_ble_eq_true rfl) ?_
  intro p e s m below meth c A ls H C hr hlk hnm hP hD hS hl
  have C : kC G p s m c cX2_tryGapsOf 5 RX2 A := C
  have hx := C.1
  have hb := C.2.1
  have hl : lv_has ls 5 [(0, .ref (a 10)), (1, .int p1), (2, .int p2)] := hl
  have h0c : g0 0 = g0 0 := rfl
  obtain ⟨locs, hlocs⟩ : ∃ q : List Loc, q = [] := ⟨_, rfl⟩
  rw [← hlocs] at hS
  rw [← hlocs]
  refine lv_iconst (v := -1) hx hb dX2_tryGapsOf_0 (by decide) ?_
  refine lv_istore_n (lv' := [(3, .int (-1)), (0, .ref (a 10)), (1, .int p1), (2, .int p2)]) hx hb dX2_tryGapsOf_1 rfl hl (by decide) rfl (fun ls hl => ?_)
  refine lv_iconst (v := 0) hx hb dX2_tryGapsOf_2 (by decide) ?_
  refine lv_istore (lv' := [(4, .int 0), (3, .int (-1)), (0, .ref (a 10)), (1, .int p1), (2, .int p2)]) hx hb dX2_tryGapsOf_3 hl (by decide) rfl (fun ls hl => ?_)
  have lp279 : ∀ fu : Nat, ∀ (x276 : Int32) (x277 : Int32) (g : Nat → Nat → Int32) (L : Nat → Nat → Int64) (H : Heap) (locs : List Loc) (ls : Array Slot), (0 ≤ x277.toInt ∧ x277.toInt ≤ 5) → zI XT g → g 0 = g0 0 → va_P G.1 vwCl (zw G (XS b) 105 a g L) H → va_D A (zw G (XS b) 105 a g L) → va_S A s.heap H locs → lv_has ls 5 [(0, .ref (a 10)), (1, .int p1), (2, .int p2), (3, .int x276), (4, .int x277)] → 5 - x277.toInt < (fu : Int) → W p l e { frames := 32, cells := 0, slots := 0, locals := 709 } s m [.ref (a 10), .int p1, .int p2].toArray below meth c H locs 0 0 (MQ below ((kQv G (S := zS) (fun u => zI XT u.1 ∧ u.1 0 = g0 0) (fun u => zw G (XS b) 105 a u.1 u.2)) A) [.ref (a 10), .int p1, .int p2].toArray s 0 0 A) (F0 m 5 ls []) := by
    intro fu
    induction fu with
    | zero => intro x276 x277 g L H locs ls b278 hI h0c hP hD hS hl hm; exact absurd hm (by omega)
    | succ fu ih =>
      intro x276 x277 g L H locs ls b278 hI h0c hP hD hS hl hm
      have ih280 := ih
      refine lv_iload hx hb dX2_tryGapsOf_5 (lv_at hl 4 rfl) ?_
      refine lv_iconst (v := 4) hx hb dX2_tryGapsOf_7 (by decide) ?_
      refine lv_icmp_gt (x := x277) (y := 4) (tgt := 70) hx hb dX2_tryGapsOf_8 (by decide) (fun c281 => ?_) (fun c281 => ?_)
      ·
        have c281 := icc_lt (m := 4) (n := x277.toInt) (by decide) rfl c281
        exact x_vret C hr hlk hP hD hS (g, L) rfl ⟨hI, h0c⟩ (Nat.le_of_ble_eq_true rfl) (Nat.le_of_ble_eq_true rfl) dX2_tryGapsOf_70
      ·
        have c281 := icc_nlt (m := 4) (n := x277.toInt) (by decide) rfl c281
        refine lv_aload_n hx hb dX2_tryGapsOf_11 rfl (lv_at hl 0 rfl) ?_
        refine x_getr (Or.inl fl_X2_28) C hP (by decide) xs_10 rfl dX2_tryGapsOf_12 ?_
        refine x_getr (Or.inr fl_X2_45) C hP (by decide) xs_6 rfl dX2_tryGapsOf_15 ?_
        refine lv_iload_n hx hb dX2_tryGapsOf_18 rfl (lv_at hl 1 rfl) ?_
        refine lv_iload hx hb dX2_tryGapsOf_19 (lv_at hl 4 rfl) ?_
        refine x_ast (hI.updN rfl) C hP hD hS (by decide) xs_26 (by omega) (by omega) dX2_tryGapsOf_21 (fun g H locs eg hI hP hD hS => ?_)
        have h0c : g 0 = g0 0 := by rw [eg]; exact h0c
        refine lv_aload_n hx hb dX2_tryGapsOf_22 rfl (lv_at hl 0 rfl) ?_
        refine x_getr (Or.inl fl_X2_18) C hP (by decide) xs_10 rfl dX2_tryGapsOf_23 ?_
        refine lv_iload_n hx hb dX2_tryGapsOf_26 rfl (lv_at hl 1 rfl) ?_
        refine x_callNv (rest := []) li_X2_86 C (zX1_runOne_8 l G H.size b a g L hI p1 (by omega)) (kR rfl) hP hD hS 8 1 rfl (zat (by decide) xs_8) rfl hl.1 rfl (Nat.le_of_ble_eq_true rfl) dX2_tryGapsOf_27 (fun u284 H locs hw282 hP hD hS => ?_)
        obtain ⟨g, L⟩ := u284
        obtain ⟨hI, h0n⟩ := hw282
        have h0c : g 0 = g0 0 := h0n.trans h0c
        have hI : zI XT g := hI
        have hP : va_P G.1 vwCl (zw G (XS b) 105 a g L) H := hP
        have hD : va_D A (zw G (XS b) 105 a g L) := hD
        refine lv_aload_n hx hb dX2_tryGapsOf_30 rfl (lv_at hl 0 rfl) ?_
        refine x_getr (Or.inl fl_X2_18) C hP (by decide) xs_10 rfl dX2_tryGapsOf_31 ?_
        refine x_getr (Or.inr fl_X2_92) C hP (by decide) xs_8 rfl dX2_tryGapsOf_34 ?_
        refine lv_iload_n hx hb dX2_tryGapsOf_37 rfl (lv_at hl 1 rfl) ?_
        refine x_ald C hP (by decide) xs_44 (by omega) (by omega) dX2_tryGapsOf_38 (fun x287 e288 => ?_)
        refine lv_iload_n hx hb dX2_tryGapsOf_39 rfl (lv_at hl 3 rfl) ?_
        have J303 : ∀ (x304 : Int32) (g : Nat → Nat → Int32) (L : Nat → Nat → Int64) (H : Heap) (locs : List Loc) (ls : Array Slot), zI XT g → g 0 = g0 0 → va_P G.1 vwCl (zw G (XS b) 105 a g L) H → va_D A (zw G (XS b) 105 a g L) → va_S A s.heap H locs → lv_has ls 5 [(0, .ref (a 10)), (1, .int p1), (2, .int p2), (3, .int x304), (4, .int x277)] → W p l e { frames := 32, cells := 0, slots := 0, locals := 709 } s m [.ref (a 10), .int p1, .int p2].toArray below meth c H locs 0 0 (MQ below ((kQv G (S := zS) (fun u => zI XT u.1 ∧ u.1 0 = g0 0) (fun u => zw G (XS b) 105 a u.1 u.2)) A) [.ref (a 10), .int p1, .int p2].toArray s 0 0 A) (F0 m 64 ls []) := by
          intro x304 g L H locs ls hI h0c hP hD hS hl
          obtain ⟨x305, e306q, e306⟩ : ∃ z : Int32, x277 + Int32.ofInt (1) = z ∧ z.toInt = x277.toInt + (1) := ⟨_, rfl, ic_addc rfl (by decide) (by omega) (by omega)⟩
          refine lv_iinc (v := x305) (lv' := [(4, .int x305), (0, .ref (a 10)), (1, .int p1), (2, .int p2), (3, .int x304)]) hx hb dX2_tryGapsOf_64 hl (k := 4) rfl e306q (by decide) rfl (fun ls hl => ?_)
          refine lv_goto (tgt := 5) hx hb dX2_tryGapsOf_67 (by decide) ?_
          exact ih280 x304 x305 g L H locs ls (by omega) hI h0c hP hD hS (lv_sub hl [1, 2, 3, 4, 0] rfl) (by omega)
        refine lv_icmp_eq (x := x287) (y := x276) (tgt := 64) hx hb dX2_tryGapsOf_40 (by decide) (fun c307 => ?_) (fun c307 => ?_)
        ·
          have c307 := icc_eq (m := x287.toInt) (n := x276.toInt) rfl rfl c307
          exact J303 x276 g L H locs ls hI h0c hP hD hS (lv_sub hl [0, 1, 2, 3, 4] rfl)
        ·
          have c307 := icc_neq (m := x287.toInt) (n := x276.toInt) rfl rfl c307
          refine lv_aload_n hx hb dX2_tryGapsOf_43 rfl (lv_at hl 0 rfl) ?_
          refine x_getr (Or.inl fl_X2_18) C hP (by decide) xs_10 rfl dX2_tryGapsOf_44 ?_
          refine x_getr (Or.inr fl_X2_92) C hP (by decide) xs_8 rfl dX2_tryGapsOf_47 ?_
          refine lv_iload_n hx hb dX2_tryGapsOf_50 rfl (lv_at hl 1 rfl) ?_
          refine x_ald C hP (by decide) xs_44 (by omega) (by omega) dX2_tryGapsOf_51 (fun x308 e309 => ?_)
          refine lv_istore_n (lv' := [(3, .int x308), (0, .ref (a 10)), (1, .int p1), (2, .int p2), (4, .int x277)]) hx hb dX2_tryGapsOf_52 rfl hl (by decide) rfl (fun ls hl => ?_)
          refine lv_aload_n hx hb dX2_tryGapsOf_53 rfl (lv_at hl 1 rfl) ?_
          refine lv_iload_n hx hb dX2_tryGapsOf_54 rfl (lv_at hl 2 rfl) ?_
          refine lv_iconst (v := 1) hx hb dX2_tryGapsOf_55 (by decide) ?_
          refine lv_iadd hx hb dX2_tryGapsOf_56 ?_
          refine x_val (ic_addc (m := p1.toInt) (n := 1) rfl (by decide) (by omega) (by omega)) (fun x310 e311 => ?_)
          refine lv_iload_n hx hb dX2_tryGapsOf_57 rfl (lv_at hl 3 rfl) ?_
          refine lv_iload hx hb dX2_tryGapsOf_58 (lv_at hl 4 rfl) ?_
          refine lv_iadd hx hb dX2_tryGapsOf_60 ?_
          refine x_any (fun x312 => ?_)
          refine x_callVv (rest := []) li_X2_60 C (zX2_tryFrom_10_L11 l G H.size b a g L hI x310 x312 (by omega)) (kR rfl) hP hD hS 10 2 rfl (zat (by decide) xs_10) rfl hl.1 rfl (Nat.le_of_ble_eq_true rfl) dX2_tryGapsOf_61 (fun u315 H locs hw313 hP hD hS => ?_)
          obtain ⟨g, L⟩ := u315
          obtain ⟨hI, h0n⟩ := hw313
          have h0c : g 0 = g0 0 := h0n.trans h0c
          have hI : zI XT g := hI
          have hP : va_P G.1 vwCl (zw G (XS b) 105 a g L) H := hP
          have hD : va_D A (zw G (XS b) 105 a g L) := hD
          exact J303 x308 g L H locs ls hI h0c hP hD hS (lv_sub hl [1, 2, 3, 0, 4] rfl)
  have hc_ : ((-1) : Int32).toInt = (-1) := by decide
  have hc_ : (0 : Int32).toInt = 0 := by decide
  exact lp279 7 (-1) 0 g0 L0 H locs ls (by decide) hI h0c hP hD hS (lv_sub hl [2, 3, 4, 1, 0] rfl) (by omega)
set_option maxHeartbeats 4000000 in
set_option maxRecDepth 100000 in
theorem zX2_tryFrom_10_L12 (l : Launch) (G : kG) (sz : Nat) (b : Nat) (a : Nat → Nat) (g0 : Nat → Nat → Int32) (L0 : Nat → Nat → Int64) (hI : zI XT g0) (p1 : Int32) (p2 : Int32) (hp1 : 0 ≤ p1.toInt ∧ p1.toInt ≤ 12) : kM l yX2_tryFrom cX2_tryFrom 3 none { frames := 33, cells := 0, slots := 0, locals := 733 } G [.ref (a 10), .int p1, .int p2] (zw G (XS b) 105 a g0 L0) sz (kQv G (S := zS) (fun u => zI XT u.1 ∧ u.1 0 = g0 0) (fun u => zw G (XS b) 105 a u.1 u.2)) := by
  refine kM.of (by decide) (Nat.le_of_ble_eq_true rfl) ?_
  intro p e s m below meth c A ls H C hr hlk hnm hP hD hS hl
  have C : kC G p s m c cX2_tryFrom 3 RX2 A := C
  have hx := C.1
  have hb := C.2.1
  have hl : lv_has ls 3 [(0, .ref (a 10)), (1, .int p1), (2, .int p2)] := hl
  have h0c : g0 0 = g0 0 := rfl
  obtain ⟨locs, hlocs⟩ : ∃ q : List Loc, q = [] := ⟨_, rfl⟩
  rw [← hlocs] at hS
  rw [← hlocs]
  refine lv_iload_n hx hb dX2_tryFrom_0 rfl (lv_at hl 2 rfl) ?_
  refine lv_aload_n hx hb dX2_tryFrom_1 rfl (lv_at hl 0 rfl) ?_
  refine x_geti (Or.inl fl_X2_39) C hP (by decide) xs_10 rfl dX2_tryFrom_2 (fun x1 e2 => ?_)
  refine lv_icmp_lt (x := p2) (y := x1) (tgt := 9) hx hb dX2_tryFrom_5 (by decide) (fun c3 => ?_) (fun c3 => ?_)
  ·
    have c3 := icc_lt (m := p2.toInt) (n := x1.toInt) rfl rfl c3
    refine lv_iload_n hx hb dX2_tryFrom_9 rfl (lv_at hl 1 rfl) ?_
    refine lv_aload_n hx hb dX2_tryFrom_10 rfl (lv_at hl 0 rfl) ?_
    refine x_getT hI rfl (Or.inl fl_X2_36) C hP (by decide) xs_10 rfl dX2_tryFrom_11 (fun x4 e5 b6 => ?_)
    have J54 : ∀ (g : Nat → Nat → Int32) (L : Nat → Nat → Int64) (H : Heap) (locs : List Loc) (ls : Array Slot), zI XT g → g 0 = g0 0 → va_P G.1 vwCl (zw G (XS b) 105 a g L) H → va_D A (zw G (XS b) 105 a g L) → va_S A s.heap H locs → lv_has ls 3 [] → W p l e { frames := 33, cells := 0, slots := 0, locals := 733 } s m [.ref (a 10), .int p1, .int p2].toArray below meth c H locs 0 0 (MQ below ((kQv G (S := zS) (fun u => zI XT u.1 ∧ u.1 0 = g0 0) (fun u => zw G (XS b) 105 a u.1 u.2)) A) [.ref (a 10), .int p1, .int p2].toArray s 0 0 A) (F0 m 89 ls []) := by
      intro g L H locs ls hI h0c hP hD hS hl
      exact x_vret C hr hlk hP hD hS (g, L) rfl ⟨hI, h0c⟩ (Nat.le_of_ble_eq_true rfl) (Nat.le_of_ble_eq_true rfl) dX2_tryFrom_89
    refine lv_icmp_gt (x := p1) (y := x4) (tgt := 23) hx hb dX2_tryFrom_14 (by decide) (fun c55 => ?_) (fun c55 => ?_)
    ·
      have c55 := icc_lt (m := x4.toInt) (n := p1.toInt) rfl rfl c55
      refine lv_aload_n hx hb dX2_tryFrom_23 rfl (lv_at hl 0 rfl) ?_
      refine lv_iload_n hx hb dX2_tryFrom_24 rfl (lv_at hl 2 rfl) ?_
      refine x_callVv (rest := []) li_X2_82 C (zX2_takeIfOnTime_10 l G H.size b a g0 L0 hI p2) (kR rfl) hP hD hS 10 2 rfl (zat (by decide) xs_10) rfl hl.1 rfl (Nat.le_of_ble_eq_true rfl) dX2_tryFrom_25 (fun u58 H locs hw56 hP hD hS => ?_)
      obtain ⟨g, L⟩ := u58
      obtain ⟨hI, h0n⟩ := hw56
      have h0c : g 0 = g0 0 := h0n.trans h0c
      have hI : zI XT g := hI
      have hP : va_P G.1 vwCl (zw G (XS b) 105 a g L) H := hP
      have hD : va_D A (zw G (XS b) 105 a g L) := hD
      refine lv_goto (tgt := 89) hx hb dX2_tryFrom_28 (by decide) ?_
      exact J54 g L H locs ls hI h0c hP hD hS (lv_sub hl [] rfl)
    ·
      have c55 := icc_nlt (m := x4.toInt) (n := p1.toInt) rfl rfl c55
      refine lv_iload_n hx hb dX2_tryFrom_17 rfl (lv_at hl 1 rfl) ?_
      refine lv_bipush (v := 12) hx hb dX2_tryFrom_18 (by decide) ?_
      refine lv_icmp_lt (x := p1) (y := 12) (tgt := 31) hx hb dX2_tryFrom_20 (by decide) (fun c61 => ?_) (fun c61 => ?_)
      ·
        have c61 := icc_lt (m := p1.toInt) (n := 12) rfl (by decide) c61
        refine lv_aload_n hx hb dX2_tryFrom_31 rfl (lv_at hl 0 rfl) ?_
        refine x_geti (Or.inl fl_X2_64) C hP (by decide) xs_10 rfl dX2_tryFrom_32 (fun x62 e63 => ?_)
        refine lv_iload_n hx hb dX2_tryFrom_35 rfl (lv_at hl 1 rfl) ?_
        refine x_callSi (rest := []) li_X2_56 C (zX2_isIn l G H.size b a g0 L0 hI x62 p1) (kR rfl) hP hD hS rfl hl.1 rfl (Nat.le_of_ble_eq_true rfl) dX2_tryFrom_36 (fun x65 u66 H locs hw64 hP hD hS => ?_)
        obtain ⟨g, L⟩ := u66
        obtain ⟨hI, h0n, b67⟩ := hw64
        have h0c : g 0 = g0 0 := h0n.trans h0c
        have hI : zI XT g := hI
        have hP : va_P G.1 vwCl (zw G (XS b) 105 a g L) H := hP
        have hD : va_D A (zw G (XS b) 105 a g L) := hD
        refine lv_if_ne (x := x65) (tgt := 53) hx hb dX2_tryFrom_39 (by decide) (fun c69 => ?_) (fun c69 => ?_)
        ·
          have c69 := icc_neq (m := x65.toInt) (n := 0) rfl (by decide) c69
          refine lv_aload_n hx hb dX2_tryFrom_53 rfl (lv_at hl 0 rfl) ?_
          refine x_geti (Or.inl fl_X2_29) C hP (by decide) xs_10 rfl dX2_tryFrom_54 (fun x70 e71 => ?_)
          refine lv_iload_n hx hb dX2_tryFrom_57 rfl (lv_at hl 1 rfl) ?_
          refine x_callSi (rest := []) li_X2_56 C (zX2_isIn l G H.size b a g L hI x70 p1) (kR rfl) hP hD hS rfl hl.1 rfl (Nat.le_of_ble_eq_true rfl) dX2_tryFrom_58 (fun x73 u74 H locs hw72 hP hD hS => ?_)
          obtain ⟨g, L⟩ := u74
          obtain ⟨hI, h0n, b75⟩ := hw72
          have h0c : g 0 = g0 0 := h0n.trans h0c
          have hI : zI XT g := hI
          have hP : va_P G.1 vwCl (zw G (XS b) 105 a g L) H := hP
          have hD : va_D A (zw G (XS b) 105 a g L) := hD
          refine lv_if_ne (x := x73) (tgt := 83) hx hb dX2_tryFrom_61 (by decide) (fun c77 => ?_) (fun c77 => ?_)
          ·
            have c77 := icc_neq (m := x73.toInt) (n := 0) rfl (by decide) c77
            refine lv_aload_n hx hb dX2_tryFrom_83 rfl (lv_at hl 0 rfl) ?_
            refine lv_iload_n hx hb dX2_tryFrom_84 rfl (lv_at hl 1 rfl) ?_
            refine lv_iload_n hx hb dX2_tryFrom_85 rfl (lv_at hl 2 rfl) ?_
            refine x_callVv (rest := []) li_X2_89 C (zX2_tryGapsOf_10_L12 l G H.size b a g L hI p1 p2 (by omega)) (kR rfl) hP hD hS 10 2 rfl (zat (by decide) xs_10) rfl hl.1 rfl (Nat.le_of_ble_eq_true rfl) dX2_tryFrom_86 (fun u80 H locs hw78 hP hD hS => ?_)
            obtain ⟨g, L⟩ := u80
            obtain ⟨hI, h0n⟩ := hw78
            have h0c : g 0 = g0 0 := h0n.trans h0c
            have hI : zI XT g := hI
            have hP : va_P G.1 vwCl (zw G (XS b) 105 a g L) H := hP
            have hD : va_D A (zw G (XS b) 105 a g L) := hD
            exact J54 g L H locs ls hI h0c hP hD hS (lv_sub hl [] rfl)
          ·
            have c77 := icc_eq (m := x73.toInt) (n := 0) rfl (by decide) c77
            refine lv_aload_n hx hb dX2_tryFrom_64 rfl (lv_at hl 0 rfl) ?_
            refine x_getr (Or.inl fl_X2_18) C hP (by decide) xs_10 rfl dX2_tryFrom_65 ?_
            refine lv_iload_n hx hb dX2_tryFrom_68 rfl (lv_at hl 1 rfl) ?_
            refine x_callNv (rest := []) li_X2_86 C (zX1_runOne_8 l G H.size b a g L hI p1 (by omega)) (kR rfl) hP hD hS 8 1 rfl (zat (by decide) xs_8) rfl hl.1 rfl (Nat.le_of_ble_eq_true rfl) dX2_tryFrom_69 (fun u85 H locs hw83 hP hD hS => ?_)
            obtain ⟨g, L⟩ := u85
            obtain ⟨hI, h0n⟩ := hw83
            have h0c : g 0 = g0 0 := h0n.trans h0c
            have hI : zI XT g := hI
            have hP : va_P G.1 vwCl (zw G (XS b) 105 a g L) H := hP
            have hD : va_D A (zw G (XS b) 105 a g L) := hD
            refine lv_aload_n hx hb dX2_tryFrom_72 rfl (lv_at hl 0 rfl) ?_
            refine lv_iload_n hx hb dX2_tryFrom_73 rfl (lv_at hl 1 rfl) ?_
            refine lv_iconst (v := 1) hx hb dX2_tryFrom_74 (by decide) ?_
            refine lv_iadd hx hb dX2_tryFrom_75 ?_
            refine x_val (ic_addc (m := p1.toInt) (n := 1) rfl (by decide) (by omega) (by omega)) (fun x88 e89 => ?_)
            refine lv_iload_n hx hb dX2_tryFrom_76 rfl (lv_at hl 2 rfl) ?_
            refine x_callVv (rest := []) li_X2_60 C (zX2_tryFrom_10_L11 l G H.size b a g L hI x88 p2 (by omega)) (kR rfl) hP hD hS 10 2 rfl (zat (by decide) xs_10) rfl hl.1 rfl (Nat.le_of_ble_eq_true rfl) dX2_tryFrom_77 (fun u92 H locs hw90 hP hD hS => ?_)
            obtain ⟨g, L⟩ := u92
            obtain ⟨hI, h0n⟩ := hw90
            have h0c : g 0 = g0 0 := h0n.trans h0c
            have hI : zI XT g := hI
            have hP : va_P G.1 vwCl (zw G (XS b) 105 a g L) H := hP
            have hD : va_D A (zw G (XS b) 105 a g L) := hD
            refine lv_goto (tgt := 89) hx hb dX2_tryFrom_80 (by decide) ?_
            exact J54 g L H locs ls hI h0c hP hD hS (lv_sub hl [] rfl)
        ·
          have c69 := icc_eq (m := x65.toInt) (n := 0) rfl (by decide) c69
          refine lv_aload_n hx hb dX2_tryFrom_42 rfl (lv_at hl 0 rfl) ?_
          refine lv_iload_n hx hb dX2_tryFrom_43 rfl (lv_at hl 1 rfl) ?_
          refine lv_iconst (v := 1) hx hb dX2_tryFrom_44 (by decide) ?_
          refine lv_iadd hx hb dX2_tryFrom_45 ?_
          refine x_val (ic_addc (m := p1.toInt) (n := 1) rfl (by decide) (by omega) (by omega)) (fun x95 e96 => ?_)
          refine lv_iload_n hx hb dX2_tryFrom_46 rfl (lv_at hl 2 rfl) ?_
          refine x_callVv (rest := []) li_X2_60 C (zX2_tryFrom_10_L11 l G H.size b a g L hI x95 p2 (by omega)) (kR rfl) hP hD hS 10 2 rfl (zat (by decide) xs_10) rfl hl.1 rfl (Nat.le_of_ble_eq_true rfl) dX2_tryFrom_47 (fun u99 H locs hw97 hP hD hS => ?_)
          obtain ⟨g, L⟩ := u99
          obtain ⟨hI, h0n⟩ := hw97
          have h0c : g 0 = g0 0 := h0n.trans h0c
          have hI : zI XT g := hI
          have hP : va_P G.1 vwCl (zw G (XS b) 105 a g L) H := hP
          have hD : va_D A (zw G (XS b) 105 a g L) := hD
          refine lv_goto (tgt := 89) hx hb dX2_tryFrom_50 (by decide) ?_
          exact J54 g L H locs ls hI h0c hP hD hS (lv_sub hl [] rfl)
      ·
        have c61 := icc_nlt (m := p1.toInt) (n := 12) rfl (by decide) c61
        omega
  ·
    have c3 := icc_nlt (m := p2.toInt) (n := x1.toInt) rfl rfl c3
    exact x_vret C hr hlk hP hD hS (g0, L0) rfl ⟨hI, h0c⟩ (Nat.le_of_ble_eq_true rfl) (Nat.le_of_ble_eq_true rfl) dX2_tryFrom_8
set_option maxHeartbeats 4000000 in
set_option maxRecDepth 100000 in
theorem zX2_fewest_10 (l : Launch) (G : kG) (sz : Nat) (b : Nat) (a : Nat → Nat) (g0 : Nat → Nat → Int32) (L0 : Nat → Nat → Int64) (hI : zI XT g0) (p1 : Int32) (p2 : Int32) (p3 : Int32) (hp2 : 0 ≤ p2.toInt ∧ p2.toInt ≤ 11) : kM l yX2_fewest cX2_fewest 5 (some .int) { frames := 34, cells := 0, slots := 0, locals := 755 } G [.ref (a 10), .int p1, .int p2, .int p3] (zw G (XS b) 105 a g0 L0) sz (kQi G (S := zS) (fun r u => zI XT u.1 ∧ u.1 0 = g0 0) (fun u => zw G (XS b) 105 a u.1 u.2)) := by
  refine kM.of (by decide) (Nat.le_of_ble_eq_true rfl) ?_
  intro p e s m below meth c A ls H C hr hlk hnm hP hD hS hl
  have C : kC G p s m c cX2_fewest 5 RX2 A := C
  have hx := C.1
  have hb := C.2.1
  have hl : lv_has ls 5 [(0, .ref (a 10)), (1, .int p1), (2, .int p2), (3, .int p3)] := hl
  have h0c : g0 0 = g0 0 := rfl
  obtain ⟨locs, hlocs⟩ : ∃ q : List Loc, q = [] := ⟨_, rfl⟩
  rw [← hlocs] at hS
  rw [← hlocs]
  refine lv_aload_n hx hb dX2_fewest_0 rfl (lv_at hl 0 rfl) ?_
  refine lv_iload_n hx hb dX2_fewest_1 rfl (lv_at hl 1 rfl) ?_
  refine x_puti (hI.updN rfl) (Or.inl fl_X2_29) ft_X2_4 C hP hD hS (by decide) xs_10 rfl rfl rfl dX2_fewest_2 (fun g H locs eg hI hP hD hS => ?_)
  have h0c : g 0 = g0 0 := by rw [eg]; exact h0c
  refine lv_aload_n hx hb dX2_fewest_5 rfl (lv_at hl 0 rfl) ?_
  refine lv_iload_n hx hb dX2_fewest_6 rfl (lv_at hl 3 rfl) ?_
  refine x_puti (hI.updN rfl) (Or.inl fl_X2_33) ft_X2_6 C hP hD hS (by decide) xs_10 rfl rfl rfl dX2_fewest_7 (fun g H locs eg hI hP hD hS => ?_)
  have h0c : g 0 = g0 0 := by rw [eg]; exact h0c
  refine lv_aload_n hx hb dX2_fewest_10 rfl (lv_at hl 0 rfl) ?_
  refine lv_iload_n hx hb dX2_fewest_11 rfl (lv_at hl 2 rfl) ?_
  refine x_puti (hI.upd rfl (by omega) (by omega)) (Or.inl fl_X2_36) ft_X2_5 C hP hD hS (by decide) xs_10 rfl rfl rfl dX2_fewest_12 (fun g H locs eg hI hP hD hS => ?_)
  have h0c : g 0 = g0 0 := by rw [eg]; exact h0c
  refine lv_aload_n hx hb dX2_fewest_15 rfl (lv_at hl 0 rfl) ?_
  refine lv_bipush (v := 21) hx hb dX2_fewest_16 (by decide) ?_
  refine x_puti (hI.updN rfl) (Or.inl fl_X2_39) ft_X2_8 C hP hD hS (by decide) xs_10 rfl rfl rfl dX2_fewest_18 (fun g H locs eg hI hP hD hS => ?_)
  have h0c : g 0 = g0 0 := by rw [eg]; exact h0c
  refine lv_aload_n hx hb dX2_fewest_21 rfl (lv_at hl 0 rfl) ?_
  refine x_callVv (rest := []) li_X2_42 C (zX2_findAsked_10 l G H.size b a g L0 hI) (kR rfl) hP hD hS 10 2 rfl (zat (by decide) xs_10) rfl hl.1 rfl (Nat.le_of_ble_eq_true rfl) dX2_fewest_22 (fun u3 H locs hw1 hP hD hS => ?_)
  obtain ⟨g, L⟩ := u3
  obtain ⟨hI, h0n⟩ := hw1
  have h0c : g 0 = g0 0 := h0n.trans h0c
  have hI : zI XT g := hI
  have hP : va_P G.1 vwCl (zw G (XS b) 105 a g L) H := hP
  have hD : va_D A (zw G (XS b) 105 a g L) := hD
  refine lv_aload_n hx hb dX2_fewest_25 rfl (lv_at hl 0 rfl) ?_
  refine x_getr (Or.inl fl_X2_28) C hP (by decide) xs_10 rfl dX2_fewest_26 ?_
  refine x_getr (Or.inr fl_X2_45) C hP (by decide) xs_6 rfl dX2_fewest_29 ?_
  refine lv_iconst (v := 0) hx hb dX2_fewest_32 (by decide) ?_
  refine lv_aload_n hx hb dX2_fewest_33 rfl (lv_at hl 0 rfl) ?_
  refine x_getr (Or.inl fl_X2_9) C hP (by decide) xs_10 rfl dX2_fewest_34 ?_
  refine lv_iconst (v := 0) hx hb dX2_fewest_37 (by decide) ?_
  refine lv_bipush (v := 12) hx hb dX2_fewest_38 (by decide) ?_
  refine x_copy (hI.cpy (fun _ _ => rfl)) lc_X2_50 C hl.1 hP hD hS (by decide) (by decide) xs_26 xs_50 (by decide) (by decide) (by decide) (by decide) (by decide) (Nat.le_of_ble_eq_true rfl) (Nat.le_of_ble_eq_true rfl) dX2_fewest_40 (fun g H locs eg hI hP hD hS => ?_)
  have h0c : g 0 = g0 0 := by rw [eg]; exact h0c
  refine lv_iconst (v := 0) hx hb dX2_fewest_43 (by decide) ?_
  refine lv_istore (lv' := [(4, .int 0), (0, .ref (a 10)), (1, .int p1), (2, .int p2), (3, .int p3)]) hx hb dX2_fewest_44 hl (by decide) rfl (fun ls hl => ?_)
  have lp244 : ∀ fu : Nat, ∀ (x242 : Int32) (g : Nat → Nat → Int32) (L : Nat → Nat → Int64) (H : Heap) (locs : List Loc) (ls : Array Slot), (0 ≤ x242.toInt ∧ x242.toInt ≤ 12) → zI XT g → g 0 = g0 0 → va_P G.1 vwCl (zw G (XS b) 105 a g L) H → va_D A (zw G (XS b) 105 a g L) → va_S A s.heap H locs → lv_has ls 5 [(0, .ref (a 10)), (1, .int p1), (4, .int x242)] → 12 - x242.toInt < (fu : Int) → W p l e { frames := 34, cells := 0, slots := 0, locals := 755 } s m [.ref (a 10), .int p1, .int p2, .int p3].toArray below meth c H locs 0 0 (MQ below ((kQi G (S := zS) (fun r u => zI XT u.1 ∧ u.1 0 = g0 0) (fun u => zw G (XS b) 105 a u.1 u.2)) A) [.ref (a 10), .int p1, .int p2, .int p3].toArray s 0 0 A) (F0 m 46 ls []) := by
    intro fu
    induction fu with
    | zero => intro x242 g L H locs ls b243 hI h0c hP hD hS hl hm; exact absurd hm (by omega)
    | succ fu ih =>
      intro x242 g L H locs ls b243 hI h0c hP hD hS hl hm
      have ih245 := ih
      refine lv_iload hx hb dX2_fewest_46 (lv_at hl 2 rfl) ?_
      refine lv_bipush (v := 12) hx hb dX2_fewest_48 (by decide) ?_
      refine lv_icmp_ge (x := x242) (y := 12) (tgt := 89) hx hb dX2_fewest_50 (by decide) (fun c246 => ?_) (fun c246 => ?_)
      ·
        have c246 := icc_le (m := 12) (n := x242.toInt) (by decide) rfl c246
        refine lv_aload_n hx hb dX2_fewest_89 rfl (lv_at hl 0 rfl) ?_
        refine lv_iconst (v := 0) hx hb dX2_fewest_90 (by decide) ?_
        refine lv_iconst (v := 0) hx hb dX2_fewest_91 (by decide) ?_
        refine x_callVv (rest := []) li_X2_60 C (zX2_tryFrom_10_L12 l G H.size b a g L hI 0 0 (by decide)) (kR rfl) hP hD hS 10 2 rfl (zat (by decide) xs_10) rfl hl.1 rfl (Nat.le_of_ble_eq_true rfl) dX2_fewest_92 (fun u249 H locs hw247 hP hD hS => ?_)
        obtain ⟨g, L⟩ := u249
        obtain ⟨hI, h0n⟩ := hw247
        have h0c : g 0 = g0 0 := h0n.trans h0c
        have hI : zI XT g := hI
        have hP : va_P G.1 vwCl (zw G (XS b) 105 a g L) H := hP
        have hD : va_D A (zw G (XS b) 105 a g L) := hD
        refine lv_aload_n hx hb dX2_fewest_95 rfl (lv_at hl 0 rfl) ?_
        refine x_getr (Or.inl fl_X2_9) C hP (by decide) xs_10 rfl dX2_fewest_96 ?_
        refine lv_iconst (v := 0) hx hb dX2_fewest_99 (by decide) ?_
        refine lv_aload_n hx hb dX2_fewest_100 rfl (lv_at hl 0 rfl) ?_
        refine x_getr (Or.inl fl_X2_28) C hP (by decide) xs_10 rfl dX2_fewest_101 ?_
        refine x_getr (Or.inr fl_X2_45) C hP (by decide) xs_6 rfl dX2_fewest_104 ?_
        refine lv_iconst (v := 0) hx hb dX2_fewest_107 (by decide) ?_
        refine lv_bipush (v := 12) hx hb dX2_fewest_108 (by decide) ?_
        refine x_copy (hI.cpy (fun _ _ => rfl)) lc_X2_50 C hl.1 hP hD hS (by decide) (by decide) xs_50 xs_26 (by decide) (by decide) (by decide) (by decide) (by decide) (Nat.le_of_ble_eq_true rfl) (Nat.le_of_ble_eq_true rfl) dX2_fewest_110 (fun g H locs eg hI hP hD hS => ?_)
        have h0c : g 0 = g0 0 := by rw [eg]; exact h0c
        refine lv_aload_n hx hb dX2_fewest_113 rfl (lv_at hl 0 rfl) ?_
        refine x_geti (Or.inl fl_X2_39) C hP (by decide) xs_10 rfl dX2_fewest_114 (fun x252 e253 => ?_)
        refine lv_bipush (v := 21) hx hb dX2_fewest_117 (by decide) ?_
        have J258 : ∀ (x259 : Int32) (g : Nat → Nat → Int32) (L : Nat → Nat → Int64) (H : Heap) (locs : List Loc) (ls : Array Slot), zI XT g → g 0 = g0 0 → va_P G.1 vwCl (zw G (XS b) 105 a g L) H → va_D A (zw G (XS b) 105 a g L) → va_S A s.heap H locs → lv_has ls 5 [] → W p l e { frames := 34, cells := 0, slots := 0, locals := 755 } s m [.ref (a 10), .int p1, .int p2, .int p3].toArray below meth c H locs 0 0 (MQ below ((kQi G (S := zS) (fun r u => zI XT u.1 ∧ u.1 0 = g0 0) (fun u => zw G (XS b) 105 a u.1 u.2)) A) [.ref (a 10), .int p1, .int p2, .int p3].toArray s 0 0 A) (F0 m 130 ls [.int x259]) := by
          intro x259 g L H locs ls hI h0c hP hD hS hl
          exact x_iret C hr hlk hP hD hS (g, L) rfl ⟨hI, h0c⟩ (Nat.le_of_ble_eq_true rfl) (Nat.le_of_ble_eq_true rfl) dX2_fewest_130
        refine lv_icmp_ne (x := x252) (y := 21) (tgt := 126) hx hb dX2_fewest_119 (by decide) (fun c260 => ?_) (fun c260 => ?_)
        ·
          have c260 := icc_neq (m := x252.toInt) (n := 21) rfl (by decide) c260
          refine lv_aload_n hx hb dX2_fewest_126 rfl (lv_at hl 0 rfl) ?_
          refine x_geti (Or.inl fl_X2_39) C hP (by decide) xs_10 rfl dX2_fewest_127 (fun x261 e262 => ?_)
          exact J258 x261 g L H locs ls hI h0c hP hD hS (lv_sub hl [] rfl)
        ·
          have c260 := icc_eq (m := x252.toInt) (n := 21) rfl (by decide) c260
          refine lv_iconst (v := -1) hx hb dX2_fewest_122 (by decide) ?_
          refine lv_goto (tgt := 130) hx hb dX2_fewest_123 (by decide) ?_
          exact J258 (-1) g L H locs ls hI h0c hP hD hS (lv_sub hl [] rfl)
      ·
        have c246 := icc_nle (m := 12) (n := x242.toInt) (by decide) rfl c246
        refine lv_aload_n hx hb dX2_fewest_53 rfl (lv_at hl 0 rfl) ?_
        refine x_getr (Or.inl fl_X2_28) C hP (by decide) xs_10 rfl dX2_fewest_54 ?_
        refine x_getr (Or.inr fl_X2_45) C hP (by decide) xs_6 rfl dX2_fewest_57 ?_
        refine lv_iload hx hb dX2_fewest_60 (lv_at hl 2 rfl) ?_
        refine lv_iload_n hx hb dX2_fewest_62 rfl (lv_at hl 1 rfl) ?_
        refine lv_iload hx hb dX2_fewest_63 (lv_at hl 2 rfl) ?_
        refine x_callSi (rest := [.int x242, .ref (a 26)]) li_X2_56 C (zX2_isIn l G H.size b a g L hI p1 x242) (kR rfl) hP hD hS rfl hl.1 rfl (Nat.le_of_ble_eq_true rfl) dX2_fewest_65 (fun x264 u265 H locs hw263 hP hD hS => ?_)
        obtain ⟨g, L⟩ := u265
        obtain ⟨hI, h0n, b266⟩ := hw263
        have h0c : g 0 = g0 0 := h0n.trans h0c
        have hI : zI XT g := hI
        have hP : va_P G.1 vwCl (zw G (XS b) 105 a g L) H := hP
        have hD : va_D A (zw G (XS b) 105 a g L) := hD
        have J274 : ∀ (x275 : Int32) (g : Nat → Nat → Int32) (L : Nat → Nat → Int64) (H : Heap) (locs : List Loc) (ls : Array Slot), zI XT g → g 0 = g0 0 → va_P G.1 vwCl (zw G (XS b) 105 a g L) H → va_D A (zw G (XS b) 105 a g L) → va_S A s.heap H locs → lv_has ls 5 [(0, .ref (a 10)), (1, .int p1), (4, .int x242)] → W p l e { frames := 34, cells := 0, slots := 0, locals := 755 } s m [.ref (a 10), .int p1, .int p2, .int p3].toArray below meth c H locs 0 0 (MQ below ((kQi G (S := zS) (fun r u => zI XT u.1 ∧ u.1 0 = g0 0) (fun u => zw G (XS b) 105 a u.1 u.2)) A) [.ref (a 10), .int p1, .int p2, .int p3].toArray s 0 0 A) (F0 m 82 ls [.int x275, .int x242, .ref (a 26)]) := by
          intro x275 g L H locs ls hI h0c hP hD hS hl
          refine x_ast (hI.updN rfl) C hP hD hS (by decide) xs_26 (by omega) (by omega) dX2_fewest_82 (fun g H locs eg hI hP hD hS => ?_)
          have h0c : g 0 = g0 0 := by rw [eg]; exact h0c
          obtain ⟨x276, e277q, e277⟩ : ∃ z : Int32, x242 + Int32.ofInt (1) = z ∧ z.toInt = x242.toInt + (1) := ⟨_, rfl, ic_addc rfl (by decide) (by omega) (by omega)⟩
          refine lv_iinc (v := x276) (lv' := [(4, .int x276), (0, .ref (a 10)), (1, .int p1)]) hx hb dX2_fewest_83 hl (k := 2) rfl e277q (by decide) rfl (fun ls hl => ?_)
          refine lv_goto (tgt := 46) hx hb dX2_fewest_86 (by decide) ?_
          exact ih245 x276 g L H locs ls (by omega) hI h0c hP hD hS (lv_sub hl [1, 2, 0] rfl) (by omega)
        refine lv_if_eq (x := x264) (tgt := 75) hx hb dX2_fewest_68 (by decide) (fun c278 => ?_) (fun c278 => ?_)
        ·
          have c278 := icc_eq (m := x264.toInt) (n := 0) rfl (by decide) c278
          refine lv_aload_n hx hb dX2_fewest_75 rfl (lv_at hl 0 rfl) ?_
          refine x_getr (Or.inl fl_X2_9) C hP (by decide) xs_10 rfl dX2_fewest_76 ?_
          refine lv_iload hx hb dX2_fewest_79 (lv_at hl 2 rfl) ?_
          refine x_ald C hP (by decide) xs_50 (by omega) (by omega) dX2_fewest_81 (fun x279 e280 => ?_)
          exact J274 x279 g L H locs ls hI h0c hP hD hS (lv_sub hl [0, 1, 2] rfl)
        ·
          have c278 := icc_neq (m := x264.toInt) (n := 0) rfl (by decide) c278
          refine lv_iconst (v := 0) hx hb dX2_fewest_71 (by decide) ?_
          refine lv_goto (tgt := 82) hx hb dX2_fewest_72 (by decide) ?_
          exact J274 0 g L H locs ls hI h0c hP hD hS (lv_sub hl [0, 1, 2] rfl)
  have hc_ : (0 : Int32).toInt = 0 := by decide
  exact lp244 14 0 g L H locs ls (by decide) hI h0c hP hD hS (lv_sub hl [1, 2, 0] rfl) (by omega)
