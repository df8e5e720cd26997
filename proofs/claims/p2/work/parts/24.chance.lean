theorem dX0_ofLate_0 : decode cX0_ofLate 0 = .ok (.aload_n 0, 1) := by decide +kernel
theorem dX0_ofLate_1 : decode cX0_ofLate 1 = .ok (.iload_n 1, 1) := by decide +kernel
theorem tw_1184 : (Jvm.Cond.methodLink "MarshBells$Chances" (19 : Nat) ({ cls := "MarshBells$Chances", name := "findUnsure", desc := "(I)V" } : Jvm.MethodName)) ∈ lw_tbl := tk_5 (List.mem_of_getElem? (i := 224) rfl)
theorem tw_11 : (Jvm.Cond.initialized "MarshBells$Chances") ∈ lw_tbl := tk_1 (List.mem_of_getElem? (i := 11) rfl)
theorem tw_1187 : (Jvm.Cond.code ({ cls := "MarshBells$Chances", name := "findUnsure", desc := "(I)V" } : Jvm.MethodName) prog_2_method_4_code (4 : Nat) (Option.none : Option Jvm.ClassFile.FieldType)) ∈ lw_tbl := tk_5 (List.mem_of_getElem? (i := 227) rfl)
theorem tw_1186 : (Jvm.Cond.instanceMethod ({ cls := "MarshBells$Chances", name := "findUnsure", desc := "(I)V" } : Jvm.MethodName)) ∈ lw_tbl := tk_5 (List.mem_of_getElem? (i := 226) rfl)
theorem se_X0_findUnsure : Cond.selects RX0 yX0_findUnsure yX0_findUnsure ∈ lw_tbl := List.mem_append_left _ (List.mem_of_getElem? (i := 81) rfl)
theorem li_X0_19 : kLV RX0 19 RX0 yX0_findUnsure cX0_findUnsure 4 none 1 := ⟨tw_1184, tw_1186, se_X0_findUnsure, tw_1187, tw_11, by decide +kernel⟩
theorem dX0_findUnsure_0 : decode cX0_findUnsure 0 = .ok (.aload_n 0, 1) := by decide +kernel
theorem dX0_findUnsure_1 : decode cX0_findUnsure 1 = .ok (.iconst 0, 1) := by decide +kernel
theorem tw_444 : (Jvm.Cond.laysFinal "MarshBells$Chances" "MarshBells$Chances" "day" "LMarshBells$Day;") ∈ lw_tbl := tk_2 (List.mem_of_getElem? (i := 204) rfl)
theorem tw_446 : (Jvm.Cond.laysFinal "MarshBells$Chances" "MarshBells$Chances" "unsure" "[I") ∈ lw_tbl := tk_2 (List.mem_of_getElem? (i := 206) rfl)
theorem tw_448 : (Jvm.Cond.lays "MarshBells$Chances" "MarshBells$Chances" "many" "I") ∈ lw_tbl := tk_2 (List.mem_of_getElem? (i := 208) rfl)
theorem tw_450 : (Jvm.Cond.lays "MarshBells$Chances" "MarshBells$Chances" "never" "I") ∈ lw_tbl := tk_2 (List.mem_of_getElem? (i := 210) rfl)
theorem tw_452 : (Jvm.Cond.lays "MarshBells$Chances" "MarshBells$Chances" "seed" "I") ∈ lw_tbl := tk_2 (List.mem_of_getElem? (i := 212) rfl)
theorem tw_454 : (Jvm.Cond.lays "MarshBells$Chances" "MarshBells$Chances" "upper" "J") ∈ lw_tbl := tk_2 (List.mem_of_getElem? (i := 214) rfl)
theorem tw_456 : (Jvm.Cond.lays "MarshBells$Chances" "MarshBells$Chances" "lower" "J") ∈ lw_tbl := tk_2 (List.mem_of_getElem? (i := 216) rfl)
theorem inWX0 : ∀ w ∈ u_ws RX0 TX0 7, w ∈ lw_tbl := by
  have e : ∀ k, k < 7 → u_lay RX0 TX0 k ∈ lw_tbl := fun k hk => match k, hk with | 0, _ => tw_444 | 1, _ => tw_446 | 2, _ => tw_448 | 3, _ => tw_450 | 4, _ => tw_452 | 5, _ => tw_454 | 6, _ => tw_456 | k + 7, hk => absurd hk (by omega)
  intro w h
  obtain ⟨k, hk, rfl⟩ := List.mem_map.mp h
  exact e k (List.mem_range.mp hk)
theorem tw_437 : (Jvm.Cond.fieldLink "MarshBells$Chances" (27 : Nat) "MarshBells$Chances" "many" "I") ∈ lw_tbl := tk_2 (List.mem_of_getElem? (i := 197) rfl)
theorem fl_X0_27 : kFL RX0 27 0 7 2 := ⟨RX0, TX0, rfl, by decide, inWX0, tw_437⟩
theorem ft_X0_2 : kFT 0 2 .int false RX0 := ⟨RX0, TX0, 7, tyX0, rfl, tyX0_ok, nmX0, rfl, by decide +kernel, rfl⟩
theorem dX0_findUnsure_2 : decode cX0_findUnsure 2 = .ok (.putfield 27, 3) := by decide +kernel
theorem dX0_findUnsure_5 : decode cX0_findUnsure 5 = .ok (.aload_n 0, 1) := by decide +kernel
theorem dX0_findUnsure_6 : decode cX0_findUnsure 6 = .ok (.iconst 0, 1) := by decide +kernel
theorem tw_438 : (Jvm.Cond.fieldLink "MarshBells$Chances" (48 : Nat) "MarshBells$Chances" "never" "I") ∈ lw_tbl := tk_2 (List.mem_of_getElem? (i := 198) rfl)
theorem fl_X0_48 : kFL RX0 48 0 7 3 := ⟨RX0, TX0, rfl, by decide, inWX0, tw_438⟩
theorem ft_X0_3 : kFT 0 3 .int false RX0 := ⟨RX0, TX0, 7, tyX0, rfl, tyX0_ok, nmX0, rfl, by decide +kernel, rfl⟩
theorem dX0_findUnsure_7 : decode cX0_findUnsure 7 = .ok (.putfield 48, 3) := by decide +kernel
theorem dX0_findUnsure_10 : decode cX0_findUnsure 10 = .ok (.aload_n 0, 1) := by decide +kernel
theorem dX0_findUnsure_11 : decode cX0_findUnsure 11 = .ok (.lconst 1, 1) := by decide +kernel
theorem tw_442 : (Jvm.Cond.fieldLink "MarshBells$Chances" (51 : Nat) "MarshBells$Chances" "lower" "J") ∈ lw_tbl := tk_2 (List.mem_of_getElem? (i := 202) rfl)
theorem fl_X0_51 : kFL RX0 51 0 7 6 := ⟨RX0, TX0, rfl, by decide, inWX0, tw_442⟩
theorem ft_X0_6 : kFT 0 6 .long false RX0 := ⟨RX0, TX0, 7, tyX0, rfl, tyX0_ok, nmX0, rfl, by decide +kernel, rfl⟩
theorem dX0_findUnsure_12 : decode cX0_findUnsure 12 = .ok (.putfield 51, 3) := by decide +kernel
theorem dX0_findUnsure_15 : decode cX0_findUnsure 15 = .ok (.iconst 0, 1) := by decide +kernel
theorem dX0_findUnsure_16 : decode cX0_findUnsure 16 = .ok (.istore_n 2, 1) := by decide +kernel
theorem dX0_findUnsure_17 : decode cX0_findUnsure 17 = .ok (.iload_n 2, 1) := by decide +kernel
theorem dX0_findUnsure_18 : decode cX0_findUnsure 18 = .ok (.iload_n 1, 1) := by decide +kernel
theorem dX0_findUnsure_19 : decode cX0_findUnsure 19 = .ok (.if_icmp .gt 91, 3) := by decide +kernel
theorem dX0_findUnsure_22 : decode cX0_findUnsure 22 = .ok (.aload_n 0, 1) := by decide +kernel
theorem tw_435 : (Jvm.Cond.fieldLink "MarshBells$Chances" (15 : Nat) "MarshBells$Chances" "day" "LMarshBells$Day;") ∈ lw_tbl := tk_2 (List.mem_of_getElem? (i := 195) rfl)
theorem fl_X0_15 : kFL RX0 15 0 7 0 := ⟨RX0, TX0, rfl, by decide, inWX0, tw_435⟩
theorem dX0_findUnsure_23 : decode cX0_findUnsure 23 = .ok (.getfield 15, 3) := by decide +kernel
theorem tw_319 : (Jvm.Cond.fieldLinkNest "MarshBells$Chances" (54 : Nat) "MarshBells$Day" "plan" "LMarshBells$Plan;" "MarshBells") ∈ lw_tbl := tk_2 (List.mem_of_getElem? (i := 79) rfl)
theorem fl_X0_54 : kFN RX0 54 1 10 7 := ⟨RX1, TX1, rfl, by decide, inWX1, tw_319⟩
theorem dX0_findUnsure_26 : decode cX0_findUnsure 26 = .ok (.getfield 54, 3) := by decide +kernel
theorem tw_152 : (Jvm.Cond.fieldLinkNest "MarshBells$Chances" (58 : Nat) "MarshBells$Plan" "lessons" "[LMarshBells$Lesson;" "MarshBells") ∈ lw_tbl := tk_1 (List.mem_of_getElem? (i := 152) rfl)
theorem fl_X0_58 : kFN RX0 58 7 5 0 := ⟨RX7, TX7, rfl, by decide, inWX7, tw_152⟩
theorem dX0_findUnsure_29 : decode cX0_findUnsure 29 = .ok (.getfield 58, 3) := by decide +kernel
theorem dX0_findUnsure_32 : decode cX0_findUnsure 32 = .ok (.iload_n 2, 1) := by decide +kernel
theorem dX0_findUnsure_33 : decode cX0_findUnsure 33 = .ok (.aaload, 1) := by decide +kernel
theorem tw_113 : (Jvm.Cond.fieldLinkNest "MarshBells$Chances" (64 : Nat) "MarshBells$Lesson" "maybe" "I" "MarshBells") ∈ lw_tbl := tk_1 (List.mem_of_getElem? (i := 113) rfl)
theorem fl_X0_64 : kFN RX0 64 5 14 12 := ⟨RX5, TX5, rfl, by decide, inWX5, tw_113⟩
theorem dX0_findUnsure_34 : decode cX0_findUnsure 34 = .ok (.getfield 64, 3) := by decide +kernel
theorem dX0_findUnsure_37 : decode cX0_findUnsure 37 = .ok (.istore_n 3, 1) := by decide +kernel
theorem dX0_findUnsure_38 : decode cX0_findUnsure 38 = .ok (.iload_n 3, 1) := by decide +kernel
theorem dX0_findUnsure_39 : decode cX0_findUnsure 39 = .ok (.ifCond .ne 18, 3) := by decide +kernel
theorem dX0_findUnsure_57 : decode cX0_findUnsure 57 = .ok (.iload_n 3, 1) := by decide +kernel
theorem dX0_findUnsure_58 : decode cX0_findUnsure 58 = .ok (.bipush 10, 2) := by decide +kernel
theorem dX0_findUnsure_60 : decode cX0_findUnsure 60 = .ok (.if_icmp .ge 44, 3) := by decide +kernel
theorem dX0_findUnsure_63 : decode cX0_findUnsure 63 = .ok (.aload_n 0, 1) := by decide +kernel
theorem dX0_findUnsure_64 : decode cX0_findUnsure 64 = .ok (.getfield 27, 3) := by decide +kernel
theorem dX0_findUnsure_67 : decode cX0_findUnsure 67 = .ok (.bipush 8, 2) := by decide +kernel
theorem dX0_findUnsure_69 : decode cX0_findUnsure 69 = .ok (.if_icmp .ge 35, 3) := by decide +kernel
theorem dX0_findUnsure_72 : decode cX0_findUnsure 72 = .ok (.aload_n 0, 1) := by decide +kernel
theorem tw_436 : (Jvm.Cond.fieldLink "MarshBells$Chances" (9 : Nat) "MarshBells$Chances" "unsure" "[I") ∈ lw_tbl := tk_2 (List.mem_of_getElem? (i := 196) rfl)
theorem fl_X0_9 : kFL RX0 9 0 7 1 := ⟨RX0, TX0, rfl, by decide, inWX0, tw_436⟩
theorem dX0_findUnsure_73 : decode cX0_findUnsure 73 = .ok (.getfield 9, 3) := by decide +kernel
theorem dX0_findUnsure_76 : decode cX0_findUnsure 76 = .ok (.aload_n 0, 1) := by decide +kernel
theorem dX0_findUnsure_77 : decode cX0_findUnsure 77 = .ok (.getfield 27, 3) := by decide +kernel
theorem dX0_findUnsure_80 : decode cX0_findUnsure 80 = .ok (.iload_n 2, 1) := by decide +kernel
theorem dX0_findUnsure_81 : decode cX0_findUnsure 81 = .ok (.iastore, 1) := by decide +kernel
theorem dX0_findUnsure_82 : decode cX0_findUnsure 82 = .ok (.aload_n 0, 1) := by decide +kernel
theorem dX0_findUnsure_83 : decode cX0_findUnsure 83 = .ok (.dup, 1) := by decide +kernel
theorem dX0_findUnsure_84 : decode cX0_findUnsure 84 = .ok (.getfield 27, 3) := by decide +kernel
theorem dX0_findUnsure_87 : decode cX0_findUnsure 87 = .ok (.iconst 1, 1) := by decide +kernel
theorem dX0_findUnsure_88 : decode cX0_findUnsure 88 = .ok (.iadd, 1) := by decide +kernel
theorem dX0_findUnsure_89 : decode cX0_findUnsure 89 = .ok (.putfield 27, 3) := by decide +kernel
theorem dX0_findUnsure_92 : decode cX0_findUnsure 92 = .ok (.aload_n 0, 1) := by decide +kernel
theorem dX0_findUnsure_93 : decode cX0_findUnsure 93 = .ok (.dup, 1) := by decide +kernel
theorem dX0_findUnsure_94 : decode cX0_findUnsure 94 = .ok (.getfield 51, 3) := by decide +kernel
theorem tw_1188 : (Jvm.Cond.constantLong "MarshBells$Chances" (69 : Nat) (10 : Int64)) ∈ lw_tbl := tk_5 (List.mem_of_getElem? (i := 228) rfl)
theorem dX0_findUnsure_97 : decode cX0_findUnsure 97 = .ok (.ldc2_w 69, 3) := by decide +kernel
theorem dX0_findUnsure_100 : decode cX0_findUnsure 100 = .ok (.lmul, 1) := by decide +kernel
theorem dX0_findUnsure_101 : decode cX0_findUnsure 101 = .ok (.putfield 51, 3) := by decide +kernel
theorem dX0_findUnsure_42 : decode cX0_findUnsure 42 = .ok (.aload_n 0, 1) := by decide +kernel
theorem dX0_findUnsure_43 : decode cX0_findUnsure 43 = .ok (.dup, 1) := by decide +kernel
theorem dX0_findUnsure_44 : decode cX0_findUnsure 44 = .ok (.getfield 48, 3) := by decide +kernel
theorem dX0_findUnsure_47 : decode cX0_findUnsure 47 = .ok (.iconst 1, 1) := by decide +kernel
theorem dX0_findUnsure_48 : decode cX0_findUnsure 48 = .ok (.iload_n 2, 1) := by decide +kernel
theorem dX0_findUnsure_49 : decode cX0_findUnsure 49 = .ok (.ishl, 1) := by decide +kernel
theorem dX0_findUnsure_50 : decode cX0_findUnsure 50 = .ok (.ior, 1) := by decide +kernel
theorem dX0_findUnsure_51 : decode cX0_findUnsure 51 = .ok (.putfield 48, 3) := by decide +kernel
theorem dX0_findUnsure_54 : decode cX0_findUnsure 54 = .ok (.goto 50, 3) := by decide +kernel
theorem dX0_findUnsure_104 : decode cX0_findUnsure 104 = .ok (.iinc 2 1, 3) := by decide +kernel
theorem dX0_findUnsure_107 : decode cX0_findUnsure 107 = .ok (.goto (-90), 3) := by decide +kernel
theorem dX0_findUnsure_110 : decode cX0_findUnsure 110 = .ok (.return_, 1) := by decide +kernel
theorem dX0_ofLate_2 : decode cX0_ofLate 2 = .ok (.invokevirtual 19, 3) := by decide +kernel
theorem dX0_ofLate_5 : decode cX0_ofLate 5 = .ok (.aload_n 0, 1) := by decide +kernel
theorem dX0_ofLate_6 : decode cX0_ofLate 6 = .ok (.lconst 0, 1) := by decide +kernel
theorem tw_440 : (Jvm.Cond.fieldLink "MarshBells$Chances" (23 : Nat) "MarshBells$Chances" "upper" "J") ∈ lw_tbl := tk_2 (List.mem_of_getElem? (i := 200) rfl)
theorem fl_X0_23 : kFL RX0 23 0 7 5 := ⟨RX0, TX0, rfl, by decide, inWX0, tw_440⟩
theorem ft_X0_5 : kFT 0 5 .long false RX0 := ⟨RX0, TX0, 7, tyX0, rfl, tyX0_ok, nmX0, rfl, by decide +kernel, rfl⟩
theorem dX0_ofLate_7 : decode cX0_ofLate 7 = .ok (.putfield 23, 3) := by decide +kernel
theorem dX0_ofLate_10 : decode cX0_ofLate 10 = .ok (.iconst 0, 1) := by decide +kernel
theorem dX0_ofLate_11 : decode cX0_ofLate 11 = .ok (.istore_n 3, 1) := by decide +kernel
theorem dX0_ofLate_12 : decode cX0_ofLate 12 = .ok (.iload_n 3, 1) := by decide +kernel
theorem dX0_ofLate_13 : decode cX0_ofLate 13 = .ok (.iconst 1, 1) := by decide +kernel
theorem dX0_ofLate_14 : decode cX0_ofLate 14 = .ok (.aload_n 0, 1) := by decide +kernel
theorem dX0_ofLate_15 : decode cX0_ofLate 15 = .ok (.getfield 27, 3) := by decide +kernel
theorem dX0_ofLate_18 : decode cX0_ofLate 18 = .ok (.ishl, 1) := by decide +kernel
theorem dX0_ofLate_19 : decode cX0_ofLate 19 = .ok (.if_icmp .ge 41, 3) := by decide +kernel
theorem dX0_ofLate_22 : decode cX0_ofLate 22 = .ok (.aload_n 0, 1) := by decide +kernel
theorem dX0_ofLate_23 : decode cX0_ofLate 23 = .ok (.iload_n 3, 1) := by decide +kernel
theorem dX0_ofLate_24 : decode cX0_ofLate 24 = .ok (.iload_n 1, 1) := by decide +kernel
theorem tw_1189 : (Jvm.Cond.methodLink "MarshBells$Chances" (31 : Nat) ({ cls := "MarshBells$Chances", name := "runWith", desc := "(II)V" } : Jvm.MethodName)) ∈ lw_tbl := tk_5 (List.mem_of_getElem? (i := 229) rfl)
theorem tw_1192 : (Jvm.Cond.code ({ cls := "MarshBells$Chances", name := "runWith", desc := "(II)V" } : Jvm.MethodName) prog_2_method_5_code (5 : Nat) (Option.none : Option Jvm.ClassFile.FieldType)) ∈ lw_tbl := tk_5 (List.mem_of_getElem? (i := 232) rfl)
theorem tw_1191 : (Jvm.Cond.instanceMethod ({ cls := "MarshBells$Chances", name := "runWith", desc := "(II)V" } : Jvm.MethodName)) ∈ lw_tbl := tk_5 (List.mem_of_getElem? (i := 231) rfl)
theorem se_X0_runWith : Cond.selects RX0 yX0_runWith yX0_runWith ∈ lw_tbl := List.mem_append_left _ (List.mem_of_getElem? (i := 82) rfl)
theorem li_X0_31 : kLV RX0 31 RX0 yX0_runWith cX0_runWith 5 none 2 := ⟨tw_1189, tw_1191, se_X0_runWith, tw_1192, tw_11, by decide +kernel⟩
theorem dX0_runWith_0 : decode cX0_runWith 0 = .ok (.aload_n 0, 1) := by decide +kernel
theorem dX0_runWith_1 : decode cX0_runWith 1 = .ok (.getfield 48, 3) := by decide +kernel
theorem dX0_runWith_4 : decode cX0_runWith 4 = .ok (.iconst (-1), 1) := by decide +kernel
theorem dX0_runWith_5 : decode cX0_runWith 5 = .ok (.ixor, 1) := by decide +kernel
theorem dX0_runWith_6 : decode cX0_runWith 6 = .ok (.istore_n 3, 1) := by decide +kernel
theorem dX0_runWith_7 : decode cX0_runWith 7 = .ok (.iconst 0, 1) := by decide +kernel
theorem dX0_runWith_8 : decode cX0_runWith 8 = .ok (.istore 4, 2) := by decide +kernel
theorem dX0_runWith_10 : decode cX0_runWith 10 = .ok (.iload 4, 2) := by decide +kernel
theorem dX0_runWith_12 : decode cX0_runWith 12 = .ok (.aload_n 0, 1) := by decide +kernel
theorem dX0_runWith_13 : decode cX0_runWith 13 = .ok (.getfield 27, 3) := by decide +kernel
theorem dX0_runWith_16 : decode cX0_runWith 16 = .ok (.if_icmp .ge 32, 3) := by decide +kernel
theorem dX0_runWith_48 : decode cX0_runWith 48 = .ok (.aload_n 0, 1) := by decide +kernel
theorem dX0_runWith_49 : decode cX0_runWith 49 = .ok (.getfield 15, 3) := by decide +kernel
theorem dX0_runWith_52 : decode cX0_runWith 52 = .ok (.iload_n 3, 1) := by decide +kernel
theorem tw_321 : (Jvm.Cond.fieldLinkNest "MarshBells$Chances" (71 : Nat) "MarshBells$Day" "running" "I" "MarshBells") ∈ lw_tbl := tk_2 (List.mem_of_getElem? (i := 81) rfl)
theorem fl_X0_71 : kFN RX0 71 1 10 8 := ⟨RX1, TX1, rfl, by decide, inWX1, tw_321⟩
theorem ft_X1_8 : kFT 1 8 .int false RX1 := ⟨RX1, TX1, 10, tyX1, rfl, tyX1_ok, nmX1, rfl, by decide +kernel, rfl⟩
theorem dX0_runWith_53 : decode cX0_runWith 53 = .ok (.putfield 71, 3) := by decide +kernel
theorem dX0_runWith_56 : decode cX0_runWith 56 = .ok (.iconst 0, 1) := by decide +kernel
theorem dX0_runWith_57 : decode cX0_runWith 57 = .ok (.istore 4, 2) := by decide +kernel
theorem dX0_runWith_59 : decode cX0_runWith 59 = .ok (.iload 4, 2) := by decide +kernel
theorem dX0_runWith_61 : decode cX0_runWith 61 = .ok (.iload_n 2, 1) := by decide +kernel
theorem dX0_runWith_62 : decode cX0_runWith 62 = .ok (.if_icmp .gt 18, 3) := by decide +kernel
theorem dX0_runWith_65 : decode cX0_runWith 65 = .ok (.aload_n 0, 1) := by decide +kernel
theorem dX0_runWith_66 : decode cX0_runWith 66 = .ok (.getfield 15, 3) := by decide +kernel
theorem dX0_runWith_69 : decode cX0_runWith 69 = .ok (.iload 4, 2) := by decide +kernel
theorem tw_1193 : (Jvm.Cond.methodLinkNest "MarshBells$Chances" (74 : Nat) ({ cls := "MarshBells$Day", name := "runOne", desc := "(I)V" } : Jvm.MethodName) "MarshBells") ∈ lw_tbl := tk_5 (List.mem_of_getElem? (i := 233) rfl)
theorem li_X0_74 : kLN RX0 74 RX1 yX1_runOne "MarshBells" cX1_runOne 3 none 1 := ⟨tw_1193, tw_610, se_X1_runOne, tw_611, tw_7, by decide +kernel⟩
theorem dX0_runWith_71 : decode cX0_runWith 71 = .ok (.invokevirtual 74, 3) := by decide +kernel
theorem dX0_runWith_74 : decode cX0_runWith 74 = .ok (.iinc 4 1, 3) := by decide +kernel
theorem dX0_runWith_77 : decode cX0_runWith 77 = .ok (.goto (-18), 3) := by decide +kernel
theorem dX0_runWith_80 : decode cX0_runWith 80 = .ok (.aload_n 0, 1) := by decide +kernel
theorem dX0_runWith_81 : decode cX0_runWith 81 = .ok (.getfield 15, 3) := by decide +kernel
theorem dX0_runWith_84 : decode cX0_runWith 84 = .ok (.iconst (-1), 1) := by decide +kernel
theorem dX0_runWith_85 : decode cX0_runWith 85 = .ok (.putfield 71, 3) := by decide +kernel
theorem dX0_runWith_88 : decode cX0_runWith 88 = .ok (.return_, 1) := by decide +kernel
theorem dX0_runWith_19 : decode cX0_runWith 19 = .ok (.iload_n 1, 1) := by decide +kernel
theorem dX0_runWith_20 : decode cX0_runWith 20 = .ok (.iload 4, 2) := by decide +kernel
theorem dX0_runWith_22 : decode cX0_runWith 22 = .ok (.ishr, 1) := by decide +kernel
theorem dX0_runWith_23 : decode cX0_runWith 23 = .ok (.iconst 1, 1) := by decide +kernel
theorem dX0_runWith_24 : decode cX0_runWith 24 = .ok (.iand, 1) := by decide +kernel
theorem dX0_runWith_25 : decode cX0_runWith 25 = .ok (.ifCond .ne 17, 3) := by decide +kernel
theorem dX0_runWith_28 : decode cX0_runWith 28 = .ok (.iload_n 3, 1) := by decide +kernel
theorem dX0_runWith_29 : decode cX0_runWith 29 = .ok (.iconst 1, 1) := by decide +kernel
theorem dX0_runWith_30 : decode cX0_runWith 30 = .ok (.aload_n 0, 1) := by decide +kernel
theorem dX0_runWith_31 : decode cX0_runWith 31 = .ok (.getfield 9, 3) := by decide +kernel
theorem dX0_runWith_34 : decode cX0_runWith 34 = .ok (.iload 4, 2) := by decide +kernel
theorem dX0_runWith_36 : decode cX0_runWith 36 = .ok (.iaload, 1) := by decide +kernel
theorem dX0_runWith_37 : decode cX0_runWith 37 = .ok (.ishl, 1) := by decide +kernel
theorem dX0_runWith_38 : decode cX0_runWith 38 = .ok (.iconst (-1), 1) := by decide +kernel
theorem dX0_runWith_39 : decode cX0_runWith 39 = .ok (.ixor, 1) := by decide +kernel
theorem dX0_runWith_40 : decode cX0_runWith 40 = .ok (.iand, 1) := by decide +kernel
theorem dX0_runWith_41 : decode cX0_runWith 41 = .ok (.istore_n 3, 1) := by decide +kernel
theorem dX0_runWith_42 : decode cX0_runWith 42 = .ok (.iinc 4 1, 3) := by decide +kernel
theorem dX0_runWith_45 : decode cX0_runWith 45 = .ok (.goto (-35), 3) := by decide +kernel
theorem dX0_ofLate_25 : decode cX0_ofLate 25 = .ok (.invokevirtual 31, 3) := by decide +kernel
theorem dX0_ofLate_28 : decode cX0_ofLate 28 = .ok (.aload_n 0, 1) := by decide +kernel
theorem dX0_ofLate_29 : decode cX0_ofLate 29 = .ok (.getfield 15, 3) := by decide +kernel
theorem dX0_ofLate_32 : decode cX0_ofLate 32 = .ok (.iload_n 1, 1) := by decide +kernel
theorem tw_1194 : (Jvm.Cond.methodLinkNest "MarshBells$Chances" (35 : Nat) ({ cls := "MarshBells$Day", name := "late", desc := "(I)I" } : Jvm.MethodName) "MarshBells") ∈ lw_tbl := tk_5 (List.mem_of_getElem? (i := 234) rfl)
theorem li_X0_35 : kLN RX0 35 RX1 yX1_late "MarshBells" cX1_late 2 (some .int) 1 := ⟨tw_1194, tw_658, se_X1_late, tw_659, tw_7, by decide +kernel⟩
theorem dX0_ofLate_33 : decode cX0_ofLate 33 = .ok (.invokevirtual 35, 3) := by decide +kernel
theorem dX0_ofLate_36 : decode cX0_ofLate 36 = .ok (.iload_n 2, 1) := by decide +kernel
theorem dX0_ofLate_37 : decode cX0_ofLate 37 = .ok (.if_icmp .le 17, 3) := by decide +kernel
theorem dX0_ofLate_40 : decode cX0_ofLate 40 = .ok (.aload_n 0, 1) := by decide +kernel
theorem dX0_ofLate_41 : decode cX0_ofLate 41 = .ok (.dup, 1) := by decide +kernel
theorem dX0_ofLate_42 : decode cX0_ofLate 42 = .ok (.getfield 23, 3) := by decide +kernel
theorem dX0_ofLate_45 : decode cX0_ofLate 45 = .ok (.aload_n 0, 1) := by decide +kernel
theorem dX0_ofLate_46 : decode cX0_ofLate 46 = .ok (.iload_n 3, 1) := by decide +kernel
theorem tw_1195 : (Jvm.Cond.methodLink "MarshBells$Chances" (41 : Nat) ({ cls := "MarshBells$Chances", name := "weight", desc := "(I)J" } : Jvm.MethodName)) ∈ lw_tbl := tk_5 (List.mem_of_getElem? (i := 235) rfl)
theorem tw_1198 : (Jvm.Cond.code ({ cls := "MarshBells$Chances", name := "weight", desc := "(I)J" } : Jvm.MethodName) prog_2_method_6_code (6 : Nat) (Option.some Jvm.ClassFile.FieldType.long)) ∈ lw_tbl := tk_5 (List.mem_of_getElem? (i := 238) rfl)
theorem tw_1197 : (Jvm.Cond.instanceMethod ({ cls := "MarshBells$Chances", name := "weight", desc := "(I)J" } : Jvm.MethodName)) ∈ lw_tbl := tk_5 (List.mem_of_getElem? (i := 237) rfl)
theorem se_X0_weight : Cond.selects RX0 yX0_weight yX0_weight ∈ lw_tbl := List.mem_append_left _ (List.mem_of_getElem? (i := 83) rfl)
theorem li_X0_41 : kLV RX0 41 RX0 yX0_weight cX0_weight 6 (some .long) 1 := ⟨tw_1195, tw_1197, se_X0_weight, tw_1198, tw_11, by decide +kernel⟩
theorem dX0_weight_0 : decode cX0_weight 0 = .ok (.lconst 1, 1) := by decide +kernel
theorem dX0_weight_1 : decode cX0_weight 1 = .ok (.lstore_n 2, 1) := by decide +kernel
theorem dX0_weight_2 : decode cX0_weight 2 = .ok (.iconst 0, 1) := by decide +kernel
theorem dX0_weight_3 : decode cX0_weight 3 = .ok (.istore 4, 2) := by decide +kernel
theorem dX0_weight_5 : decode cX0_weight 5 = .ok (.iload 4, 2) := by decide +kernel
theorem dX0_weight_7 : decode cX0_weight 7 = .ok (.aload_n 0, 1) := by decide +kernel
theorem dX0_weight_8 : decode cX0_weight 8 = .ok (.getfield 27, 3) := by decide +kernel
theorem dX0_weight_11 : decode cX0_weight 11 = .ok (.if_icmp .ge 56, 3) := by decide +kernel
theorem dX0_weight_67 : decode cX0_weight 67 = .ok (.lload_n 2, 1) := by decide +kernel
theorem dX0_weight_68 : decode cX0_weight 68 = .ok (.lreturn, 1) := by decide +kernel
theorem dX0_weight_14 : decode cX0_weight 14 = .ok (.aload_n 0, 1) := by decide +kernel
theorem dX0_weight_15 : decode cX0_weight 15 = .ok (.getfield 15, 3) := by decide +kernel
theorem dX0_weight_18 : decode cX0_weight 18 = .ok (.getfield 54, 3) := by decide +kernel
theorem dX0_weight_21 : decode cX0_weight 21 = .ok (.getfield 58, 3) := by decide +kernel
theorem dX0_weight_24 : decode cX0_weight 24 = .ok (.aload_n 0, 1) := by decide +kernel
theorem dX0_weight_25 : decode cX0_weight 25 = .ok (.getfield 9, 3) := by decide +kernel
theorem dX0_weight_28 : decode cX0_weight 28 = .ok (.iload 4, 2) := by decide +kernel
theorem dX0_weight_30 : decode cX0_weight 30 = .ok (.iaload, 1) := by decide +kernel
theorem dX0_weight_31 : decode cX0_weight 31 = .ok (.aaload, 1) := by decide +kernel
theorem dX0_weight_32 : decode cX0_weight 32 = .ok (.getfield 64, 3) := by decide +kernel
theorem dX0_weight_35 : decode cX0_weight 35 = .ok (.istore 5, 2) := by decide +kernel
theorem dX0_weight_37 : decode cX0_weight 37 = .ok (.lload_n 2, 1) := by decide +kernel
theorem dX0_weight_38 : decode cX0_weight 38 = .ok (.iload_n 1, 1) := by decide +kernel
theorem dX0_weight_39 : decode cX0_weight 39 = .ok (.iload 4, 2) := by decide +kernel
theorem dX0_weight_41 : decode cX0_weight 41 = .ok (.ishr, 1) := by decide +kernel
theorem dX0_weight_42 : decode cX0_weight 42 = .ok (.iconst 1, 1) := by decide +kernel
theorem dX0_weight_43 : decode cX0_weight 43 = .ok (.iand, 1) := by decide +kernel
theorem dX0_weight_44 : decode cX0_weight 44 = .ok (.ifCond .eq 9, 3) := by decide +kernel
theorem dX0_weight_53 : decode cX0_weight 53 = .ok (.bipush 10, 2) := by decide +kernel
theorem dX0_weight_55 : decode cX0_weight 55 = .ok (.iload 5, 2) := by decide +kernel
theorem dX0_weight_57 : decode cX0_weight 57 = .ok (.isub, 1) := by decide +kernel
theorem dX0_weight_58 : decode cX0_weight 58 = .ok (.i2l, 1) := by decide +kernel
theorem dX0_weight_47 : decode cX0_weight 47 = .ok (.iload 5, 2) := by decide +kernel
theorem dX0_weight_49 : decode cX0_weight 49 = .ok (.i2l, 1) := by decide +kernel
theorem dX0_weight_50 : decode cX0_weight 50 = .ok (.goto 9, 3) := by decide +kernel
theorem dX0_weight_59 : decode cX0_weight 59 = .ok (.lmul, 1) := by decide +kernel
theorem dX0_weight_60 : decode cX0_weight 60 = .ok (.lstore_n 2, 1) := by decide +kernel
theorem dX0_weight_61 : decode cX0_weight 61 = .ok (.iinc 4 1, 3) := by decide +kernel
theorem dX0_weight_64 : decode cX0_weight 64 = .ok (.goto (-59), 3) := by decide +kernel
theorem dX0_ofLate_47 : decode cX0_ofLate 47 = .ok (.invokevirtual 41, 3) := by decide +kernel
theorem dX0_ofLate_50 : decode cX0_ofLate 50 = .ok (.ladd, 1) := by decide +kernel
theorem dX0_ofLate_51 : decode cX0_ofLate 51 = .ok (.putfield 23, 3) := by decide +kernel
theorem dX0_ofLate_54 : decode cX0_ofLate 54 = .ok (.iinc 3 1, 3) := by decide +kernel
theorem dX0_ofLate_57 : decode cX0_ofLate 57 = .ok (.goto (-45), 3) := by decide +kernel
theorem dX0_ofLate_60 : decode cX0_ofLate 60 = .ok (.aload_n 0, 1) := by decide +kernel
theorem tw_1199 : (Jvm.Cond.methodLink "MarshBells$Chances" (45 : Nat) ({ cls := "MarshBells$Chances", name := "reduce", desc := "()V" } : Jvm.MethodName)) ∈ lw_tbl := tk_5 (List.mem_of_getElem? (i := 239) rfl)
theorem tw_1202 : (Jvm.Cond.code ({ cls := "MarshBells$Chances", name := "reduce", desc := "()V" } : Jvm.MethodName) prog_2_method_7_code (8 : Nat) (Option.none : Option Jvm.ClassFile.FieldType)) ∈ lw_tbl := tk_6 (List.mem_of_getElem? (i := 2) rfl)
theorem tw_1201 : (Jvm.Cond.instanceMethod ({ cls := "MarshBells$Chances", name := "reduce", desc := "()V" } : Jvm.MethodName)) ∈ lw_tbl := tk_6 (List.mem_of_getElem? (i := 1) rfl)
theorem se_X0_reduce : Cond.selects RX0 yX0_reduce yX0_reduce ∈ lw_tbl := List.mem_append_left _ (List.mem_of_getElem? (i := 84) rfl)
theorem li_X0_45 : kLV RX0 45 RX0 yX0_reduce cX0_reduce 8 none 0 := ⟨tw_1199, tw_1201, se_X0_reduce, tw_1202, tw_11, by decide +kernel⟩
theorem dX0_reduce_0 : decode cX0_reduce 0 = .ok (.aload_n 0, 1) := by decide +kernel
theorem dX0_reduce_1 : decode cX0_reduce 1 = .ok (.getfield 51, 3) := by decide +kernel
theorem dX0_reduce_4 : decode cX0_reduce 4 = .ok (.lstore_n 1, 1) := by decide +kernel
theorem dX0_reduce_5 : decode cX0_reduce 5 = .ok (.aload_n 0, 1) := by decide +kernel
theorem dX0_reduce_6 : decode cX0_reduce 6 = .ok (.getfield 23, 3) := by decide +kernel
theorem dX0_reduce_9 : decode cX0_reduce 9 = .ok (.lstore_n 3, 1) := by decide +kernel
theorem dX0_reduce_10 : decode cX0_reduce 10 = .ok (.iconst 0, 1) := by decide +kernel
theorem dX0_reduce_11 : decode cX0_reduce 11 = .ok (.istore 5, 2) := by decide +kernel
theorem dX0_reduce_13 : decode cX0_reduce 13 = .ok (.iload 5, 2) := by decide +kernel
theorem dX0_reduce_15 : decode cX0_reduce 15 = .ok (.sipush 200, 3) := by decide +kernel
theorem dX0_reduce_18 : decode cX0_reduce 18 = .ok (.if_icmp .ge 25, 3) := by decide +kernel
theorem dX0_reduce_21 : decode cX0_reduce 21 = .ok (.lload_n 3, 1) := by decide +kernel
theorem dX0_reduce_22 : decode cX0_reduce 22 = .ok (.lconst 0, 1) := by decide +kernel
theorem dX0_reduce_23 : decode cX0_reduce 23 = .ok (.lcmp, 1) := by decide +kernel
theorem dX0_reduce_24 : decode cX0_reduce 24 = .ok (.ifCond .eq 19, 3) := by decide +kernel
theorem dX0_reduce_27 : decode cX0_reduce 27 = .ok (.lload_n 1, 1) := by decide +kernel
theorem dX0_reduce_28 : decode cX0_reduce 28 = .ok (.lload_n 3, 1) := by decide +kernel
theorem dX0_reduce_29 : decode cX0_reduce 29 = .ok (.lrem, 1) := by decide +kernel
theorem dX0_reduce_30 : decode cX0_reduce 30 = .ok (.lstore 6, 2) := by decide +kernel
theorem dX0_reduce_32 : decode cX0_reduce 32 = .ok (.lload_n 3, 1) := by decide +kernel
theorem dX0_reduce_33 : decode cX0_reduce 33 = .ok (.lstore_n 1, 1) := by decide +kernel
theorem dX0_reduce_34 : decode cX0_reduce 34 = .ok (.lload 6, 2) := by decide +kernel
theorem dX0_reduce_36 : decode cX0_reduce 36 = .ok (.lstore_n 3, 1) := by decide +kernel
theorem dX0_reduce_37 : decode cX0_reduce 37 = .ok (.iinc 5 1, 3) := by decide +kernel
theorem dX0_reduce_40 : decode cX0_reduce 40 = .ok (.goto (-27), 3) := by decide +kernel
theorem dX0_reduce_43 : decode cX0_reduce 43 = .ok (.lload_n 1, 1) := by decide +kernel
theorem dX0_reduce_44 : decode cX0_reduce 44 = .ok (.lconst 1, 1) := by decide +kernel
theorem dX0_reduce_45 : decode cX0_reduce 45 = .ok (.lcmp, 1) := by decide +kernel
theorem dX0_reduce_46 : decode cX0_reduce 46 = .ok (.ifCond .le 23, 3) := by decide +kernel
theorem dX0_reduce_49 : decode cX0_reduce 49 = .ok (.aload_n 0, 1) := by decide +kernel
theorem dX0_reduce_50 : decode cX0_reduce 50 = .ok (.dup, 1) := by decide +kernel
theorem dX0_reduce_51 : decode cX0_reduce 51 = .ok (.getfield 23, 3) := by decide +kernel
theorem dX0_reduce_54 : decode cX0_reduce 54 = .ok (.lload_n 1, 1) := by decide +kernel
theorem dX0_reduce_55 : decode cX0_reduce 55 = .ok (.ldiv, 1) := by decide +kernel
theorem dX0_reduce_56 : decode cX0_reduce 56 = .ok (.putfield 23, 3) := by decide +kernel
theorem dX0_reduce_59 : decode cX0_reduce 59 = .ok (.aload_n 0, 1) := by decide +kernel
theorem dX0_reduce_60 : decode cX0_reduce 60 = .ok (.dup, 1) := by decide +kernel
theorem dX0_reduce_61 : decode cX0_reduce 61 = .ok (.getfield 51, 3) := by decide +kernel
theorem dX0_reduce_64 : decode cX0_reduce 64 = .ok (.lload_n 1, 1) := by decide +kernel
theorem dX0_reduce_65 : decode cX0_reduce 65 = .ok (.ldiv, 1) := by decide +kernel
theorem dX0_reduce_66 : decode cX0_reduce 66 = .ok (.putfield 51, 3) := by decide +kernel
theorem dX0_reduce_69 : decode cX0_reduce 69 = .ok (.return_, 1) := by decide +kernel
theorem dX0_ofLate_61 : decode cX0_ofLate 61 = .ok (.invokevirtual 45, 3) := by decide +kernel
theorem dX0_ofLate_64 : decode cX0_ofLate 64 = .ok (.return_, 1) := by decide +kernel
theorem dX0_meanLate_0 : decode cX0_meanLate 0 = .ok (.aload_n 0, 1) := by decide +kernel
theorem dX0_meanLate_1 : decode cX0_meanLate 1 = .ok (.iload_n 1, 1) := by decide +kernel
theorem dX0_meanLate_2 : decode cX0_meanLate 2 = .ok (.invokevirtual 19, 3) := by decide +kernel
theorem dX0_meanLate_5 : decode cX0_meanLate 5 = .ok (.aload_n 0, 1) := by decide +kernel
theorem dX0_meanLate_6 : decode cX0_meanLate 6 = .ok (.lconst 0, 1) := by decide +kernel
theorem dX0_meanLate_7 : decode cX0_meanLate 7 = .ok (.putfield 23, 3) := by decide +kernel
theorem dX0_meanLate_10 : decode cX0_meanLate 10 = .ok (.iconst 0, 1) := by decide +kernel
theorem dX0_meanLate_11 : decode cX0_meanLate 11 = .ok (.istore_n 2, 1) := by decide +kernel
theorem dX0_meanLate_12 : decode cX0_meanLate 12 = .ok (.iload_n 2, 1) := by decide +kernel
theorem dX0_meanLate_13 : decode cX0_meanLate 13 = .ok (.iconst 1, 1) := by decide +kernel
theorem dX0_meanLate_14 : decode cX0_meanLate 14 = .ok (.aload_n 0, 1) := by decide +kernel
theorem dX0_meanLate_15 : decode cX0_meanLate 15 = .ok (.getfield 27, 3) := by decide +kernel
theorem dX0_meanLate_18 : decode cX0_meanLate 18 = .ok (.ishl, 1) := by decide +kernel
theorem dX0_meanLate_19 : decode cX0_meanLate 19 = .ok (.if_icmp .ge 39, 3) := by decide +kernel
theorem dX0_meanLate_22 : decode cX0_meanLate 22 = .ok (.aload_n 0, 1) := by decide +kernel
theorem dX0_meanLate_23 : decode cX0_meanLate 23 = .ok (.iload_n 2, 1) := by decide +kernel
theorem dX0_meanLate_24 : decode cX0_meanLate 24 = .ok (.iload_n 1, 1) := by decide +kernel
theorem dX0_meanLate_25 : decode cX0_meanLate 25 = .ok (.invokevirtual 31, 3) := by decide +kernel
theorem dX0_meanLate_28 : decode cX0_meanLate 28 = .ok (.aload_n 0, 1) := by decide +kernel
theorem dX0_meanLate_29 : decode cX0_meanLate 29 = .ok (.dup, 1) := by decide +kernel
theorem dX0_meanLate_30 : decode cX0_meanLate 30 = .ok (.getfield 23, 3) := by decide +kernel
theorem dX0_meanLate_33 : decode cX0_meanLate 33 = .ok (.aload_n 0, 1) := by decide +kernel
theorem dX0_meanLate_34 : decode cX0_meanLate 34 = .ok (.iload_n 2, 1) := by decide +kernel
theorem dX0_meanLate_35 : decode cX0_meanLate 35 = .ok (.invokevirtual 41, 3) := by decide +kernel
theorem dX0_meanLate_38 : decode cX0_meanLate 38 = .ok (.aload_n 0, 1) := by decide +kernel
theorem dX0_meanLate_39 : decode cX0_meanLate 39 = .ok (.getfield 15, 3) := by decide +kernel
theorem dX0_meanLate_42 : decode cX0_meanLate 42 = .ok (.iload_n 1, 1) := by decide +kernel
theorem dX0_meanLate_43 : decode cX0_meanLate 43 = .ok (.invokevirtual 35, 3) := by decide +kernel
theorem dX0_meanLate_46 : decode cX0_meanLate 46 = .ok (.i2l, 1) := by decide +kernel
theorem dX0_meanLate_47 : decode cX0_meanLate 47 = .ok (.lmul, 1) := by decide +kernel
theorem dX0_meanLate_48 : decode cX0_meanLate 48 = .ok (.ladd, 1) := by decide +kernel
theorem dX0_meanLate_49 : decode cX0_meanLate 49 = .ok (.putfield 23, 3) := by decide +kernel
theorem dX0_meanLate_52 : decode cX0_meanLate 52 = .ok (.iinc 2 1, 3) := by decide +kernel
theorem dX0_meanLate_55 : decode cX0_meanLate 55 = .ok (.goto (-43), 3) := by decide +kernel
theorem dX0_meanLate_58 : decode cX0_meanLate 58 = .ok (.aload_n 0, 1) := by decide +kernel
theorem dX0_meanLate_59 : decode cX0_meanLate 59 = .ok (.invokevirtual 45, 3) := by decide +kernel
theorem dX0_meanLate_62 : decode cX0_meanLate 62 = .ok (.return_, 1) := by decide +kernel
theorem dX0_ofTerm_0 : decode cX0_ofTerm 0 = .ok (.aload_n 0, 1) := by decide +kernel
theorem dX0_ofTerm_1 : decode cX0_ofTerm 1 = .ok (.iload_n 1, 1) := by decide +kernel
theorem tw_439 : (Jvm.Cond.fieldLink "MarshBells$Chances" (77 : Nat) "MarshBells$Chances" "seed" "I") ∈ lw_tbl := tk_2 (List.mem_of_getElem? (i := 199) rfl)
theorem fl_X0_77 : kFL RX0 77 0 7 4 := ⟨RX0, TX0, rfl, by decide, inWX0, tw_439⟩
theorem ft_X0_4 : kFT 0 4 .int false RX0 := ⟨RX0, TX0, 7, tyX0, rfl, tyX0_ok, nmX0, rfl, by decide +kernel, rfl⟩
theorem dX0_ofTerm_2 : decode cX0_ofTerm 2 = .ok (.putfield 77, 3) := by decide +kernel
theorem dX0_ofTerm_5 : decode cX0_ofTerm 5 = .ok (.iconst 0, 1) := by decide +kernel
theorem dX0_ofTerm_6 : decode cX0_ofTerm 6 = .ok (.istore 5, 2) := by decide +kernel
theorem dX0_ofTerm_8 : decode cX0_ofTerm 8 = .ok (.iconst 0, 1) := by decide +kernel
theorem dX0_ofTerm_9 : decode cX0_ofTerm 9 = .ok (.istore 6, 2) := by decide +kernel
theorem dX0_ofTerm_11 : decode cX0_ofTerm 11 = .ok (.iconst 0, 1) := by decide +kernel
theorem dX0_ofTerm_12 : decode cX0_ofTerm 12 = .ok (.istore 7, 2) := by decide +kernel
theorem dX0_ofTerm_14 : decode cX0_ofTerm 14 = .ok (.iconst 0, 1) := by decide +kernel
theorem dX0_ofTerm_15 : decode cX0_ofTerm 15 = .ok (.istore 8, 2) := by decide +kernel
theorem dX0_ofTerm_17 : decode cX0_ofTerm 17 = .ok (.iload 8, 2) := by decide +kernel
theorem dX0_ofTerm_19 : decode cX0_ofTerm 19 = .ok (.iload_n 2, 1) := by decide +kernel
theorem dX0_ofTerm_20 : decode cX0_ofTerm 20 = .ok (.if_icmp .ge 67, 3) := by decide +kernel
theorem dX0_ofTerm_87 : decode cX0_ofTerm 87 = .ok (.aload_n 0, 1) := by decide +kernel
theorem dX0_ofTerm_88 : decode cX0_ofTerm 88 = .ok (.getfield 15, 3) := by decide +kernel
theorem dX0_ofTerm_91 : decode cX0_ofTerm 91 = .ok (.iconst (-1), 1) := by decide +kernel
theorem dX0_ofTerm_92 : decode cX0_ofTerm 92 = .ok (.putfield 71, 3) := by decide +kernel
theorem dX0_ofTerm_95 : decode cX0_ofTerm 95 = .ok (.iload 4, 2) := by decide +kernel
theorem dX0_ofTerm_97 : decode cX0_ofTerm 97 = .ok (.ifCond .ne 6, 3) := by decide +kernel
theorem dX0_ofTerm_103 : decode cX0_ofTerm 103 = .ok (.iload 4, 2) := by decide +kernel
theorem dX0_ofTerm_105 : decode cX0_ofTerm 105 = .ok (.iconst 1, 1) := by decide +kernel
theorem dX0_ofTerm_106 : decode cX0_ofTerm 106 = .ok (.if_icmp .ne 8, 3) := by decide +kernel
theorem dX0_ofTerm_114 : decode cX0_ofTerm 114 = .ok (.iload 7, 2) := by decide +kernel
theorem dX0_ofTerm_109 : decode cX0_ofTerm 109 = .ok (.iload 6, 2) := by decide +kernel
theorem dX0_ofTerm_111 : decode cX0_ofTerm 111 = .ok (.goto 5, 3) := by decide +kernel
theorem dX0_ofTerm_116 : decode cX0_ofTerm 116 = .ok (.ireturn, 1) := by decide +kernel
theorem dX0_ofTerm_100 : decode cX0_ofTerm 100 = .ok (.iload 5, 2) := by decide +kernel
theorem dX0_ofTerm_102 : decode cX0_ofTerm 102 = .ok (.ireturn, 1) := by decide +kernel
theorem dX0_ofTerm_23 : decode cX0_ofTerm 23 = .ok (.aload_n 0, 1) := by decide +kernel
theorem dX0_ofTerm_24 : decode cX0_ofTerm 24 = .ok (.getfield 15, 3) := by decide +kernel
theorem dX0_ofTerm_27 : decode cX0_ofTerm 27 = .ok (.aload_n 0, 1) := by decide +kernel
theorem tw_1312 : (Jvm.Cond.methodLink "MarshBells$Chances" (80 : Nat) ({ cls := "MarshBells$Chances", name := "drawRunning", desc := "()I" } : Jvm.MethodName)) ∈ lw_tbl := tk_6 (List.mem_of_getElem? (i := 112) rfl)
theorem tw_1315 : (Jvm.Cond.code ({ cls := "MarshBells$Chances", name := "drawRunning", desc := "()I" } : Jvm.MethodName) prog_2_method_9_code (4 : Nat) (Option.some Jvm.ClassFile.FieldType.int)) ∈ lw_tbl := tk_6 (List.mem_of_getElem? (i := 115) rfl)
theorem tw_1314 : (Jvm.Cond.instanceMethod ({ cls := "MarshBells$Chances", name := "drawRunning", desc := "()I" } : Jvm.MethodName)) ∈ lw_tbl := tk_6 (List.mem_of_getElem? (i := 114) rfl)
theorem se_X0_drawRunning : Cond.selects RX0 yX0_drawRunning yX0_drawRunning ∈ lw_tbl := List.mem_append_left _ (List.mem_of_getElem? (i := 95) rfl)
theorem li_X0_80 : kLV RX0 80 RX0 yX0_drawRunning cX0_drawRunning 4 (some .int) 0 := ⟨tw_1312, tw_1314, se_X0_drawRunning, tw_1315, tw_11, by decide +kernel⟩
theorem dX0_drawRunning_0 : decode cX0_drawRunning 0 = .ok (.iconst 0, 1) := by decide +kernel
theorem dX0_drawRunning_1 : decode cX0_drawRunning 1 = .ok (.istore_n 1, 1) := by decide +kernel
theorem dX0_drawRunning_2 : decode cX0_drawRunning 2 = .ok (.iconst 0, 1) := by decide +kernel
theorem dX0_drawRunning_3 : decode cX0_drawRunning 3 = .ok (.istore_n 2, 1) := by decide +kernel
theorem dX0_drawRunning_4 : decode cX0_drawRunning 4 = .ok (.iload_n 2, 1) := by decide +kernel
theorem dX0_drawRunning_5 : decode cX0_drawRunning 5 = .ok (.aload_n 0, 1) := by decide +kernel
theorem dX0_drawRunning_6 : decode cX0_drawRunning 6 = .ok (.getfield 15, 3) := by decide +kernel
theorem dX0_drawRunning_9 : decode cX0_drawRunning 9 = .ok (.getfield 54, 3) := by decide +kernel
theorem tw_167 : (Jvm.Cond.fieldLinkNest "MarshBells$Chances" (93 : Nat) "MarshBells$Plan" "lessonCount" "I" "MarshBells") ∈ lw_tbl := tk_1 (List.mem_of_getElem? (i := 167) rfl)
theorem fl_X0_93 : kFN RX0 93 7 5 2 := ⟨RX7, TX7, rfl, by decide, inWX7, tw_167⟩
theorem dX0_drawRunning_12 : decode cX0_drawRunning 12 = .ok (.getfield 93, 3) := by decide +kernel
theorem dX0_drawRunning_15 : decode cX0_drawRunning 15 = .ok (.if_icmp .ge 45, 3) := by decide +kernel
theorem dX0_drawRunning_60 : decode cX0_drawRunning 60 = .ok (.iload_n 1, 1) := by decide +kernel
theorem dX0_drawRunning_61 : decode cX0_drawRunning 61 = .ok (.ireturn, 1) := by decide +kernel
theorem dX0_drawRunning_18 : decode cX0_drawRunning 18 = .ok (.aload_n 0, 1) := by decide +kernel
theorem dX0_drawRunning_19 : decode cX0_drawRunning 19 = .ok (.getfield 15, 3) := by decide +kernel
theorem dX0_drawRunning_22 : decode cX0_drawRunning 22 = .ok (.getfield 54, 3) := by decide +kernel
theorem dX0_drawRunning_25 : decode cX0_drawRunning 25 = .ok (.getfield 58, 3) := by decide +kernel
theorem dX0_drawRunning_28 : decode cX0_drawRunning 28 = .ok (.iload_n 2, 1) := by decide +kernel
theorem dX0_drawRunning_29 : decode cX0_drawRunning 29 = .ok (.aaload, 1) := by decide +kernel
theorem dX0_drawRunning_30 : decode cX0_drawRunning 30 = .ok (.getfield 64, 3) := by decide +kernel
theorem dX0_drawRunning_33 : decode cX0_drawRunning 33 = .ok (.istore_n 3, 1) := by decide +kernel
theorem dX0_drawRunning_34 : decode cX0_drawRunning 34 = .ok (.iload_n 3, 1) := by decide +kernel
theorem dX0_drawRunning_35 : decode cX0_drawRunning 35 = .ok (.bipush 10, 2) := by decide +kernel
theorem dX0_drawRunning_37 : decode cX0_drawRunning 37 = .ok (.if_icmp .eq 11, 3) := by decide +kernel
theorem dX0_drawRunning_40 : decode cX0_drawRunning 40 = .ok (.aload_n 0, 1) := by decide +kernel
theorem tw_1316 : (Jvm.Cond.methodLink "MarshBells$Chances" (96 : Nat) ({ cls := "MarshBells$Chances", name := "drawOfTen", desc := "()I" } : Jvm.MethodName)) ∈ lw_tbl := tk_6 (List.mem_of_getElem? (i := 116) rfl)
theorem tw_1319 : (Jvm.Cond.code ({ cls := "MarshBells$Chances", name := "drawOfTen", desc := "()I" } : Jvm.MethodName) prog_2_method_10_code (1 : Nat) (Option.some Jvm.ClassFile.FieldType.int)) ∈ lw_tbl := tk_6 (List.mem_of_getElem? (i := 119) rfl)
theorem tw_1318 : (Jvm.Cond.instanceMethod ({ cls := "MarshBells$Chances", name := "drawOfTen", desc := "()I" } : Jvm.MethodName)) ∈ lw_tbl := tk_6 (List.mem_of_getElem? (i := 118) rfl)
theorem se_X0_drawOfTen : Cond.selects RX0 yX0_drawOfTen yX0_drawOfTen ∈ lw_tbl := List.mem_append_left _ (List.mem_of_getElem? (i := 96) rfl)
theorem li_X0_96 : kLV RX0 96 RX0 yX0_drawOfTen cX0_drawOfTen 1 (some .int) 0 := ⟨tw_1316, tw_1318, se_X0_drawOfTen, tw_1319, tw_11, by decide +kernel⟩
theorem dX0_drawOfTen_0 : decode cX0_drawOfTen 0 = .ok (.aload_n 0, 1) := by decide +kernel
theorem dX0_drawOfTen_1 : decode cX0_drawOfTen 1 = .ok (.aload_n 0, 1) := by decide +kernel
theorem dX0_drawOfTen_2 : decode cX0_drawOfTen 2 = .ok (.getfield 77, 3) := by decide +kernel
theorem tw_1320 : (Jvm.Cond.constant "MarshBells$Chances" (99 : Nat) (1103515245 : Int32)) ∈ lw_tbl := tk_6 (List.mem_of_getElem? (i := 120) rfl)
theorem dX0_drawOfTen_5 : decode cX0_drawOfTen 5 = .ok (.ldc 99, 2) := by decide +kernel
theorem dX0_drawOfTen_7 : decode cX0_drawOfTen 7 = .ok (.imul, 1) := by decide +kernel
theorem dX0_drawOfTen_8 : decode cX0_drawOfTen 8 = .ok (.sipush 12345, 3) := by decide +kernel
theorem dX0_drawOfTen_11 : decode cX0_drawOfTen 11 = .ok (.iadd, 1) := by decide +kernel
theorem dX0_drawOfTen_12 : decode cX0_drawOfTen 12 = .ok (.putfield 77, 3) := by decide +kernel
theorem dX0_drawOfTen_15 : decode cX0_drawOfTen 15 = .ok (.aload_n 0, 1) := by decide +kernel
theorem dX0_drawOfTen_16 : decode cX0_drawOfTen 16 = .ok (.getfield 77, 3) := by decide +kernel
theorem dX0_drawOfTen_19 : decode cX0_drawOfTen 19 = .ok (.bipush 16, 2) := by decide +kernel
theorem dX0_drawOfTen_21 : decode cX0_drawOfTen 21 = .ok (.iushr, 1) := by decide +kernel
theorem dX0_drawOfTen_22 : decode cX0_drawOfTen 22 = .ok (.sipush 32767, 3) := by decide +kernel
theorem dX0_drawOfTen_25 : decode cX0_drawOfTen 25 = .ok (.iand, 1) := by decide +kernel
theorem dX0_drawOfTen_26 : decode cX0_drawOfTen 26 = .ok (.bipush 10, 2) := by decide +kernel
theorem dX0_drawOfTen_28 : decode cX0_drawOfTen 28 = .ok (.irem, 1) := by decide +kernel
theorem dX0_drawOfTen_29 : decode cX0_drawOfTen 29 = .ok (.ireturn, 1) := by decide +kernel
theorem dX0_drawRunning_41 : decode cX0_drawRunning 41 = .ok (.invokevirtual 96, 3) := by decide +kernel
theorem dX0_drawRunning_44 : decode cX0_drawRunning 44 = .ok (.iload_n 3, 1) := by decide +kernel
theorem dX0_drawRunning_45 : decode cX0_drawRunning 45 = .ok (.if_icmp .ge 9, 3) := by decide +kernel
theorem dX0_drawRunning_48 : decode cX0_drawRunning 48 = .ok (.iload_n 1, 1) := by decide +kernel
theorem dX0_drawRunning_49 : decode cX0_drawRunning 49 = .ok (.iconst 1, 1) := by decide +kernel
theorem dX0_drawRunning_50 : decode cX0_drawRunning 50 = .ok (.iload_n 2, 1) := by decide +kernel
theorem dX0_drawRunning_51 : decode cX0_drawRunning 51 = .ok (.ishl, 1) := by decide +kernel
theorem dX0_drawRunning_52 : decode cX0_drawRunning 52 = .ok (.ior, 1) := by decide +kernel
theorem dX0_drawRunning_53 : decode cX0_drawRunning 53 = .ok (.istore_n 1, 1) := by decide +kernel
theorem dX0_drawRunning_54 : decode cX0_drawRunning 54 = .ok (.iinc 2 1, 3) := by decide +kernel
theorem dX0_drawRunning_57 : decode cX0_drawRunning 57 = .ok (.goto (-53), 3) := by decide +kernel
theorem dX0_ofTerm_28 : decode cX0_ofTerm 28 = .ok (.invokevirtual 80, 3) := by decide +kernel
theorem dX0_ofTerm_31 : decode cX0_ofTerm 31 = .ok (.putfield 71, 3) := by decide +kernel
theorem dX0_ofTerm_34 : decode cX0_ofTerm 34 = .ok (.aload_n 0, 1) := by decide +kernel
theorem dX0_ofTerm_35 : decode cX0_ofTerm 35 = .ok (.getfield 15, 3) := by decide +kernel
theorem dX0_ofTerm_38 : decode cX0_ofTerm 38 = .ok (.iconst 0, 1) := by decide +kernel
theorem tw_1321 : (Jvm.Cond.methodLinkNest "MarshBells$Chances" (84 : Nat) ({ cls := "MarshBells$Day", name := "lostFrom", desc := "(I)I" } : Jvm.MethodName) "MarshBells") ∈ lw_tbl := tk_6 (List.mem_of_getElem? (i := 121) rfl)
theorem li_X0_84 : kLN RX0 84 RX1 yX1_lostFrom "MarshBells" cX1_lostFrom 3 (some .int) 1 := ⟨tw_1321, tw_606, se_X1_lostFrom, tw_607, tw_7, by decide +kernel⟩
theorem dX0_ofTerm_39 : decode cX0_ofTerm 39 = .ok (.invokevirtual 84, 3) := by decide +kernel
theorem dX0_ofTerm_42 : decode cX0_ofTerm 42 = .ok (.istore 9, 2) := by decide +kernel
theorem dX0_ofTerm_44 : decode cX0_ofTerm 44 = .ok (.iload 5, 2) := by decide +kernel
theorem dX0_ofTerm_46 : decode cX0_ofTerm 46 = .ok (.iload 9, 2) := by decide +kernel
theorem dX0_ofTerm_48 : decode cX0_ofTerm 48 = .ok (.iadd, 1) := by decide +kernel
theorem dX0_ofTerm_49 : decode cX0_ofTerm 49 = .ok (.istore 5, 2) := by decide +kernel
theorem dX0_ofTerm_51 : decode cX0_ofTerm 51 = .ok (.iload 6, 2) := by decide +kernel
theorem dX0_ofTerm_53 : decode cX0_ofTerm 53 = .ok (.iload 9, 2) := by decide +kernel
theorem tw_1322 : (Jvm.Cond.methodLink "MarshBells$Chances" (87 : Nat) ({ cls := "java/lang/Math", name := "max", desc := "(II)I" } : Jvm.MethodName)) ∈ lw_tbl := tk_6 (List.mem_of_getElem? (i := 122) rfl)
theorem lm_X0_87 : kLM RX0 87 Lib.Math.max.name Lib.Math.max.code := ⟨tw_1322, tw_628, tw_18, tw_629⟩
theorem dX0_ofTerm_55 : decode cX0_ofTerm 55 = .ok (.invokestatic 87, 3) := by decide +kernel
theorem dX0_ofTerm_58 : decode cX0_ofTerm 58 = .ok (.istore 6, 2) := by decide +kernel
theorem dX0_ofTerm_60 : decode cX0_ofTerm 60 = .ok (.iload 7, 2) := by decide +kernel
theorem dX0_ofTerm_62 : decode cX0_ofTerm 62 = .ok (.aload_n 0, 1) := by decide +kernel
theorem dX0_ofTerm_63 : decode cX0_ofTerm 63 = .ok (.getfield 15, 3) := by decide +kernel
theorem dX0_ofTerm_66 : decode cX0_ofTerm 66 = .ok (.iload_n 3, 1) := by decide +kernel
theorem dX0_ofTerm_67 : decode cX0_ofTerm 67 = .ok (.invokevirtual 35, 3) := by decide +kernel
theorem dX0_ofTerm_70 : decode cX0_ofTerm 70 = .ok (.ifCond .le 7, 3) := by decide +kernel
theorem dX0_ofTerm_77 : decode cX0_ofTerm 77 = .ok (.iconst 0, 1) := by decide +kernel
theorem dX0_ofTerm_73 : decode cX0_ofTerm 73 = .ok (.iconst 1, 1) := by decide +kernel
theorem dX0_ofTerm_74 : decode cX0_ofTerm 74 = .ok (.goto 4, 3) := by decide +kernel
theorem dX0_ofTerm_78 : decode cX0_ofTerm 78 = .ok (.iadd, 1) := by decide +kernel
theorem dX0_ofTerm_79 : decode cX0_ofTerm 79 = .ok (.istore 7, 2) := by decide +kernel
theorem dX0_ofTerm_81 : decode cX0_ofTerm 81 = .ok (.iinc 8 1, 3) := by decide +kernel
theorem dX0_ofTerm_84 : decode cX0_ofTerm 84 = .ok (.goto (-67), 3) := by decide +kernel
theorem dX9_gather_0 : decode cX9_gather 0 = .ok (.aload_n 0, 1) := by decide +kernel
theorem tw_471 : (Jvm.Cond.laysFinal "MarshBells$Stair" "MarshBells$Stair" "day" "LMarshBells$Day;") ∈ lw_tbl := tk_2 (List.mem_of_getElem? (i := 231) rfl)
theorem tw_473 : (Jvm.Cond.laysFinal "MarshBells$Stair" "MarshBells$Stair" "starts" "[I") ∈ lw_tbl := tk_2 (List.mem_of_getElem? (i := 233) rfl)
theorem tw_475 : (Jvm.Cond.laysFinal "MarshBells$Stair" "MarshBells$Stair" "ends" "[I") ∈ lw_tbl := tk_2 (List.mem_of_getElem? (i := 235) rfl)
theorem tw_477 : (Jvm.Cond.laysFinal "MarshBells$Stair" "MarshBells$Stair" "people" "[I") ∈ lw_tbl := tk_2 (List.mem_of_getElem? (i := 237) rfl)
theorem tw_479 : (Jvm.Cond.laysFinal "MarshBells$Stair" "MarshBells$Stair" "up" "[Z") ∈ lw_tbl := tk_2 (List.mem_of_getElem? (i := 239) rfl)
theorem tw_481 : (Jvm.Cond.lays "MarshBells$Stair" "MarshBells$Stair" "ways" "I") ∈ lw_tbl := tk_3 (List.mem_of_getElem? (i := 1) rfl)
theorem inWX9 : ∀ w ∈ u_ws RX9 TX9 6, w ∈ lw_tbl := by
  have e : ∀ k, k < 6 → u_lay RX9 TX9 k ∈ lw_tbl := fun k hk => match k, hk with | 0, _ => tw_471 | 1, _ => tw_473 | 2, _ => tw_475 | 3, _ => tw_477 | 4, _ => tw_479 | 5, _ => tw_481 | k + 6, hk => absurd hk (by omega)
  intro w h
  obtain ⟨k, hk, rfl⟩ := List.mem_map.mp h
  exact e k (List.mem_range.mp hk)
theorem tw_465 : (Jvm.Cond.fieldLink "MarshBells$Stair" (25 : Nat) "MarshBells$Stair" "day" "LMarshBells$Day;") ∈ lw_tbl := tk_2 (List.mem_of_getElem? (i := 225) rfl)
theorem fl_X9_25 : kFL RX9 25 9 6 0 := ⟨RX9, TX9, rfl, by decide, inWX9, tw_465⟩
theorem dX9_gather_1 : decode cX9_gather 1 = .ok (.getfield 25, 3) := by decide +kernel
theorem dX9_gather_4 : decode cX9_gather 4 = .ok (.iconst 0, 1) := by decide +kernel
theorem tw_692 : (Jvm.Cond.methodLinkNest "MarshBells$Stair" (29 : Nat) ({ cls := "MarshBells$Day", name := "runFrom", desc := "(I)V" } : Jvm.MethodName) "MarshBells") ∈ lw_tbl := tk_3 (List.mem_of_getElem? (i := 212) rfl)
theorem li_X9_29 : kLN RX9 29 RX1 yX1_runFrom "MarshBells" cX1_runFrom 3 none 1 := ⟨tw_692, tw_694, se_X1_runFrom, tw_695, tw_7, by decide +kernel⟩
theorem dX9_gather_5 : decode cX9_gather 5 = .ok (.invokevirtual 29, 3) := by decide +kernel
theorem dX9_gather_8 : decode cX9_gather 8 = .ok (.aload_n 0, 1) := by decide +kernel
theorem dX9_gather_9 : decode cX9_gather 9 = .ok (.iconst 0, 1) := by decide +kernel
theorem tw_470 : (Jvm.Cond.fieldLink "MarshBells$Stair" (35 : Nat) "MarshBells$Stair" "ways" "I") ∈ lw_tbl := tk_2 (List.mem_of_getElem? (i := 230) rfl)
theorem fl_X9_35 : kFL RX9 35 9 6 5 := ⟨RX9, TX9, rfl, by decide, inWX9, tw_470⟩
theorem ft_X9_5 : kFT 9 5 .int false RX9 := ⟨RX9, TX9, 6, tyX9, rfl, tyX9_ok, nmX9, rfl, by decide +kernel, rfl⟩
theorem dX9_gather_10 : decode cX9_gather 10 = .ok (.putfield 35, 3) := by decide +kernel
theorem dX9_gather_13 : decode cX9_gather 13 = .ok (.iconst 0, 1) := by decide +kernel
theorem dX9_gather_14 : decode cX9_gather 14 = .ok (.istore_n 1, 1) := by decide +kernel
theorem dX9_gather_15 : decode cX9_gather 15 = .ok (.iload_n 1, 1) := by decide +kernel
theorem dX9_gather_16 : decode cX9_gather 16 = .ok (.aload_n 0, 1) := by decide +kernel
theorem dX9_gather_17 : decode cX9_gather 17 = .ok (.getfield 25, 3) := by decide +kernel
theorem tw_316 : (Jvm.Cond.fieldLinkNest "MarshBells$Stair" (39 : Nat) "MarshBells$Day" "plan" "LMarshBells$Plan;" "MarshBells") ∈ lw_tbl := tk_2 (List.mem_of_getElem? (i := 76) rfl)
theorem fl_X9_39 : kFN RX9 39 1 10 7 := ⟨RX1, TX1, rfl, by decide, inWX1, tw_316⟩
theorem dX9_gather_20 : decode cX9_gather 20 = .ok (.getfield 39, 3) := by decide +kernel
theorem tw_165 : (Jvm.Cond.fieldLinkNest "MarshBells$Stair" (43 : Nat) "MarshBells$Plan" "lessonCount" "I" "MarshBells") ∈ lw_tbl := tk_1 (List.mem_of_getElem? (i := 165) rfl)
theorem fl_X9_43 : kFN RX9 43 7 5 2 := ⟨RX7, TX7, rfl, by decide, inWX7, tw_165⟩
theorem dX9_gather_23 : decode cX9_gather 23 = .ok (.getfield 43, 3) := by decide +kernel
theorem dX9_gather_26 : decode cX9_gather 26 = .ok (.if_icmp .ge 73, 3) := by decide +kernel
theorem dX9_gather_99 : decode cX9_gather 99 = .ok (.return_, 1) := by decide +kernel
theorem dX9_gather_29 : decode cX9_gather 29 = .ok (.aload_n 0, 1) := by decide +kernel
theorem dX9_gather_30 : decode cX9_gather 30 = .ok (.getfield 25, 3) := by decide +kernel
theorem dX9_gather_33 : decode cX9_gather 33 = .ok (.getfield 39, 3) := by decide +kernel
theorem tw_149 : (Jvm.Cond.fieldLinkNest "MarshBells$Stair" (48 : Nat) "MarshBells$Plan" "lessons" "[LMarshBells$Lesson;" "MarshBells") ∈ lw_tbl := tk_1 (List.mem_of_getElem? (i := 149) rfl)
theorem fl_X9_48 : kFN RX9 48 7 5 0 := ⟨RX7, TX7, rfl, by decide, inWX7, tw_149⟩
theorem dX9_gather_36 : decode cX9_gather 36 = .ok (.getfield 48, 3) := by decide +kernel
theorem dX9_gather_39 : decode cX9_gather 39 = .ok (.iload_n 1, 1) := by decide +kernel
theorem dX9_gather_40 : decode cX9_gather 40 = .ok (.aaload, 1) := by decide +kernel
theorem dX9_gather_41 : decode cX9_gather 41 = .ok (.astore_n 2, 1) := by decide +kernel
theorem dX9_gather_42 : decode cX9_gather 42 = .ok (.iconst 0, 1) := by decide +kernel
theorem dX9_gather_43 : decode cX9_gather 43 = .ok (.istore_n 3, 1) := by decide +kernel
theorem dX9_gather_44 : decode cX9_gather 44 = .ok (.iload_n 3, 1) := by decide +kernel
theorem dX9_gather_45 : decode cX9_gather 45 = .ok (.aload_n 2, 1) := by decide +kernel
theorem tw_77 : (Jvm.Cond.fieldLinkNest "MarshBells$Stair" (52 : Nat) "MarshBells$Lesson" "waited" "I" "MarshBells") ∈ lw_tbl := tk_1 (List.mem_of_getElem? (i := 77) rfl)
theorem fl_X9_52 : kFN RX9 52 5 14 1 := ⟨RX5, TX5, rfl, by decide, inWX5, tw_77⟩
theorem dX9_gather_46 : decode cX9_gather 46 = .ok (.getfield 52, 3) := by decide +kernel
theorem dX9_gather_49 : decode cX9_gather 49 = .ok (.if_icmp .ge 44, 3) := by decide +kernel
theorem dX9_gather_93 : decode cX9_gather 93 = .ok (.iinc 1 1, 3) := by decide +kernel
theorem dX9_gather_96 : decode cX9_gather 96 = .ok (.goto (-81), 3) := by decide +kernel
theorem dX9_gather_52 : decode cX9_gather 52 = .ok (.aload_n 2, 1) := by decide +kernel
theorem tw_74 : (Jvm.Cond.fieldLinkNest "MarshBells$Stair" (57 : Nat) "MarshBells$Lesson" "waitedFor" "[I" "MarshBells") ∈ lw_tbl := tk_1 (List.mem_of_getElem? (i := 74) rfl)
theorem fl_X9_57 : kFN RX9 57 5 14 0 := ⟨RX5, TX5, rfl, by decide, inWX5, tw_74⟩
theorem dX9_gather_53 : decode cX9_gather 53 = .ok (.getfield 57, 3) := by decide +kernel
theorem dX9_gather_56 : decode cX9_gather 56 = .ok (.iload_n 3, 1) := by decide +kernel
theorem dX9_gather_57 : decode cX9_gather 57 = .ok (.iaload, 1) := by decide +kernel
theorem dX9_gather_58 : decode cX9_gather 58 = .ok (.istore 4, 2) := by decide +kernel
theorem dX9_gather_60 : decode cX9_gather 60 = .ok (.aload_n 0, 1) := by decide +kernel
theorem dX9_gather_61 : decode cX9_gather 61 = .ok (.getfield 25, 3) := by decide +kernel
theorem dX9_gather_64 : decode cX9_gather 64 = .ok (.iload 4, 2) := by decide +kernel
theorem tw_696 : (Jvm.Cond.methodLinkNest "MarshBells$Stair" (60 : Nat) ({ cls := "MarshBells$Day", name := "isUpstairs", desc := "(I)Z" } : Jvm.MethodName) "MarshBells") ∈ lw_tbl := tk_3 (List.mem_of_getElem? (i := 216) rfl)
theorem li_X9_60 : kLN RX9 60 RX1 yX1_isUpstairs "MarshBells" cX1_isUpstairs 2 (some .boolean) 1 := ⟨tw_696, tw_625, se_X1_isUpstairs, tw_626, tw_7, by decide +kernel⟩
theorem dX9_gather_66 : decode cX9_gather 66 = .ok (.invokevirtual 60, 3) := by decide +kernel
theorem dX9_gather_69 : decode cX9_gather 69 = .ok (.aload_n 0, 1) := by decide +kernel
theorem dX9_gather_70 : decode cX9_gather 70 = .ok (.getfield 25, 3) := by decide +kernel
theorem dX9_gather_73 : decode cX9_gather 73 = .ok (.iload_n 1, 1) := by decide +kernel
theorem dX9_gather_74 : decode cX9_gather 74 = .ok (.invokevirtual 60, 3) := by decide +kernel
theorem dX9_gather_77 : decode cX9_gather 77 = .ok (.if_icmp .eq 10, 3) := by decide +kernel
theorem dX9_gather_80 : decode cX9_gather 80 = .ok (.aload_n 0, 1) := by decide +kernel
theorem dX9_gather_81 : decode cX9_gather 81 = .ok (.iload 4, 2) := by decide +kernel
theorem dX9_gather_83 : decode cX9_gather 83 = .ok (.iload_n 1, 1) := by decide +kernel
theorem tw_697 : (Jvm.Cond.methodLink "MarshBells$Stair" (64 : Nat) ({ cls := "MarshBells$Stair", name := "addWay", desc := "(II)V" } : Jvm.MethodName)) ∈ lw_tbl := tk_3 (List.mem_of_getElem? (i := 217) rfl)
theorem tw_12 : (Jvm.Cond.initialized "MarshBells$Stair") ∈ lw_tbl := tk_1 (List.mem_of_getElem? (i := 12) rfl)
theorem tw_700 : (Jvm.Cond.code ({ cls := "MarshBells$Stair", name := "addWay", desc := "(II)V" } : Jvm.MethodName) prog_11_method_3_code (3 : Nat) (Option.none : Option Jvm.ClassFile.FieldType)) ∈ lw_tbl := tk_3 (List.mem_of_getElem? (i := 220) rfl)
theorem tw_699 : (Jvm.Cond.instanceMethod ({ cls := "MarshBells$Stair", name := "addWay", desc := "(II)V" } : Jvm.MethodName)) ∈ lw_tbl := tk_3 (List.mem_of_getElem? (i := 219) rfl)
theorem se_X9_addWay : Cond.selects RX9 yX9_addWay yX9_addWay ∈ lw_tbl := List.mem_append_left _ (List.mem_of_getElem? (i := 28) rfl)
theorem li_X9_64 : kLV RX9 64 RX9 yX9_addWay cX9_addWay 3 none 2 := ⟨tw_697, tw_699, se_X9_addWay, tw_700, tw_12, by decide +kernel⟩
theorem dX9_addWay_0 : decode cX9_addWay 0 = .ok (.aload_n 0, 1) := by decide +kernel
theorem dX9_addWay_1 : decode cX9_addWay 1 = .ok (.getfield 35, 3) := by decide +kernel
theorem dX9_addWay_4 : decode cX9_addWay 4 = .ok (.bipush 72, 2) := by decide +kernel
theorem dX9_addWay_6 : decode cX9_addWay 6 = .ok (.if_icmp .ge 100, 3) := by decide +kernel
theorem dX9_addWay_9 : decode cX9_addWay 9 = .ok (.aload_n 0, 1) := by decide +kernel
theorem tw_466 : (Jvm.Cond.fieldLink "MarshBells$Stair" (9 : Nat) "MarshBells$Stair" "starts" "[I") ∈ lw_tbl := tk_2 (List.mem_of_getElem? (i := 226) rfl)
theorem fl_X9_9 : kFL RX9 9 9 6 1 := ⟨RX9, TX9, rfl, by decide, inWX9, tw_466⟩
theorem dX9_addWay_10 : decode cX9_addWay 10 = .ok (.getfield 9, 3) := by decide +kernel
theorem dX9_addWay_13 : decode cX9_addWay 13 = .ok (.aload_n 0, 1) := by decide +kernel
theorem dX9_addWay_14 : decode cX9_addWay 14 = .ok (.getfield 35, 3) := by decide +kernel
theorem dX9_addWay_17 : decode cX9_addWay 17 = .ok (.aload_n 0, 1) := by decide +kernel
theorem dX9_addWay_18 : decode cX9_addWay 18 = .ok (.getfield 25, 3) := by decide +kernel
theorem tw_305 : (Jvm.Cond.fieldLinkNest "MarshBells$Stair" (68 : Nat) "MarshBells$Day" "ends" "[I" "MarshBells") ∈ lw_tbl := tk_2 (List.mem_of_getElem? (i := 65) rfl)
theorem fl_X9_68 : kFN RX9 68 1 10 2 := ⟨RX1, TX1, rfl, by decide, inWX1, tw_305⟩
theorem dX9_addWay_21 : decode cX9_addWay 21 = .ok (.getfield 68, 3) := by decide +kernel
theorem dX9_addWay_24 : decode cX9_addWay 24 = .ok (.iload_n 1, 1) := by decide +kernel
theorem dX9_addWay_25 : decode cX9_addWay 25 = .ok (.iaload, 1) := by decide +kernel
theorem dX9_addWay_26 : decode cX9_addWay 26 = .ok (.iastore, 1) := by decide +kernel
theorem dX9_addWay_27 : decode cX9_addWay 27 = .ok (.aload_n 0, 1) := by decide +kernel
theorem tw_467 : (Jvm.Cond.fieldLink "MarshBells$Stair" (15 : Nat) "MarshBells$Stair" "ends" "[I") ∈ lw_tbl := tk_2 (List.mem_of_getElem? (i := 227) rfl)
theorem fl_X9_15 : kFL RX9 15 9 6 2 := ⟨RX9, TX9, rfl, by decide, inWX9, tw_467⟩
theorem dX9_addWay_28 : decode cX9_addWay 28 = .ok (.getfield 15, 3) := by decide +kernel
theorem dX9_addWay_31 : decode cX9_addWay 31 = .ok (.aload_n 0, 1) := by decide +kernel
theorem dX9_addWay_32 : decode cX9_addWay 32 = .ok (.getfield 35, 3) := by decide +kernel
theorem dX9_addWay_35 : decode cX9_addWay 35 = .ok (.aload_n 0, 1) := by decide +kernel
theorem dX9_addWay_36 : decode cX9_addWay 36 = .ok (.getfield 25, 3) := by decide +kernel
theorem dX9_addWay_39 : decode cX9_addWay 39 = .ok (.getfield 68, 3) := by decide +kernel
theorem dX9_addWay_42 : decode cX9_addWay 42 = .ok (.iload_n 1, 1) := by decide +kernel
theorem dX9_addWay_43 : decode cX9_addWay 43 = .ok (.iaload, 1) := by decide +kernel
theorem dX9_addWay_44 : decode cX9_addWay 44 = .ok (.aload_n 0, 1) := by decide +kernel
theorem dX9_addWay_45 : decode cX9_addWay 45 = .ok (.getfield 25, 3) := by decide +kernel
theorem dX9_addWay_48 : decode cX9_addWay 48 = .ok (.iload_n 1, 1) := by decide +kernel
theorem dX9_addWay_49 : decode cX9_addWay 49 = .ok (.iload_n 2, 1) := by decide +kernel
theorem tw_701 : (Jvm.Cond.methodLinkNest "MarshBells$Stair" (69 : Nat) ({ cls := "MarshBells$Day", name := "way", desc := "(II)I" } : Jvm.MethodName) "MarshBells") ∈ lw_tbl := tk_3 (List.mem_of_getElem? (i := 221) rfl)
theorem li_X9_69 : kLN RX9 69 RX1 yX1_way "MarshBells" cX1_way 4 (some .int) 2 := ⟨tw_701, tw_618, se_X1_way, tw_619, tw_7, by decide +kernel⟩
theorem dX9_addWay_50 : decode cX9_addWay 50 = .ok (.invokevirtual 69, 3) := by decide +kernel
theorem dX9_addWay_53 : decode cX9_addWay 53 = .ok (.iadd, 1) := by decide +kernel
theorem dX9_addWay_54 : decode cX9_addWay 54 = .ok (.iastore, 1) := by decide +kernel
theorem dX9_addWay_55 : decode cX9_addWay 55 = .ok (.aload_n 0, 1) := by decide +kernel
theorem tw_468 : (Jvm.Cond.fieldLink "MarshBells$Stair" (18 : Nat) "MarshBells$Stair" "people" "[I") ∈ lw_tbl := tk_2 (List.mem_of_getElem? (i := 228) rfl)
theorem fl_X9_18 : kFL RX9 18 9 6 3 := ⟨RX9, TX9, rfl, by decide, inWX9, tw_468⟩
theorem dX9_addWay_56 : decode cX9_addWay 56 = .ok (.getfield 18, 3) := by decide +kernel
theorem dX9_addWay_59 : decode cX9_addWay 59 = .ok (.aload_n 0, 1) := by decide +kernel
theorem dX9_addWay_60 : decode cX9_addWay 60 = .ok (.getfield 35, 3) := by decide +kernel
theorem dX9_addWay_63 : decode cX9_addWay 63 = .ok (.aload_n 0, 1) := by decide +kernel
theorem dX9_addWay_64 : decode cX9_addWay 64 = .ok (.getfield 25, 3) := by decide +kernel
theorem dX9_addWay_67 : decode cX9_addWay 67 = .ok (.getfield 39, 3) := by decide +kernel
theorem dX9_addWay_70 : decode cX9_addWay 70 = .ok (.getfield 48, 3) := by decide +kernel
theorem dX9_addWay_73 : decode cX9_addWay 73 = .ok (.iload_n 1, 1) := by decide +kernel
theorem dX9_addWay_74 : decode cX9_addWay 74 = .ok (.aaload, 1) := by decide +kernel
theorem tw_99 : (Jvm.Cond.fieldLinkNest "MarshBells$Stair" (73 : Nat) "MarshBells$Lesson" "people" "I" "MarshBells") ∈ lw_tbl := tk_1 (List.mem_of_getElem? (i := 99) rfl)
theorem fl_X9_73 : kFN RX9 73 5 14 8 := ⟨RX5, TX5, rfl, by decide, inWX5, tw_99⟩
theorem dX9_addWay_75 : decode cX9_addWay 75 = .ok (.getfield 73, 3) := by decide +kernel
theorem dX9_addWay_78 : decode cX9_addWay 78 = .ok (.iastore, 1) := by decide +kernel
theorem dX9_addWay_79 : decode cX9_addWay 79 = .ok (.aload_n 0, 1) := by decide +kernel
theorem tw_469 : (Jvm.Cond.fieldLink "MarshBells$Stair" (21 : Nat) "MarshBells$Stair" "up" "[Z") ∈ lw_tbl := tk_2 (List.mem_of_getElem? (i := 229) rfl)
theorem fl_X9_21 : kFL RX9 21 9 6 4 := ⟨RX9, TX9, rfl, by decide, inWX9, tw_469⟩
theorem dX9_addWay_80 : decode cX9_addWay 80 = .ok (.getfield 21, 3) := by decide +kernel
theorem dX9_addWay_83 : decode cX9_addWay 83 = .ok (.aload_n 0, 1) := by decide +kernel
theorem dX9_addWay_84 : decode cX9_addWay 84 = .ok (.getfield 35, 3) := by decide +kernel
theorem dX9_addWay_87 : decode cX9_addWay 87 = .ok (.aload_n 0, 1) := by decide +kernel
theorem dX9_addWay_88 : decode cX9_addWay 88 = .ok (.getfield 25, 3) := by decide +kernel
theorem dX9_addWay_91 : decode cX9_addWay 91 = .ok (.iload_n 2, 1) := by decide +kernel
theorem dX9_addWay_92 : decode cX9_addWay 92 = .ok (.invokevirtual 60, 3) := by decide +kernel
theorem dX9_addWay_95 : decode cX9_addWay 95 = .ok (.bastore, 1) := by decide +kernel
theorem dX9_addWay_96 : decode cX9_addWay 96 = .ok (.aload_n 0, 1) := by decide +kernel
theorem dX9_addWay_97 : decode cX9_addWay 97 = .ok (.dup, 1) := by decide +kernel
theorem dX9_addWay_98 : decode cX9_addWay 98 = .ok (.getfield 35, 3) := by decide +kernel
theorem dX9_addWay_101 : decode cX9_addWay 101 = .ok (.iconst 1, 1) := by decide +kernel
theorem dX9_addWay_102 : decode cX9_addWay 102 = .ok (.iadd, 1) := by decide +kernel
theorem dX9_addWay_103 : decode cX9_addWay 103 = .ok (.putfield 35, 3) := by decide +kernel
theorem dX9_addWay_106 : decode cX9_addWay 106 = .ok (.return_, 1) := by decide +kernel
theorem dX9_gather_84 : decode cX9_gather 84 = .ok (.invokevirtual 64, 3) := by decide +kernel
theorem dX9_gather_87 : decode cX9_gather 87 = .ok (.iinc 3 1, 3) := by decide +kernel
theorem dX9_gather_90 : decode cX9_gather 90 = .ok (.goto (-46), 3) := by decide +kernel
theorem dX9_crossings_0 : decode cX9_crossings 0 = .ok (.iconst 0, 1) := by decide +kernel
theorem dX9_crossings_1 : decode cX9_crossings 1 = .ok (.istore_n 1, 1) := by decide +kernel
theorem dX9_crossings_2 : decode cX9_crossings 2 = .ok (.iconst 0, 1) := by decide +kernel
theorem dX9_crossings_3 : decode cX9_crossings 3 = .ok (.istore_n 2, 1) := by decide +kernel
theorem dX9_crossings_4 : decode cX9_crossings 4 = .ok (.iload_n 2, 1) := by decide +kernel
theorem dX9_crossings_5 : decode cX9_crossings 5 = .ok (.aload_n 0, 1) := by decide +kernel
theorem dX9_crossings_6 : decode cX9_crossings 6 = .ok (.getfield 35, 3) := by decide +kernel
theorem dX9_crossings_9 : decode cX9_crossings 9 = .ok (.if_icmp .ge 95, 3) := by decide +kernel
theorem dX9_crossings_104 : decode cX9_crossings 104 = .ok (.iload_n 1, 1) := by decide +kernel
theorem dX9_crossings_105 : decode cX9_crossings 105 = .ok (.ireturn, 1) := by decide +kernel
theorem dX9_crossings_12 : decode cX9_crossings 12 = .ok (.iload_n 2, 1) := by decide +kernel
theorem dX9_crossings_13 : decode cX9_crossings 13 = .ok (.iconst 1, 1) := by decide +kernel
theorem dX9_crossings_14 : decode cX9_crossings 14 = .ok (.iadd, 1) := by decide +kernel
theorem dX9_crossings_15 : decode cX9_crossings 15 = .ok (.istore_n 3, 1) := by decide +kernel
theorem dX9_crossings_16 : decode cX9_crossings 16 = .ok (.iload_n 3, 1) := by decide +kernel
theorem dX9_crossings_17 : decode cX9_crossings 17 = .ok (.aload_n 0, 1) := by decide +kernel
theorem dX9_crossings_18 : decode cX9_crossings 18 = .ok (.getfield 35, 3) := by decide +kernel
theorem dX9_crossings_21 : decode cX9_crossings 21 = .ok (.if_icmp .ge 77, 3) := by decide +kernel
theorem dX9_crossings_98 : decode cX9_crossings 98 = .ok (.iinc 2 1, 3) := by decide +kernel
theorem dX9_crossings_101 : decode cX9_crossings 101 = .ok (.goto (-97), 3) := by decide +kernel
theorem dX9_crossings_24 : decode cX9_crossings 24 = .ok (.aload_n 0, 1) := by decide +kernel
theorem dX9_crossings_25 : decode cX9_crossings 25 = .ok (.getfield 9, 3) := by decide +kernel
theorem dX9_crossings_28 : decode cX9_crossings 28 = .ok (.iload_n 2, 1) := by decide +kernel
theorem dX9_crossings_29 : decode cX9_crossings 29 = .ok (.iaload, 1) := by decide +kernel
theorem dX9_crossings_30 : decode cX9_crossings 30 = .ok (.aload_n 0, 1) := by decide +kernel
theorem dX9_crossings_31 : decode cX9_crossings 31 = .ok (.getfield 9, 3) := by decide +kernel
theorem dX9_crossings_34 : decode cX9_crossings 34 = .ok (.iload_n 3, 1) := by decide +kernel
theorem dX9_crossings_35 : decode cX9_crossings 35 = .ok (.iaload, 1) := by decide +kernel
theorem tw_706 : (Jvm.Cond.methodLink "MarshBells$Stair" (75 : Nat) ({ cls := "java/lang/Math", name := "max", desc := "(II)I" } : Jvm.MethodName)) ∈ lw_tbl := tk_3 (List.mem_of_getElem? (i := 226) rfl)
theorem lm_X9_75 : kLM RX9 75 Lib.Math.max.name Lib.Math.max.code := ⟨tw_706, tw_628, tw_18, tw_629⟩
theorem dX9_crossings_36 : decode cX9_crossings 36 = .ok (.invokestatic 75, 3) := by decide +kernel
theorem dX9_crossings_39 : decode cX9_crossings 39 = .ok (.aload_n 0, 1) := by decide +kernel
theorem dX9_crossings_40 : decode cX9_crossings 40 = .ok (.getfield 15, 3) := by decide +kernel
theorem dX9_crossings_43 : decode cX9_crossings 43 = .ok (.iload_n 2, 1) := by decide +kernel
theorem dX9_crossings_44 : decode cX9_crossings 44 = .ok (.iaload, 1) := by decide +kernel
theorem dX9_crossings_45 : decode cX9_crossings 45 = .ok (.aload_n 0, 1) := by decide +kernel
theorem dX9_crossings_46 : decode cX9_crossings 46 = .ok (.getfield 15, 3) := by decide +kernel
theorem dX9_crossings_49 : decode cX9_crossings 49 = .ok (.iload_n 3, 1) := by decide +kernel
theorem dX9_crossings_50 : decode cX9_crossings 50 = .ok (.iaload, 1) := by decide +kernel
theorem tw_707 : (Jvm.Cond.methodLink "MarshBells$Stair" (80 : Nat) ({ cls := "java/lang/Math", name := "min", desc := "(II)I" } : Jvm.MethodName)) ∈ lw_tbl := tk_3 (List.mem_of_getElem? (i := 227) rfl)
theorem lm_X9_80 : kLM RX9 80 Lib.Math.min.name Lib.Math.min.code := ⟨tw_707, tw_650, tw_18, tw_651⟩
theorem dX9_crossings_51 : decode cX9_crossings 51 = .ok (.invokestatic 80, 3) := by decide +kernel
theorem dX9_crossings_54 : decode cX9_crossings 54 = .ok (.if_icmp .ge 7, 3) := by decide +kernel
theorem dX9_crossings_61 : decode cX9_crossings 61 = .ok (.iconst 0, 1) := by decide +kernel
theorem dX9_crossings_57 : decode cX9_crossings 57 = .ok (.iconst 1, 1) := by decide +kernel
theorem dX9_crossings_58 : decode cX9_crossings 58 = .ok (.goto 4, 3) := by decide +kernel
theorem dX9_crossings_62 : decode cX9_crossings 62 = .ok (.istore 4, 2) := by decide +kernel
theorem dX9_crossings_64 : decode cX9_crossings 64 = .ok (.iload_n 1, 1) := by decide +kernel
theorem dX9_crossings_65 : decode cX9_crossings 65 = .ok (.iload 4, 2) := by decide +kernel
theorem dX9_crossings_67 : decode cX9_crossings 67 = .ok (.ifCond .eq 22, 3) := by decide +kernel
theorem dX9_crossings_70 : decode cX9_crossings 70 = .ok (.aload_n 0, 1) := by decide +kernel
theorem dX9_crossings_71 : decode cX9_crossings 71 = .ok (.getfield 21, 3) := by decide +kernel
theorem dX9_crossings_74 : decode cX9_crossings 74 = .ok (.iload_n 2, 1) := by decide +kernel
theorem dX9_crossings_75 : decode cX9_crossings 75 = .ok (.baload, 1) := by decide +kernel
theorem dX9_crossings_76 : decode cX9_crossings 76 = .ok (.aload_n 0, 1) := by decide +kernel
theorem dX9_crossings_77 : decode cX9_crossings 77 = .ok (.getfield 21, 3) := by decide +kernel
theorem dX9_crossings_80 : decode cX9_crossings 80 = .ok (.iload_n 3, 1) := by decide +kernel
theorem dX9_crossings_81 : decode cX9_crossings 81 = .ok (.baload, 1) := by decide +kernel
theorem dX9_crossings_82 : decode cX9_crossings 82 = .ok (.if_icmp .eq 7, 3) := by decide +kernel
theorem dX9_crossings_85 : decode cX9_crossings 85 = .ok (.iconst 1, 1) := by decide +kernel
theorem dX9_crossings_86 : decode cX9_crossings 86 = .ok (.goto 4, 3) := by decide +kernel
theorem dX9_crossings_89 : decode cX9_crossings 89 = .ok (.iconst 0, 1) := by decide +kernel
theorem dX9_crossings_90 : decode cX9_crossings 90 = .ok (.iadd, 1) := by decide +kernel
theorem dX9_crossings_91 : decode cX9_crossings 91 = .ok (.istore_n 1, 1) := by decide +kernel
theorem dX9_crossings_92 : decode cX9_crossings 92 = .ok (.iinc 3 1, 3) := by decide +kernel
theorem dX9_crossings_95 : decode cX9_crossings 95 = .ok (.goto (-79), 3) := by decide +kernel
theorem dX9_peopleIn_0 : decode cX9_peopleIn 0 = .ok (.iconst 0, 1) := by decide +kernel
theorem dX9_peopleIn_1 : decode cX9_peopleIn 1 = .ok (.istore_n 2, 1) := by decide +kernel
theorem dX9_peopleIn_2 : decode cX9_peopleIn 2 = .ok (.iconst 0, 1) := by decide +kernel
theorem dX9_peopleIn_3 : decode cX9_peopleIn 3 = .ok (.istore_n 3, 1) := by decide +kernel
theorem dX9_peopleIn_4 : decode cX9_peopleIn 4 = .ok (.iload_n 3, 1) := by decide +kernel
theorem dX9_peopleIn_5 : decode cX9_peopleIn 5 = .ok (.aload_n 0, 1) := by decide +kernel
theorem dX9_peopleIn_6 : decode cX9_peopleIn 6 = .ok (.getfield 35, 3) := by decide +kernel
theorem dX9_peopleIn_9 : decode cX9_peopleIn 9 = .ok (.if_icmp .ge 42, 3) := by decide +kernel
theorem dX9_peopleIn_51 : decode cX9_peopleIn 51 = .ok (.iload_n 2, 1) := by decide +kernel
theorem dX9_peopleIn_52 : decode cX9_peopleIn 52 = .ok (.ireturn, 1) := by decide +kernel
theorem dX9_peopleIn_12 : decode cX9_peopleIn 12 = .ok (.iload_n 2, 1) := by decide +kernel
theorem dX9_peopleIn_13 : decode cX9_peopleIn 13 = .ok (.aload_n 0, 1) := by decide +kernel
theorem dX9_peopleIn_14 : decode cX9_peopleIn 14 = .ok (.getfield 9, 3) := by decide +kernel
theorem dX9_peopleIn_17 : decode cX9_peopleIn 17 = .ok (.iload_n 3, 1) := by decide +kernel
theorem dX9_peopleIn_18 : decode cX9_peopleIn 18 = .ok (.iaload, 1) := by decide +kernel
theorem dX9_peopleIn_19 : decode cX9_peopleIn 19 = .ok (.iload_n 1, 1) := by decide +kernel
theorem dX9_peopleIn_20 : decode cX9_peopleIn 20 = .ok (.if_icmp .gt 22, 3) := by decide +kernel
theorem dX9_peopleIn_23 : decode cX9_peopleIn 23 = .ok (.iload_n 1, 1) := by decide +kernel
theorem dX9_peopleIn_24 : decode cX9_peopleIn 24 = .ok (.aload_n 0, 1) := by decide +kernel
theorem dX9_peopleIn_25 : decode cX9_peopleIn 25 = .ok (.getfield 15, 3) := by decide +kernel
theorem dX9_peopleIn_28 : decode cX9_peopleIn 28 = .ok (.iload_n 3, 1) := by decide +kernel
theorem dX9_peopleIn_29 : decode cX9_peopleIn 29 = .ok (.iaload, 1) := by decide +kernel
theorem dX9_peopleIn_30 : decode cX9_peopleIn 30 = .ok (.if_icmp .ge 12, 3) := by decide +kernel
theorem dX9_peopleIn_33 : decode cX9_peopleIn 33 = .ok (.aload_n 0, 1) := by decide +kernel
theorem dX9_peopleIn_34 : decode cX9_peopleIn 34 = .ok (.getfield 18, 3) := by decide +kernel
theorem dX9_peopleIn_37 : decode cX9_peopleIn 37 = .ok (.iload_n 3, 1) := by decide +kernel
theorem dX9_peopleIn_38 : decode cX9_peopleIn 38 = .ok (.iaload, 1) := by decide +kernel
theorem dX9_peopleIn_39 : decode cX9_peopleIn 39 = .ok (.goto 4, 3) := by decide +kernel
theorem dX9_peopleIn_42 : decode cX9_peopleIn 42 = .ok (.iconst 0, 1) := by decide +kernel
theorem dX9_peopleIn_43 : decode cX9_peopleIn 43 = .ok (.iadd, 1) := by decide +kernel
theorem dX9_peopleIn_44 : decode cX9_peopleIn 44 = .ok (.istore_n 2, 1) := by decide +kernel
theorem dX9_peopleIn_45 : decode cX9_peopleIn 45 = .ok (.iinc 3 1, 3) := by decide +kernel
theorem dX9_peopleIn_48 : decode cX9_peopleIn 48 = .ok (.goto (-44), 3) := by decide +kernel
theorem dX9_busiestMinute_0 : decode cX9_busiestMinute 0 = .ok (.iconst (-1), 1) := by decide +kernel
theorem dX9_busiestMinute_1 : decode cX9_busiestMinute 1 = .ok (.istore_n 1, 1) := by decide +kernel
theorem dX9_busiestMinute_2 : decode cX9_busiestMinute 2 = .ok (.iconst 0, 1) := by decide +kernel
theorem dX9_busiestMinute_3 : decode cX9_busiestMinute 3 = .ok (.istore_n 2, 1) := by decide +kernel
theorem dX9_busiestMinute_4 : decode cX9_busiestMinute 4 = .ok (.iconst 0, 1) := by decide +kernel
theorem dX9_busiestMinute_5 : decode cX9_busiestMinute 5 = .ok (.istore_n 3, 1) := by decide +kernel
theorem dX9_busiestMinute_6 : decode cX9_busiestMinute 6 = .ok (.iload_n 3, 1) := by decide +kernel
theorem dX9_busiestMinute_7 : decode cX9_busiestMinute 7 = .ok (.aload_n 0, 1) := by decide +kernel
theorem dX9_busiestMinute_8 : decode cX9_busiestMinute 8 = .ok (.getfield 35, 3) := by decide +kernel
theorem dX9_busiestMinute_11 : decode cX9_busiestMinute 11 = .ok (.if_icmp .ge 53, 3) := by decide +kernel
theorem dX9_busiestMinute_64 : decode cX9_busiestMinute 64 = .ok (.iload_n 1, 1) := by decide +kernel
theorem dX9_busiestMinute_65 : decode cX9_busiestMinute 65 = .ok (.ireturn, 1) := by decide +kernel
theorem dX9_busiestMinute_14 : decode cX9_busiestMinute 14 = .ok (.aload_n 0, 1) := by decide +kernel
theorem dX9_busiestMinute_15 : decode cX9_busiestMinute 15 = .ok (.aload_n 0, 1) := by decide +kernel
theorem dX9_busiestMinute_16 : decode cX9_busiestMinute 16 = .ok (.getfield 9, 3) := by decide +kernel
theorem dX9_busiestMinute_19 : decode cX9_busiestMinute 19 = .ok (.iload_n 3, 1) := by decide +kernel
theorem dX9_busiestMinute_20 : decode cX9_busiestMinute 20 = .ok (.iaload, 1) := by decide +kernel
theorem tw_1368 : (Jvm.Cond.methodLink "MarshBells$Stair" (83 : Nat) ({ cls := "MarshBells$Stair", name := "peopleIn", desc := "(I)I" } : Jvm.MethodName)) ∈ lw_tbl := tk_6 (List.mem_of_getElem? (i := 168) rfl)
theorem tw_1337 : (Jvm.Cond.code ({ cls := "MarshBells$Stair", name := "peopleIn", desc := "(I)I" } : Jvm.MethodName) prog_11_method_5_code (4 : Nat) (Option.some Jvm.ClassFile.FieldType.int)) ∈ lw_tbl := tk_6 (List.mem_of_getElem? (i := 137) rfl)
theorem tw_1336 : (Jvm.Cond.instanceMethod ({ cls := "MarshBells$Stair", name := "peopleIn", desc := "(I)I" } : Jvm.MethodName)) ∈ lw_tbl := tk_6 (List.mem_of_getElem? (i := 136) rfl)
theorem se_X9_peopleIn : Cond.selects RX9 yX9_peopleIn yX9_peopleIn ∈ lw_tbl := List.mem_append_left _ (List.mem_of_getElem? (i := 98) rfl)
theorem li_X9_83 : kLV RX9 83 RX9 yX9_peopleIn cX9_peopleIn 4 (some .int) 1 := ⟨tw_1368, tw_1336, se_X9_peopleIn, tw_1337, tw_12, by decide +kernel⟩
theorem dX9_busiestMinute_21 : decode cX9_busiestMinute 21 = .ok (.invokevirtual 83, 3) := by decide +kernel
theorem dX9_busiestMinute_24 : decode cX9_busiestMinute 24 = .ok (.istore 4, 2) := by decide +kernel
theorem dX9_busiestMinute_26 : decode cX9_busiestMinute 26 = .ok (.iload 4, 2) := by decide +kernel
theorem dX9_busiestMinute_28 : decode cX9_busiestMinute 28 = .ok (.iload_n 2, 1) := by decide +kernel
theorem dX9_busiestMinute_29 : decode cX9_busiestMinute 29 = .ok (.if_icmp .gt 19, 3) := by decide +kernel
theorem dX9_busiestMinute_32 : decode cX9_busiestMinute 32 = .ok (.iload 4, 2) := by decide +kernel
theorem dX9_busiestMinute_34 : decode cX9_busiestMinute 34 = .ok (.iload_n 2, 1) := by decide +kernel
theorem dX9_busiestMinute_35 : decode cX9_busiestMinute 35 = .ok (.if_icmp .ne 23, 3) := by decide +kernel
theorem dX9_busiestMinute_38 : decode cX9_busiestMinute 38 = .ok (.aload_n 0, 1) := by decide +kernel
theorem dX9_busiestMinute_39 : decode cX9_busiestMinute 39 = .ok (.getfield 9, 3) := by decide +kernel
theorem dX9_busiestMinute_42 : decode cX9_busiestMinute 42 = .ok (.iload_n 3, 1) := by decide +kernel
theorem dX9_busiestMinute_43 : decode cX9_busiestMinute 43 = .ok (.iaload, 1) := by decide +kernel
theorem dX9_busiestMinute_44 : decode cX9_busiestMinute 44 = .ok (.iload_n 1, 1) := by decide +kernel
theorem dX9_busiestMinute_45 : decode cX9_busiestMinute 45 = .ok (.if_icmp .ge 13, 3) := by decide +kernel
theorem dX9_busiestMinute_48 : decode cX9_busiestMinute 48 = .ok (.iload 4, 2) := by decide +kernel
theorem dX9_busiestMinute_50 : decode cX9_busiestMinute 50 = .ok (.istore_n 2, 1) := by decide +kernel
theorem dX9_busiestMinute_51 : decode cX9_busiestMinute 51 = .ok (.aload_n 0, 1) := by decide +kernel
theorem dX9_busiestMinute_52 : decode cX9_busiestMinute 52 = .ok (.getfield 9, 3) := by decide +kernel
theorem dX9_busiestMinute_55 : decode cX9_busiestMinute 55 = .ok (.iload_n 3, 1) := by decide +kernel
theorem dX9_busiestMinute_56 : decode cX9_busiestMinute 56 = .ok (.iaload, 1) := by decide +kernel
theorem dX9_busiestMinute_57 : decode cX9_busiestMinute 57 = .ok (.istore_n 1, 1) := by decide +kernel
theorem dX9_busiestMinute_58 : decode cX9_busiestMinute 58 = .ok (.iinc 3 1, 3) := by decide +kernel
theorem dX9_busiestMinute_61 : decode cX9_busiestMinute 61 = .ok (.goto (-55), 3) := by decide +kernel
set_option maxHeartbeats 4000000 in
set_option maxRecDepth 100000 in
theorem zX0_findUnsure_11 (l : Launch) (G : kG) (sz : Nat) (b : Nat) (a : Nat → Nat) (g0 : Nat → Nat → Int32) (L0 : Nat → Nat → Int64) (hI : zI XT g0) (p1 : Int32) (hp1 : 0 ≤ p1.toInt ∧ p1.toInt ≤ 11) : kM l yX0_findUnsure cX0_findUnsure 4 none { frames := 6, cells := 0, slots := 0, locals := 110 } G [.ref (a 11), .int p1] (zw G (XS b) 105 a g0 L0) sz (kQv G (S := zS) (fun u => zI XT u.1 ∧ u.1 0 = g0 0) (fun u => zw G (XS b) 105 a u.1 u.2)) := by
  refine kM.of (by decide) (Nat.le_of_ble_eq_true rfl) ?_
  intro p e s m below meth c A ls H C hr hlk hnm hP hD hS hl
  have C : kC G p s m c cX0_findUnsure 4 RX0 A := C
  have hx := C.1
  have hb := C.2.1
  have hl : lv_has ls 4 [(0, .ref (a 11)), (1, .int p1)] := hl
  have h0c : g0 0 = g0 0 := rfl
  obtain ⟨locs, hlocs⟩ : ∃ q : List Loc, q = [] := ⟨_, rfl⟩
  rw [← hlocs] at hS
  rw [← hlocs]
  refine lv_aload_n hx hb dX0_findUnsure_0 rfl (lv_at hl 0 rfl) ?_
  refine lv_iconst (v := 0) hx hb dX0_findUnsure_1 (by decide) ?_
  refine x_puti (hI.upd rfl (by decide) (by decide)) (Or.inl fl_X0_27) ft_X0_2 C hP hD hS (by decide) xs_11 rfl rfl rfl dX0_findUnsure_2 (fun g H locs eg hI hP hD hS => ?_)
  have h0c : g 0 = g0 0 := by rw [eg]; exact h0c
  have kf1 : g 11 2 = 0 := by rw [eg]; exact upd2_at
  refine lv_aload_n hx hb dX0_findUnsure_5 rfl (lv_at hl 0 rfl) ?_
  refine lv_iconst (v := 0) hx hb dX0_findUnsure_6 (by decide) ?_
  refine x_puti (hI.updN rfl) (Or.inl fl_X0_48) ft_X0_3 C hP hD hS (by decide) xs_11 rfl rfl rfl dX0_findUnsure_7 (fun g H locs eg hI hP hD hS => ?_)
  have kf1 : g 11 2 = 0 := by rw [eg]; exact kf1
  have h0c : g 0 = g0 0 := by rw [eg]; exact h0c
  refine lv_aload_n hx hb dX0_findUnsure_10 rfl (lv_at hl 0 rfl) ?_
  refine lv_lconst (v := 1) hx hb dX0_findUnsure_11 (by decide) ?_
  refine x_putl (Or.inl fl_X0_51) ft_X0_6 C hP hD hS (by decide) xs_11 rfl dX0_findUnsure_12 (fun L H locs eL hP hD hS => ?_)
  refine lv_iconst (v := 0) hx hb dX0_findUnsure_15 (by decide) ?_
  refine lv_istore_n (lv' := [(2, .int 0), (0, .ref (a 11)), (1, .int p1)]) hx hb dX0_findUnsure_16 rfl hl (by decide) rfl (fun ls hl => ?_)
  have lp605 : ∀ fu : Nat, ∀ (x600 : Int32) (x602 : Int32) (g : Nat → Nat → Int32) (L : Nat → Nat → Int64) (H : Heap) (locs : List Loc) (ls : Array Slot), (0 ≤ x600.toInt ∧ x600.toInt ≤ 12) → (0 ≤ x602.toInt ∧ x602.toInt ≤ 8) → g 11 2 = x602 → zI XT g → g 0 = g0 0 → va_P G.1 vwCl (zw G (XS b) 105 a g L) H → va_D A (zw G (XS b) 105 a g L) → va_S A s.heap H locs → lv_has ls 4 [(0, .ref (a 11)), (1, .int p1), (2, .int x600)] → 12 - x600.toInt < (fu : Int) → W p l e { frames := 6, cells := 0, slots := 0, locals := 110 } s m [.ref (a 11), .int p1].toArray below meth c H locs 0 0 (MQ below ((kQv G (S := zS) (fun u => zI XT u.1 ∧ u.1 0 = g0 0) (fun u => zw G (XS b) 105 a u.1 u.2)) A) [.ref (a 11), .int p1].toArray s 0 0 A) (F0 m 17 ls []) := by
    intro fu
    induction fu with
    | zero => intro x600 x602 g L H locs ls b601 b603 kf604 hI h0c hP hD hS hl hm; exact absurd hm (by omega)
    | succ fu ih =>
      intro x600 x602 g L H locs ls b601 b603 kf604 hI h0c hP hD hS hl hm
      have ih606 := ih
      refine lv_iload_n hx hb dX0_findUnsure_17 rfl (lv_at hl 2 rfl) ?_
      refine lv_iload_n hx hb dX0_findUnsure_18 rfl (lv_at hl 1 rfl) ?_
      refine lv_icmp_gt (x := x600) (y := p1) (tgt := 110) hx hb dX0_findUnsure_19 (by decide) (fun c607 => ?_) (fun c607 => ?_)
      ·
        have c607 := icc_lt (m := p1.toInt) (n := x600.toInt) rfl rfl c607
        exact x_vret C hr hlk hP hD hS (g, L) rfl ⟨hI, h0c⟩ (Nat.le_of_ble_eq_true rfl) (Nat.le_of_ble_eq_true rfl) dX0_findUnsure_110
      ·
        have c607 := icc_nlt (m := p1.toInt) (n := x600.toInt) rfl rfl c607
        refine lv_aload_n hx hb dX0_findUnsure_22 rfl (lv_at hl 0 rfl) ?_
        refine x_getr (Or.inl fl_X0_15) C hP (by decide) xs_11 rfl dX0_findUnsure_23 ?_
        refine x_getr (Or.inr fl_X0_54) C hP (by decide) xs_8 rfl dX0_findUnsure_26 ?_
        refine x_getr (Or.inr fl_X0_58) C hP (by decide) xs_1 rfl dX0_findUnsure_29 ?_
        refine lv_iload_n hx hb dX0_findUnsure_32 rfl (lv_at hl 2 rfl) ?_
        refine x_aaldQ (t := 57) C hP (by decide) xs_17 (by omega) (by omega) dX0_findUnsure_33 (fun q608 q608l q608h => ?_)
        refine x_geti (Or.inr fl_X0_64) C hP (by omega) (xs_les (by omega) (by omega)) rfl dX0_findUnsure_34 (fun x609 e610 => ?_)
        refine lv_istore_n (lv' := [(3, .int x609), (0, .ref (a 11)), (1, .int p1), (2, .int x600)]) hx hb dX0_findUnsure_37 rfl hl (by decide) rfl (fun ls hl => ?_)
        refine lv_iload_n hx hb dX0_findUnsure_38 rfl (lv_at hl 0 rfl) ?_
        have J629 : ∀ (x630 : Int32) (g : Nat → Nat → Int32) (L : Nat → Nat → Int64) (H : Heap) (locs : List Loc) (ls : Array Slot), (0 ≤ x630.toInt ∧ x630.toInt ≤ 8) → g 11 2 = x630 → zI XT g → g 0 = g0 0 → va_P G.1 vwCl (zw G (XS b) 105 a g L) H → va_D A (zw G (XS b) 105 a g L) → va_S A s.heap H locs → lv_has ls 4 [(0, .ref (a 11)), (1, .int p1), (2, .int x600)] → W p l e { frames := 6, cells := 0, slots := 0, locals := 110 } s m [.ref (a 11), .int p1].toArray below meth c H locs 0 0 (MQ below ((kQv G (S := zS) (fun u => zI XT u.1 ∧ u.1 0 = g0 0) (fun u => zw G (XS b) 105 a u.1 u.2)) A) [.ref (a 11), .int p1].toArray s 0 0 A) (F0 m 104 ls []) := by
          intro x630 g L H locs ls b631 kf632 hI h0c hP hD hS hl
          obtain ⟨x633, e634q, e634⟩ : ∃ z : Int32, x600 + Int32.ofInt (1) = z ∧ z.toInt = x600.toInt + (1) := ⟨_, rfl, ic_addc rfl (by decide) (by omega) (by omega)⟩
          refine lv_iinc (v := x633) (lv' := [(2, .int x633), (0, .ref (a 11)), (1, .int p1)]) hx hb dX0_findUnsure_104 hl (k := 2) rfl e634q (by decide) rfl (fun ls hl => ?_)
          refine lv_goto (tgt := 17) hx hb dX0_findUnsure_107 (by decide) ?_
          exact ih606 x633 x630 g L H locs ls (by omega) (by omega) kf632 hI h0c hP hD hS (lv_sub hl [1, 2, 0] rfl) (by omega)
        refine lv_if_ne (x := x609) (tgt := 57) hx hb dX0_findUnsure_39 (by decide) (fun c635 => ?_) (fun c635 => ?_)
        ·
          have c635 := icc_neq (m := x609.toInt) (n := 0) rfl (by decide) c635
          refine lv_iload_n hx hb dX0_findUnsure_57 rfl (lv_at hl 0 rfl) ?_
          refine lv_bipush (v := 10) hx hb dX0_findUnsure_58 (by decide) ?_
          refine lv_icmp_ge (x := x609) (y := 10) (tgt := 104) hx hb dX0_findUnsure_60 (by decide) (fun c636 => ?_) (fun c636 => ?_)
          ·
            have c636 := icc_le (m := 10) (n := x609.toInt) (by decide) rfl c636
            exact J629 x602 g L H locs ls (by omega) kf604 hI h0c hP hD hS (lv_sub hl [1, 2, 3] rfl)
          ·
            have c636 := icc_nle (m := 10) (n := x609.toInt) (by decide) rfl c636
            refine lv_aload_n hx hb dX0_findUnsure_63 rfl (lv_at hl 1 rfl) ?_
            refine x_getv (v := .int x602) (Or.inl fl_X0_27) C hP (by decide) xs_11 (congrArg Value.int kf604) dX0_findUnsure_64 ?_
            refine lv_bipush (v := 8) hx hb dX0_findUnsure_67 (by decide) ?_
            refine lv_icmp_ge (x := x602) (y := 8) (tgt := 104) hx hb dX0_findUnsure_69 (by decide) (fun c637 => ?_) (fun c637 => ?_)
            ·
              have c637 := icc_le (m := 8) (n := x602.toInt) (by decide) rfl c637
              exact J629 x602 g L H locs ls (by omega) kf604 hI h0c hP hD hS (lv_sub hl [1, 2, 3] rfl)
            ·
              have c637 := icc_nle (m := 8) (n := x602.toInt) (by decide) rfl c637
              refine lv_aload_n hx hb dX0_findUnsure_72 rfl (lv_at hl 1 rfl) ?_
              refine x_getr (Or.inl fl_X0_9) C hP (by decide) xs_11 rfl dX0_findUnsure_73 ?_
              refine lv_aload_n hx hb dX0_findUnsure_76 rfl (lv_at hl 1 rfl) ?_
              refine x_getv (v := .int x602) (Or.inl fl_X0_27) C hP (by decide) xs_11 (congrArg Value.int kf604) dX0_findUnsure_77 ?_
              refine lv_iload_n hx hb dX0_findUnsure_80 rfl (lv_at hl 3 rfl) ?_
              refine x_ast (hI.upd rfl (by omega) (by omega)) C hP hD hS (by decide) xs_52 (by omega) (by omega) dX0_findUnsure_81 (fun g H locs eg hI hP hD hS => ?_)
              have kf604 : g 11 2 = x602 := by rw [eg]; exact kf604
              have h0c : g 0 = g0 0 := by rw [eg]; exact h0c
              refine lv_aload_n hx hb dX0_findUnsure_82 rfl (lv_at hl 1 rfl) ?_
              refine lv_dup hx hb dX0_findUnsure_83 rfl ?_
              refine x_getv (v := .int x602) (Or.inl fl_X0_27) C hP (by decide) xs_11 (congrArg Value.int kf604) dX0_findUnsure_84 ?_
              refine lv_iconst (v := 1) hx hb dX0_findUnsure_87 (by decide) ?_
              refine lv_iadd hx hb dX0_findUnsure_88 ?_
              refine x_val (ic_addc (m := x602.toInt) (n := 1) rfl (by decide) (by omega) (by omega)) (fun x638 e639 => ?_)
              refine x_puti (hI.upd rfl (by omega) (by omega)) (Or.inl fl_X0_27) ft_X0_2 C hP hD hS (by decide) xs_11 rfl rfl rfl dX0_findUnsure_89 (fun g H locs eg hI hP hD hS => ?_)
              have h0c : g 0 = g0 0 := by rw [eg]; exact h0c
              have kf640 : g 11 2 = x638 := by rw [eg]; exact upd2_at
              refine lv_aload_n hx hb dX0_findUnsure_92 rfl (lv_at hl 1 rfl) ?_
              refine lv_dup hx hb dX0_findUnsure_93 rfl ?_
              refine x_getl (Or.inl fl_X0_51) C hP (by decide) xs_11 rfl dX0_findUnsure_94 (fun y641 e642 => ?_)
              refine lv_ldc2 (v := 10) hx hb C.2.2.2.1 (C.2.2.2.2.1.w tw_1188 rfl) dX0_findUnsure_97 ?_
              refine lv_lmul hx hb dX0_findUnsure_100 ?_
              refine x_anyL (fun y643 => ?_)
              refine x_putl (Or.inl fl_X0_51) ft_X0_6 C hP hD hS (by decide) xs_11 rfl dX0_findUnsure_101 (fun L H locs eL hP hD hS => ?_)
              exact J629 x638 g L H locs ls (by omega) kf640 hI h0c hP hD hS (lv_sub hl [1, 2, 3] rfl)
        ·
          have c635 := icc_eq (m := x609.toInt) (n := 0) rfl (by decide) c635
          refine lv_aload_n hx hb dX0_findUnsure_42 rfl (lv_at hl 1 rfl) ?_
          refine lv_dup hx hb dX0_findUnsure_43 rfl ?_
          refine x_geti (Or.inl fl_X0_48) C hP (by decide) xs_11 rfl dX0_findUnsure_44 (fun x644 e645 => ?_)
          refine lv_iconst (v := 1) hx hb dX0_findUnsure_47 (by decide) ?_
          refine lv_iload_n hx hb dX0_findUnsure_48 rfl (lv_at hl 3 rfl) ?_
          refine lv_ishl hx hb dX0_findUnsure_49 ?_
          refine x_any (fun x646 => ?_)
          refine lv_ior hx hb dX0_findUnsure_50 ?_
          refine x_any (fun x647 => ?_)
          refine x_puti (hI.updN rfl) (Or.inl fl_X0_48) ft_X0_3 C hP hD hS (by decide) xs_11 rfl rfl rfl dX0_findUnsure_51 (fun g H locs eg hI hP hD hS => ?_)
          have kf604 : g 11 2 = x602 := by rw [eg]; exact kf604
          have h0c : g 0 = g0 0 := by rw [eg]; exact h0c
          refine lv_goto (tgt := 104) hx hb dX0_findUnsure_54 (by decide) ?_
          exact J629 x602 g L H locs ls (by omega) kf604 hI h0c hP hD hS (lv_sub hl [1, 2, 3] rfl)
  have hc_ : (0 : Int32).toInt = 0 := by decide
  exact lp605 14 0 0 g L H locs ls (by decide) (by decide) kf1 hI h0c hP hD hS (lv_sub hl [1, 2, 0] rfl) (by omega)
set_option maxHeartbeats 4000000 in
set_option maxRecDepth 100000 in
theorem zX0_runWith_11 (l : Launch) (G : kG) (sz : Nat) (b : Nat) (a : Nat → Nat) (g0 : Nat → Nat → Int32) (L0 : Nat → Nat → Int64) (hI : zI XT g0) (p1 : Int32) (p2 : Int32) (hp2 : 0 ≤ p2.toInt ∧ p2.toInt ≤ 11) : kM l yX0_runWith cX0_runWith 5 none { frames := 10, cells := 0, slots := 0, locals := 203 } G [.ref (a 11), .int p1, .int p2] (zw G (XS b) 105 a g0 L0) sz (kQv G (S := zS) (fun u => zI XT u.1 ∧ u.1 0 = g0 0) (fun u => zw G (XS b) 105 a u.1 u.2)) := by
  refine kM.of (by decide) (Nat.le_of_ble_eq_true rfl) ?_
  intro p e s m below meth c A ls H C hr hlk hnm hP hD hS hl
  have C : kC G p s m c cX0_runWith 5 RX0 A := C
  have hx := C.1
  have hb := C.2.1
  have hl : lv_has ls 5 [(0, .ref (a 11)), (1, .int p1), (2, .int p2)] := hl
  have h0c : g0 0 = g0 0 := rfl
  obtain ⟨locs, hlocs⟩ : ∃ q : List Loc, q = [] := ⟨_, rfl⟩
  rw [← hlocs] at hS
  rw [← hlocs]
  refine lv_aload_n hx hb dX0_runWith_0 rfl (lv_at hl 0 rfl) ?_
  refine x_geti (Or.inl fl_X0_48) C hP (by decide) xs_11 rfl dX0_runWith_1 (fun x1 e2 => ?_)
  refine lv_iconst (v := -1) hx hb dX0_runWith_4 (by decide) ?_
  refine lv_ixor hx hb dX0_runWith_5 ?_
  refine x_any (fun x3 => ?_)
  refine lv_istore_n (lv' := [(3, .int x3), (0, .ref (a 11)), (1, .int p1), (2, .int p2)]) hx hb dX0_runWith_6 rfl hl (by decide) rfl (fun ls hl => ?_)
  refine lv_iconst (v := 0) hx hb dX0_runWith_7 (by decide) ?_
  refine lv_istore (lv' := [(4, .int 0), (3, .int x3), (0, .ref (a 11)), (1, .int p1), (2, .int p2)]) hx hb dX0_runWith_8 hl (by decide) rfl (fun ls hl => ?_)
  have lp1112 : ∀ fu : Nat, ∀ (x1109 : Int32) (x1110 : Int32) (g : Nat → Nat → Int32) (L : Nat → Nat → Int64) (H : Heap) (locs : List Loc) (ls : Array Slot), (0 ≤ x1110.toInt ∧ x1110.toInt ≤ 8) → zI XT g → g 0 = g0 0 → va_P G.1 vwCl (zw G (XS b) 105 a g L) H → va_D A (zw G (XS b) 105 a g L) → va_S A s.heap H locs → lv_has ls 5 [(0, .ref (a 11)), (1, .int p1), (2, .int p2), (3, .int x1109), (4, .int x1110)] → 8 - x1110.toInt < (fu : Int) → W p l e { frames := 10, cells := 0, slots := 0, locals := 203 } s m [.ref (a 11), .int p1, .int p2].toArray below meth c H locs 0 0 (MQ below ((kQv G (S := zS) (fun u => zI XT u.1 ∧ u.1 0 = g0 0) (fun u => zw G (XS b) 105 a u.1 u.2)) A) [.ref (a 11), .int p1, .int p2].toArray s 0 0 A) (F0 m 10 ls []) := by
    intro fu
    induction fu with
    | zero => intro x1109 x1110 g L H locs ls b1111 hI h0c hP hD hS hl hm; exact absurd hm (by omega)
    | succ fu ih =>
      intro x1109 x1110 g L H locs ls b1111 hI h0c hP hD hS hl hm
      have ih1113 := ih
      refine lv_iload hx hb dX0_runWith_10 (lv_at hl 4 rfl) ?_
      refine lv_aload_n hx hb dX0_runWith_12 rfl (lv_at hl 0 rfl) ?_
      refine x_getT hI rfl (Or.inl fl_X0_27) C hP (by decide) xs_11 rfl dX0_runWith_13 (fun x1114 e1115 b1116 => ?_)
      refine lv_icmp_ge (x := x1110) (y := x1114) (tgt := 48) hx hb dX0_runWith_16 (by decide) (fun c1117 => ?_) (fun c1117 => ?_)
      ·
        have c1117 := icc_le (m := x1114.toInt) (n := x1110.toInt) rfl rfl c1117
        refine lv_aload_n hx hb dX0_runWith_48 rfl (lv_at hl 0 rfl) ?_
        refine x_getr (Or.inl fl_X0_15) C hP (by decide) xs_11 rfl dX0_runWith_49 ?_
        refine lv_iload_n hx hb dX0_runWith_52 rfl (lv_at hl 3 rfl) ?_
        refine x_puti (hI.updN rfl) (Or.inr fl_X0_71) ft_X1_8 C hP hD hS (by decide) xs_8 rfl rfl rfl dX0_runWith_53 (fun g H locs eg hI hP hD hS => ?_)
        have h0c : g 0 = g0 0 := by rw [eg]; exact h0c
        refine lv_iconst (v := 0) hx hb dX0_runWith_56 (by decide) ?_
        refine lv_istore (lv' := [(4, .int 0), (0, .ref (a 11)), (1, .int p1), (2, .int p2), (3, .int x1109)]) hx hb dX0_runWith_57 hl (by decide) rfl (fun ls hl => ?_)
        have lp1216 : ∀ fu : Nat, ∀ (x1214 : Int32) (g : Nat → Nat → Int32) (L : Nat → Nat → Int64) (H : Heap) (locs : List Loc) (ls : Array Slot), (0 ≤ x1214.toInt ∧ x1214.toInt ≤ 12) → zI XT g → g 0 = g0 0 → va_P G.1 vwCl (zw G (XS b) 105 a g L) H → va_D A (zw G (XS b) 105 a g L) → va_S A s.heap H locs → lv_has ls 5 [(0, .ref (a 11)), (2, .int p2), (4, .int x1214)] → 12 - x1214.toInt < (fu : Int) → W p l e { frames := 10, cells := 0, slots := 0, locals := 203 } s m [.ref (a 11), .int p1, .int p2].toArray below meth c H locs 0 0 (MQ below ((kQv G (S := zS) (fun u => zI XT u.1 ∧ u.1 0 = g0 0) (fun u => zw G (XS b) 105 a u.1 u.2)) A) [.ref (a 11), .int p1, .int p2].toArray s 0 0 A) (F0 m 59 ls []) := by
          intro fu
          induction fu with
          | zero => intro x1214 g L H locs ls b1215 hI h0c hP hD hS hl hm; exact absurd hm (by omega)
          | succ fu ih =>
            intro x1214 g L H locs ls b1215 hI h0c hP hD hS hl hm
            have ih1217 := ih
            refine lv_iload hx hb dX0_runWith_59 (lv_at hl 2 rfl) ?_
            refine lv_iload_n hx hb dX0_runWith_61 rfl (lv_at hl 1 rfl) ?_
            refine lv_icmp_gt (x := x1214) (y := p2) (tgt := 80) hx hb dX0_runWith_62 (by decide) (fun c1218 => ?_) (fun c1218 => ?_)
            ·
              have c1218 := icc_lt (m := p2.toInt) (n := x1214.toInt) rfl rfl c1218
              refine lv_aload_n hx hb dX0_runWith_80 rfl (lv_at hl 0 rfl) ?_
              refine x_getr (Or.inl fl_X0_15) C hP (by decide) xs_11 rfl dX0_runWith_81 ?_
              refine lv_iconst (v := -1) hx hb dX0_runWith_84 (by decide) ?_
              refine x_puti (hI.updN rfl) (Or.inr fl_X0_71) ft_X1_8 C hP hD hS (by decide) xs_8 rfl rfl rfl dX0_runWith_85 (fun g H locs eg hI hP hD hS => ?_)
              have h0c : g 0 = g0 0 := by rw [eg]; exact h0c
              exact x_vret C hr hlk hP hD hS (g, L) rfl ⟨hI, h0c⟩ (Nat.le_of_ble_eq_true rfl) (Nat.le_of_ble_eq_true rfl) dX0_runWith_88
            ·
              have c1218 := icc_nlt (m := p2.toInt) (n := x1214.toInt) rfl rfl c1218
              refine lv_aload_n hx hb dX0_runWith_65 rfl (lv_at hl 0 rfl) ?_
              refine x_getr (Or.inl fl_X0_15) C hP (by decide) xs_11 rfl dX0_runWith_66 ?_
              refine lv_iload hx hb dX0_runWith_69 (lv_at hl 2 rfl) ?_
              refine x_callNv (rest := []) li_X0_74 C (zX1_runOne_8 l G H.size b a g L hI x1214 (by omega)) (kR rfl) hP hD hS 8 1 rfl (zat (by decide) xs_8) rfl hl.1 rfl (Nat.le_of_ble_eq_true rfl) dX0_runWith_71 (fun u1221 H locs hw1219 hP hD hS => ?_)
              obtain ⟨g, L⟩ := u1221
              obtain ⟨hI, h0n⟩ := hw1219
              have h0c : g 0 = g0 0 := h0n.trans h0c
              have hI : zI XT g := hI
              have hP : va_P G.1 vwCl (zw G (XS b) 105 a g L) H := hP
              have hD : va_D A (zw G (XS b) 105 a g L) := hD
              obtain ⟨x1224, e1225q, e1225⟩ : ∃ z : Int32, x1214 + Int32.ofInt (1) = z ∧ z.toInt = x1214.toInt + (1) := ⟨_, rfl, ic_addc rfl (by decide) (by omega) (by omega)⟩
              refine lv_iinc (v := x1224) (lv' := [(4, .int x1224), (0, .ref (a 11)), (2, .int p2)]) hx hb dX0_runWith_74 hl (k := 2) rfl e1225q (by decide) rfl (fun ls hl => ?_)
              refine lv_goto (tgt := 59) hx hb dX0_runWith_77 (by decide) ?_
              exact ih1217 x1224 g L H locs ls (by omega) hI h0c hP hD hS (lv_sub hl [1, 2, 0] rfl) (by omega)
        have hc_ : (0 : Int32).toInt = 0 := by decide
        exact lp1216 14 0 g L H locs ls (by decide) hI h0c hP hD hS (lv_sub hl [1, 3, 0] rfl) (by omega)
      ·
        have c1117 := icc_nle (m := x1114.toInt) (n := x1110.toInt) rfl rfl c1117
        refine lv_iload_n hx hb dX0_runWith_19 rfl (lv_at hl 1 rfl) ?_
        refine lv_iload hx hb dX0_runWith_20 (lv_at hl 4 rfl) ?_
        refine lv_ishr hx hb dX0_runWith_22 ?_
        refine x_any (fun x1226 => ?_)
        refine lv_iconst (v := 1) hx hb dX0_runWith_23 (by decide) ?_
        refine lv_iand hx hb dX0_runWith_24 ?_
        refine x_rng (lo := 0) (hi := 1) (ic_and1 _) (fun x1227 b1228 => ?_)
        have J1239 : ∀ (x1240 : Int32) (g : Nat → Nat → Int32) (L : Nat → Nat → Int64) (H : Heap) (locs : List Loc) (ls : Array Slot), zI XT g → g 0 = g0 0 → va_P G.1 vwCl (zw G (XS b) 105 a g L) H → va_D A (zw G (XS b) 105 a g L) → va_S A s.heap H locs → lv_has ls 5 [(0, .ref (a 11)), (1, .int p1), (2, .int p2), (3, .int x1240), (4, .int x1110)] → W p l e { frames := 10, cells := 0, slots := 0, locals := 203 } s m [.ref (a 11), .int p1, .int p2].toArray below meth c H locs 0 0 (MQ below ((kQv G (S := zS) (fun u => zI XT u.1 ∧ u.1 0 = g0 0) (fun u => zw G (XS b) 105 a u.1 u.2)) A) [.ref (a 11), .int p1, .int p2].toArray s 0 0 A) (F0 m 42 ls []) := by
          intro x1240 g L H locs ls hI h0c hP hD hS hl
          obtain ⟨x1241, e1242q, e1242⟩ : ∃ z : Int32, x1110 + Int32.ofInt (1) = z ∧ z.toInt = x1110.toInt + (1) := ⟨_, rfl, ic_addc rfl (by decide) (by omega) (by omega)⟩
          refine lv_iinc (v := x1241) (lv' := [(4, .int x1241), (0, .ref (a 11)), (1, .int p1), (2, .int p2), (3, .int x1240)]) hx hb dX0_runWith_42 hl (k := 4) rfl e1242q (by decide) rfl (fun ls hl => ?_)
          refine lv_goto (tgt := 10) hx hb dX0_runWith_45 (by decide) ?_
          exact ih1113 x1240 x1241 g L H locs ls (by omega) hI h0c hP hD hS (lv_sub hl [1, 2, 3, 4, 0] rfl) (by omega)
        refine lv_if_ne (x := x1227) (tgt := 42) hx hb dX0_runWith_25 (by decide) (fun c1243 => ?_) (fun c1243 => ?_)
        ·
          have c1243 := icc_neq (m := x1227.toInt) (n := 0) rfl (by decide) c1243
          exact J1239 x1109 g L H locs ls hI h0c hP hD hS (lv_sub hl [0, 1, 2, 3, 4] rfl)
        ·
          have c1243 := icc_eq (m := x1227.toInt) (n := 0) rfl (by decide) c1243
          refine lv_iload_n hx hb dX0_runWith_28 rfl (lv_at hl 3 rfl) ?_
          refine lv_iconst (v := 1) hx hb dX0_runWith_29 (by decide) ?_
          refine lv_aload_n hx hb dX0_runWith_30 rfl (lv_at hl 0 rfl) ?_
          refine x_getr (Or.inl fl_X0_9) C hP (by decide) xs_11 rfl dX0_runWith_31 ?_
          refine lv_iload hx hb dX0_runWith_34 (lv_at hl 4 rfl) ?_
          refine x_aldT hI rfl C hP (by decide) xs_52 (by omega) (by omega) dX0_runWith_36 (fun x1244 e1245 b1246 => ?_)
          refine lv_ishl hx hb dX0_runWith_37 ?_
          refine x_any (fun x1247 => ?_)
          refine lv_iconst (v := -1) hx hb dX0_runWith_38 (by decide) ?_
          refine lv_ixor hx hb dX0_runWith_39 ?_
          refine x_any (fun x1248 => ?_)
          refine lv_iand hx hb dX0_runWith_40 ?_
          refine x_any (fun x1249 => ?_)
          refine lv_istore_n (lv' := [(3, .int x1249), (0, .ref (a 11)), (1, .int p1), (2, .int p2), (4, .int x1110)]) hx hb dX0_runWith_41 rfl hl (by decide) rfl (fun ls hl => ?_)
          exact J1239 x1249 g L H locs ls hI h0c hP hD hS (lv_sub hl [1, 2, 3, 0, 4] rfl)
  have hc_ : (0 : Int32).toInt = 0 := by decide
  exact lp1112 10 x3 0 g0 L0 H locs ls (by decide) hI h0c hP hD hS (lv_sub hl [2, 3, 4, 1, 0] rfl) (by omega)
set_option maxHeartbeats 4000000 in
set_option maxRecDepth 100000 in
theorem zX0_weight_11 (l : Launch) (G : kG) (sz : Nat) (b : Nat) (a : Nat → Nat) (g0 : Nat → Nat → Int32) (L0 : Nat → Nat → Int64) (hI : zI XT g0) (p1 : Int32) : kM l yX0_weight cX0_weight 6 (some .long) { frames := 6, cells := 0, slots := 0, locals := 110 } G [.ref (a 11), .int p1] (zw G (XS b) 105 a g0 L0) sz (kQl G (S := zS) (fun (r : Int64) u => zI XT u.1 ∧ u.1 0 = g0 0) (fun u => zw G (XS b) 105 a u.1 u.2)) := by
  refine kM.of (by decide) (Nat.le_of_ble_eq_true rfl) ?_
  intro p e s m below meth c A ls H C hr hlk hnm hP hD hS hl
  have C : kC G p s m c cX0_weight 6 RX0 A := C
  have hx := C.1
  have hb := C.2.1
  have hl : lv_has ls 6 [(0, .ref (a 11)), (1, .int p1)] := hl
  have h0c : g0 0 = g0 0 := rfl
  obtain ⟨locs, hlocs⟩ : ∃ q : List Loc, q = [] := ⟨_, rfl⟩
  rw [← hlocs] at hS
  rw [← hlocs]
  refine lv_lconst (v := 1) hx hb dX0_weight_0 (by decide) ?_
  refine lv_lstore_n (lv' := [(2, .long 1), (0, .ref (a 11)), (1, .int p1)]) hx hb dX0_weight_1 rfl hl (by decide) rfl (fun ls hl => ?_)
  refine lv_iconst (v := 0) hx hb dX0_weight_2 (by decide) ?_
  refine lv_istore (lv' := [(4, .int 0), (2, .long 1), (0, .ref (a 11)), (1, .int p1)]) hx hb dX0_weight_3 hl (by decide) rfl (fun ls hl => ?_)
  have lp261 : ∀ fu : Nat, ∀ (y258 : Int64) (x259 : Int32) (g : Nat → Nat → Int32) (L : Nat → Nat → Int64) (H : Heap) (locs : List Loc) (ls : Array Slot), (0 ≤ x259.toInt ∧ x259.toInt ≤ 8) → zI XT g → g 0 = g0 0 → va_P G.1 vwCl (zw G (XS b) 105 a g L) H → va_D A (zw G (XS b) 105 a g L) → va_S A s.heap H locs → lv_has ls 6 [(0, .ref (a 11)), (1, .int p1), (2, .long y258), (4, .int x259)] → 8 - x259.toInt < (fu : Int) → W p l e { frames := 6, cells := 0, slots := 0, locals := 110 } s m [.ref (a 11), .int p1].toArray below meth c H locs 0 0 (MQ below ((kQl G (S := zS) (fun (r : Int64) u => zI XT u.1 ∧ u.1 0 = g0 0) (fun u => zw G (XS b) 105 a u.1 u.2)) A) [.ref (a 11), .int p1].toArray s 0 0 A) (F0 m 5 ls []) := by
    intro fu
    induction fu with
    | zero => intro y258 x259 g L H locs ls b260 hI h0c hP hD hS hl hm; exact absurd hm (by omega)
    | succ fu ih =>
      intro y258 x259 g L H locs ls b260 hI h0c hP hD hS hl hm
      have ih262 := ih
      refine lv_iload hx hb dX0_weight_5 (lv_at hl 3 rfl) ?_
      refine lv_aload_n hx hb dX0_weight_7 rfl (lv_at hl 0 rfl) ?_
      refine x_getT hI rfl (Or.inl fl_X0_27) C hP (by decide) xs_11 rfl dX0_weight_8 (fun x263 e264 b265 => ?_)
      refine lv_icmp_ge (x := x259) (y := x263) (tgt := 67) hx hb dX0_weight_11 (by decide) (fun c266 => ?_) (fun c266 => ?_)
      ·
        have c266 := icc_le (m := x263.toInt) (n := x259.toInt) rfl rfl c266
        refine lv_lload_n hx hb dX0_weight_67 rfl (lv_at hl 2 rfl) ?_
        exact x_lret C hr hlk hP hD hS (g, L) rfl ⟨hI, h0c⟩ (Nat.le_of_ble_eq_true rfl) (Nat.le_of_ble_eq_true rfl) dX0_weight_68
      ·
        have c266 := icc_nle (m := x263.toInt) (n := x259.toInt) rfl rfl c266
        refine lv_aload_n hx hb dX0_weight_14 rfl (lv_at hl 0 rfl) ?_
        refine x_getr (Or.inl fl_X0_15) C hP (by decide) xs_11 rfl dX0_weight_15 ?_
        refine x_getr (Or.inr fl_X0_54) C hP (by decide) xs_8 rfl dX0_weight_18 ?_
        refine x_getr (Or.inr fl_X0_58) C hP (by decide) xs_1 rfl dX0_weight_21 ?_
        refine lv_aload_n hx hb dX0_weight_24 rfl (lv_at hl 0 rfl) ?_
        refine x_getr (Or.inl fl_X0_9) C hP (by decide) xs_11 rfl dX0_weight_25 ?_
        refine lv_iload hx hb dX0_weight_28 (lv_at hl 3 rfl) ?_
        refine x_aldT hI rfl C hP (by decide) xs_52 (by omega) (by omega) dX0_weight_30 (fun x267 e268 b269 => ?_)
        refine x_aaldQ (t := 57) C hP (by decide) xs_17 (by omega) (by omega) dX0_weight_31 (fun q270 q270l q270h => ?_)
        refine x_geti (Or.inr fl_X0_64) C hP (by omega) (xs_les (by omega) (by omega)) rfl dX0_weight_32 (fun x271 e272 => ?_)
        refine lv_istore (lv' := [(5, .int x271), (0, .ref (a 11)), (1, .int p1), (2, .long y258), (4, .int x259)]) hx hb dX0_weight_35 hl (by decide) rfl (fun ls hl => ?_)
        refine lv_lload_n hx hb dX0_weight_37 rfl (lv_at hl 3 rfl) ?_
        refine lv_iload_n hx hb dX0_weight_38 rfl (lv_at hl 2 rfl) ?_
        refine lv_iload hx hb dX0_weight_39 (lv_at hl 4 rfl) ?_
        refine lv_ishr hx hb dX0_weight_41 ?_
        refine x_any (fun x273 => ?_)
        refine lv_iconst (v := 1) hx hb dX0_weight_42 (by decide) ?_
        refine lv_iand hx hb dX0_weight_43 ?_
        refine x_rng (lo := 0) (hi := 1) (ic_and1 _) (fun x274 b275 => ?_)
        have J284 : ∀ (y285 : Int64) (g : Nat → Nat → Int32) (L : Nat → Nat → Int64) (H : Heap) (locs : List Loc) (ls : Array Slot), zI XT g → g 0 = g0 0 → va_P G.1 vwCl (zw G (XS b) 105 a g L) H → va_D A (zw G (XS b) 105 a g L) → va_S A s.heap H locs → lv_has ls 6 [(0, .ref (a 11)), (1, .int p1), (4, .int x259)] → W p l e { frames := 6, cells := 0, slots := 0, locals := 110 } s m [.ref (a 11), .int p1].toArray below meth c H locs 0 0 (MQ below ((kQl G (S := zS) (fun (r : Int64) u => zI XT u.1 ∧ u.1 0 = g0 0) (fun u => zw G (XS b) 105 a u.1 u.2)) A) [.ref (a 11), .int p1].toArray s 0 0 A) (F0 m 59 ls [.long y285, .long y258]) := by
          intro y285 g L H locs ls hI h0c hP hD hS hl
          refine lv_lmul hx hb dX0_weight_59 ?_
          refine x_anyL (fun y286 => ?_)
          refine lv_lstore_n (lv' := [(2, .long y286), (0, .ref (a 11)), (1, .int p1), (4, .int x259)]) hx hb dX0_weight_60 rfl hl (by decide) rfl (fun ls hl => ?_)
          obtain ⟨x287, e288q, e288⟩ : ∃ z : Int32, x259 + Int32.ofInt (1) = z ∧ z.toInt = x259.toInt + (1) := ⟨_, rfl, ic_addc rfl (by decide) (by omega) (by omega)⟩
          refine lv_iinc (v := x287) (lv' := [(4, .int x287), (2, .long y286), (0, .ref (a 11)), (1, .int p1)]) hx hb dX0_weight_61 hl (k := 3) rfl e288q (by decide) rfl (fun ls hl => ?_)
          refine lv_goto (tgt := 5) hx hb dX0_weight_64 (by decide) ?_
          exact ih262 y286 x287 g L H locs ls (by omega) hI h0c hP hD hS (lv_sub hl [2, 3, 1, 0] rfl) (by omega)
        refine lv_if_eq (x := x274) (tgt := 53) hx hb dX0_weight_44 (by decide) (fun c289 => ?_) (fun c289 => ?_)
        ·
          have c289 := icc_eq (m := x274.toInt) (n := 0) rfl (by decide) c289
          refine lv_bipush (v := 10) hx hb dX0_weight_53 (by decide) ?_
          refine lv_iload hx hb dX0_weight_55 (lv_at hl 0 rfl) ?_
          refine lv_isub hx hb dX0_weight_57 ?_
          refine x_any (fun x290 => ?_)
          refine lv_i2l hx hb dX0_weight_58 rfl ?_
          refine x_anyL (fun y291 => ?_)
          exact J284 y291 g L H locs ls hI h0c hP hD hS (lv_sub hl [1, 2, 4] rfl)
        ·
          have c289 := icc_neq (m := x274.toInt) (n := 0) rfl (by decide) c289
          refine lv_iload hx hb dX0_weight_47 (lv_at hl 0 rfl) ?_
          refine lv_i2l hx hb dX0_weight_49 rfl ?_
          refine x_anyL (fun y292 => ?_)
          refine lv_goto (tgt := 59) hx hb dX0_weight_50 (by decide) ?_
          exact J284 y292 g L H locs ls hI h0c hP hD hS (lv_sub hl [1, 2, 4] rfl)
  have hc_ : (0 : Int32).toInt = 0 := by decide
  have hc_ : (1 : Int32).toInt = 1 := by decide
  exact lp261 10 1 0 g0 L0 H locs ls (by decide) hI h0c hP hD hS (lv_sub hl [2, 3, 1, 0] rfl) (by omega)
set_option maxHeartbeats 4000000 in
set_option maxRecDepth 100000 in
theorem zX0_reduce_11 (l : Launch) (G : kG) (sz : Nat) (b : Nat) (a : Nat → Nat) (g0 : Nat → Nat → Int32) (L0 : Nat → Nat → Int64) (hI : zI XT g0) : kM l yX0_reduce cX0_reduce 8 none { frames := 6, cells := 0, slots := 0, locals := 110 } G [.ref (a 11)] (zw G (XS b) 105 a g0 L0) sz (kQv G (S := zS) (fun u => zI XT u.1 ∧ u.1 0 = g0 0) (fun u => zw G (XS b) 105 a u.1 u.2)) := by
  refine kM.of (by decide) (Nat.le_of_ble_eq_true rfl) ?_
  intro p e s m below meth c A ls H C hr hlk hnm hP hD hS hl
  have C : kC G p s m c cX0_reduce 8 RX0 A := C
  have hx := C.1
  have hb := C.2.1
  have hl : lv_has ls 8 [(0, .ref (a 11))] := hl
  have h0c : g0 0 = g0 0 := rfl
  obtain ⟨locs, hlocs⟩ : ∃ q : List Loc, q = [] := ⟨_, rfl⟩
  rw [← hlocs] at hS
  rw [← hlocs]
  refine lv_aload_n hx hb dX0_reduce_0 rfl (lv_at hl 0 rfl) ?_
  refine x_getl (Or.inl fl_X0_51) C hP (by decide) xs_11 rfl dX0_reduce_1 (fun y1 e2 => ?_)
  refine lv_lstore_n (lv' := [(1, .long y1), (0, .ref (a 11))]) hx hb dX0_reduce_4 rfl hl (by decide) rfl (fun ls hl => ?_)
  refine lv_aload_n hx hb dX0_reduce_5 rfl (lv_at hl 1 rfl) ?_
  refine x_getl (Or.inl fl_X0_23) C hP (by decide) xs_11 rfl dX0_reduce_6 (fun y3 e4 => ?_)
  refine lv_lstore_n (lv' := [(3, .long y3), (1, .long y1), (0, .ref (a 11))]) hx hb dX0_reduce_9 rfl hl (by decide) rfl (fun ls hl => ?_)
  refine lv_iconst (v := 0) hx hb dX0_reduce_10 (by decide) ?_
  refine lv_istore (lv' := [(5, .int 0), (3, .long y3), (1, .long y1), (0, .ref (a 11))]) hx hb dX0_reduce_11 hl (by decide) rfl (fun ls hl => ?_)
  have lp899 : ∀ fu : Nat, ∀ (y895 : Int64) (y896 : Int64) (x897 : Int32) (g : Nat → Nat → Int32) (L : Nat → Nat → Int64) (H : Heap) (locs : List Loc) (ls : Array Slot), (0 ≤ x897.toInt ∧ x897.toInt ≤ 200) → zI XT g → g 0 = g0 0 → va_P G.1 vwCl (zw G (XS b) 105 a g L) H → va_D A (zw G (XS b) 105 a g L) → va_S A s.heap H locs → lv_has ls 8 [(0, .ref (a 11)), (1, .long y895), (3, .long y896), (5, .int x897)] → 200 - x897.toInt < (fu : Int) → W p l e { frames := 6, cells := 0, slots := 0, locals := 110 } s m [.ref (a 11)].toArray below meth c H locs 0 0 (MQ below ((kQv G (S := zS) (fun u => zI XT u.1 ∧ u.1 0 = g0 0) (fun u => zw G (XS b) 105 a u.1 u.2)) A) [.ref (a 11)].toArray s 0 0 A) (F0 m 13 ls []) := by
    intro fu
    induction fu with
    | zero => intro y895 y896 x897 g L H locs ls b898 hI h0c hP hD hS hl hm; exact absurd hm (by omega)
    | succ fu ih =>
      intro y895 y896 x897 g L H locs ls b898 hI h0c hP hD hS hl hm
      have ih900 := ih
      refine lv_iload hx hb dX0_reduce_13 (lv_at hl 3 rfl) ?_
      refine lv_sipush (v := 200) hx hb dX0_reduce_15 (by decide) ?_
      have J931 : ∀ (g : Nat → Nat → Int32) (L : Nat → Nat → Int64) (H : Heap) (locs : List Loc) (ls : Array Slot), zI XT g → g 0 = g0 0 → va_P G.1 vwCl (zw G (XS b) 105 a g L) H → va_D A (zw G (XS b) 105 a g L) → va_S A s.heap H locs → lv_has ls 8 [(0, .ref (a 11)), (1, .long y895)] → W p l e { frames := 6, cells := 0, slots := 0, locals := 110 } s m [.ref (a 11)].toArray below meth c H locs 0 0 (MQ below ((kQv G (S := zS) (fun u => zI XT u.1 ∧ u.1 0 = g0 0) (fun u => zw G (XS b) 105 a u.1 u.2)) A) [.ref (a 11)].toArray s 0 0 A) (F0 m 43 ls []) := by
        intro g L H locs ls hI h0c hP hD hS hl
        refine lv_lload_n hx hb dX0_reduce_43 rfl (lv_at hl 1 rfl) ?_
        refine lv_lconst (v := 1) hx hb dX0_reduce_44 (by decide) ?_
        refine W.lcmp hx hb dX0_reduce_45 ?_
        refine x_gen (fun x932 e933 => ?_)
        have J943 : ∀ (g : Nat → Nat → Int32) (L : Nat → Nat → Int64) (H : Heap) (locs : List Loc) (ls : Array Slot), zI XT g → g 0 = g0 0 → va_P G.1 vwCl (zw G (XS b) 105 a g L) H → va_D A (zw G (XS b) 105 a g L) → va_S A s.heap H locs → lv_has ls 8 [] → W p l e { frames := 6, cells := 0, slots := 0, locals := 110 } s m [.ref (a 11)].toArray below meth c H locs 0 0 (MQ below ((kQv G (S := zS) (fun u => zI XT u.1 ∧ u.1 0 = g0 0) (fun u => zw G (XS b) 105 a u.1 u.2)) A) [.ref (a 11)].toArray s 0 0 A) (F0 m 69 ls []) := by
          intro g L H locs ls hI h0c hP hD hS hl
          exact x_vret C hr hlk hP hD hS (g, L) rfl ⟨hI, h0c⟩ (Nat.le_of_ble_eq_true rfl) (Nat.le_of_ble_eq_true rfl) dX0_reduce_69
        refine lv_if_le (x := x932) (tgt := 69) hx hb dX0_reduce_46 (by decide) (fun c944 => ?_) (fun c944 => ?_)
        ·
          have c944 := icc_le (m := x932.toInt) (n := 0) rfl (by decide) c944
          exact J943 g L H locs ls hI h0c hP hD hS (lv_sub hl [] rfl)
        ·
          have c944 := icc_nle (m := x932.toInt) (n := 0) rfl (by decide) c944
          have nz946 : ¬ y895 = 0 := fun q => absurd c944 (by rw [← e933, q]; decide)
          refine lv_aload_n hx hb dX0_reduce_49 rfl (lv_at hl 0 rfl) ?_
          refine lv_dup hx hb dX0_reduce_50 rfl ?_
          refine x_getl (Or.inl fl_X0_23) C hP (by decide) xs_11 rfl dX0_reduce_51 (fun y947 e948 => ?_)
          refine lv_lload_n hx hb dX0_reduce_54 rfl (lv_at hl 1 rfl) ?_
          refine lv_ldiv hx hb dX0_reduce_55 (by assumption) ?_
          refine x_anyL (fun y949 => ?_)
          refine x_putl (Or.inl fl_X0_23) ft_X0_5 C hP hD hS (by decide) xs_11 rfl dX0_reduce_56 (fun L H locs eL hP hD hS => ?_)
          refine lv_aload_n hx hb dX0_reduce_59 rfl (lv_at hl 0 rfl) ?_
          refine lv_dup hx hb dX0_reduce_60 rfl ?_
          refine x_getl (Or.inl fl_X0_51) C hP (by decide) xs_11 rfl dX0_reduce_61 (fun y950 e951 => ?_)
          refine lv_lload_n hx hb dX0_reduce_64 rfl (lv_at hl 1 rfl) ?_
          refine lv_ldiv hx hb dX0_reduce_65 (by assumption) ?_
          refine x_anyL (fun y952 => ?_)
          refine x_putl (Or.inl fl_X0_51) ft_X0_6 C hP hD hS (by decide) xs_11 rfl dX0_reduce_66 (fun L H locs eL hP hD hS => ?_)
          exact J943 g L H locs ls hI h0c hP hD hS (lv_sub hl [] rfl)
      refine lv_icmp_ge (x := x897) (y := 200) (tgt := 43) hx hb dX0_reduce_18 (by decide) (fun c953 => ?_) (fun c953 => ?_)
      ·
        have c953 := icc_le (m := 200) (n := x897.toInt) (by decide) rfl c953
        exact J931 g L H locs ls hI h0c hP hD hS (lv_sub hl [0, 1] rfl)
      ·
        have c953 := icc_nle (m := 200) (n := x897.toInt) (by decide) rfl c953
        refine lv_lload_n hx hb dX0_reduce_21 rfl (lv_at hl 2 rfl) ?_
        refine lv_lconst (v := 0) hx hb dX0_reduce_22 (by decide) ?_
        refine W.lcmp hx hb dX0_reduce_23 ?_
        refine x_gen (fun x954 e955 => ?_)
        refine lv_if_eq (x := x954) (tgt := 43) hx hb dX0_reduce_24 (by decide) (fun c956 => ?_) (fun c956 => ?_)
        ·
          have c956 := icc_eq (m := x954.toInt) (n := 0) rfl (by decide) c956
          exact J931 g L H locs ls hI h0c hP hD hS (lv_sub hl [0, 1] rfl)
        ·
          have c956 := icc_neq (m := x954.toInt) (n := 0) rfl (by decide) c956
          have nz958 : ¬ y896 = 0 := fun q => c956 (by rw [← e955, q, k_lcmp]; decide)
          refine lv_lload_n hx hb dX0_reduce_27 rfl (lv_at hl 1 rfl) ?_
          refine lv_lload_n hx hb dX0_reduce_28 rfl (lv_at hl 2 rfl) ?_
          refine lv_lrem hx hb dX0_reduce_29 (by assumption) ?_
          refine x_anyL (fun y959 => ?_)
          refine lv_lstore (lv' := [(6, .long y959), (0, .ref (a 11)), (1, .long y895), (3, .long y896), (5, .int x897)]) hx hb dX0_reduce_30 hl (by decide) rfl (fun ls hl => ?_)
          refine lv_lload_n hx hb dX0_reduce_32 rfl (lv_at hl 3 rfl) ?_
          refine lv_lstore_n (lv' := [(1, .long y896), (6, .long y959), (0, .ref (a 11)), (3, .long y896), (5, .int x897)]) hx hb dX0_reduce_33 rfl hl (by decide) rfl (fun ls hl => ?_)
          refine lv_lload hx hb dX0_reduce_34 (lv_at hl 1 rfl) ?_
          refine lv_lstore_n (lv' := [(3, .long y959), (1, .long y896), (6, .long y959), (0, .ref (a 11)), (5, .int x897)]) hx hb dX0_reduce_36 rfl hl (by decide) rfl (fun ls hl => ?_)
          obtain ⟨x960, e961q, e961⟩ : ∃ z : Int32, x897 + Int32.ofInt (1) = z ∧ z.toInt = x897.toInt + (1) := ⟨_, rfl, ic_addc rfl (by decide) (by omega) (by omega)⟩
          refine lv_iinc (v := x960) (lv' := [(5, .int x960), (3, .long y959), (1, .long y896), (6, .long y959), (0, .ref (a 11))]) hx hb dX0_reduce_37 hl (k := 4) rfl e961q (by decide) rfl (fun ls hl => ?_)
          refine lv_goto (tgt := 13) hx hb dX0_reduce_40 (by decide) ?_
          exact ih900 y896 y959 x960 g L H locs ls (by omega) hI h0c hP hD hS (lv_sub hl [4, 2, 1, 0] rfl) (by omega)
  have hc_ : (0 : Int32).toInt = 0 := by decide
  exact lp899 202 y1 y3 0 g0 L0 H locs ls (by decide) hI h0c hP hD hS (lv_sub hl [3, 2, 1, 0] rfl) (by omega)
set_option maxHeartbeats 4000000 in
set_option maxRecDepth 100000 in
theorem zX0_ofLate_11 (l : Launch) (G : kG) (sz : Nat) (b : Nat) (a : Nat → Nat) (g0 : Nat → Nat → Int32) (L0 : Nat → Nat → Int64) (hI : zI XT g0) (p1 : Int32) (p2 : Int32) (hp1 : 0 ≤ p1.toInt ∧ p1.toInt ≤ 11) : kM l yX0_ofLate cX0_ofLate 4 none { frames := 11, cells := 0, slots := 0, locals := 227 } G [.ref (a 11), .int p1, .int p2] (zw G (XS b) 105 a g0 L0) sz (kQv G (S := zS) (fun u => zI XT u.1 ∧ u.1 0 = g0 0) (fun u => zw G (XS b) 105 a u.1 u.2)) := by
  refine kM.of (by decide) (Nat.le_of_ble_eq_true rfl) ?_
  intro p e s m below meth c A ls H C hr hlk hnm hP hD hS hl
  have C : kC G p s m c cX0_ofLate 4 RX0 A := C
  have hx := C.1
  have hb := C.2.1
  have hl : lv_has ls 4 [(0, .ref (a 11)), (1, .int p1), (2, .int p2)] := hl
  have h0c : g0 0 = g0 0 := rfl
  obtain ⟨locs, hlocs⟩ : ∃ q : List Loc, q = [] := ⟨_, rfl⟩
  rw [← hlocs] at hS
  rw [← hlocs]
  refine lv_aload_n hx hb dX0_ofLate_0 rfl (lv_at hl 0 rfl) ?_
  refine lv_iload_n hx hb dX0_ofLate_1 rfl (lv_at hl 1 rfl) ?_
  refine x_callVv (rest := []) li_X0_19 C (zX0_findUnsure_11 l G H.size b a g0 L0 hI p1 (by omega)) (kR rfl) hP hD hS 11 0 rfl (zat (by decide) xs_11) rfl hl.1 rfl (Nat.le_of_ble_eq_true rfl) dX0_ofLate_2 (fun u3 H locs hw1 hP hD hS => ?_)
  obtain ⟨g, L⟩ := u3
  obtain ⟨hI, h0n⟩ := hw1
  have h0c : g 0 = g0 0 := h0n.trans h0c
  have hI : zI XT g := hI
  have hP : va_P G.1 vwCl (zw G (XS b) 105 a g L) H := hP
  have hD : va_D A (zw G (XS b) 105 a g L) := hD
  refine lv_aload_n hx hb dX0_ofLate_5 rfl (lv_at hl 0 rfl) ?_
  refine lv_lconst (v := 0) hx hb dX0_ofLate_6 (by decide) ?_
  refine x_putl (Or.inl fl_X0_23) ft_X0_5 C hP hD hS (by decide) xs_11 rfl dX0_ofLate_7 (fun L H locs eL hP hD hS => ?_)
  refine lv_iconst (v := 0) hx hb dX0_ofLate_10 (by decide) ?_
  refine lv_istore_n (lv' := [(3, .int 0), (0, .ref (a 11)), (1, .int p1), (2, .int p2)]) hx hb dX0_ofLate_11 rfl hl (by decide) rfl (fun ls hl => ?_)
  have lp641 : ∀ fu : Nat, ∀ (x639 : Int32) (g : Nat → Nat → Int32) (L : Nat → Nat → Int64) (H : Heap) (locs : List Loc) (ls : Array Slot), (0 ≤ x639.toInt ∧ x639.toInt ≤ 256) → zI XT g → g 0 = g0 0 → va_P G.1 vwCl (zw G (XS b) 105 a g L) H → va_D A (zw G (XS b) 105 a g L) → va_S A s.heap H locs → lv_has ls 4 [(0, .ref (a 11)), (1, .int p1), (2, .int p2), (3, .int x639)] → 256 - x639.toInt < (fu : Int) → W p l e { frames := 11, cells := 0, slots := 0, locals := 227 } s m [.ref (a 11), .int p1, .int p2].toArray below meth c H locs 0 0 (MQ below ((kQv G (S := zS) (fun u => zI XT u.1 ∧ u.1 0 = g0 0) (fun u => zw G (XS b) 105 a u.1 u.2)) A) [.ref (a 11), .int p1, .int p2].toArray s 0 0 A) (F0 m 12 ls []) := by
    intro fu
    induction fu with
    | zero => intro x639 g L H locs ls b640 hI h0c hP hD hS hl hm; exact absurd hm (by omega)
    | succ fu ih =>
      intro x639 g L H locs ls b640 hI h0c hP hD hS hl hm
      have ih642 := ih
      refine lv_iload_n hx hb dX0_ofLate_12 rfl (lv_at hl 3 rfl) ?_
      refine lv_iconst (v := 1) hx hb dX0_ofLate_13 (by decide) ?_
      refine lv_aload_n hx hb dX0_ofLate_14 rfl (lv_at hl 0 rfl) ?_
      refine x_getT hI rfl (Or.inl fl_X0_27) C hP (by decide) xs_11 rfl dX0_ofLate_15 (fun x643 e644 b645 => ?_)
      refine lv_ishl hx hb dX0_ofLate_18 ?_
      refine x_rng (lo := 1) (hi := 256) (ic_shl1 (by omega) (by omega)) (fun x646 b647 => ?_)
      refine lv_icmp_ge (x := x639) (y := x646) (tgt := 60) hx hb dX0_ofLate_19 (by decide) (fun c648 => ?_) (fun c648 => ?_)
      ·
        have c648 := icc_le (m := x646.toInt) (n := x639.toInt) rfl rfl c648
        refine lv_aload_n hx hb dX0_ofLate_60 rfl (lv_at hl 0 rfl) ?_
        refine x_callVv (rest := []) li_X0_45 C (zX0_reduce_11 l G H.size b a g L hI) (kR rfl) hP hD hS 11 0 rfl (zat (by decide) xs_11) rfl hl.1 rfl (Nat.le_of_ble_eq_true rfl) dX0_ofLate_61 (fun u651 H locs hw649 hP hD hS => ?_)
        obtain ⟨g, L⟩ := u651
        obtain ⟨hI, h0n⟩ := hw649
        have h0c : g 0 = g0 0 := h0n.trans h0c
        have hI : zI XT g := hI
        have hP : va_P G.1 vwCl (zw G (XS b) 105 a g L) H := hP
        have hD : va_D A (zw G (XS b) 105 a g L) := hD
        exact x_vret C hr hlk hP hD hS (g, L) rfl ⟨hI, h0c⟩ (Nat.le_of_ble_eq_true rfl) (Nat.le_of_ble_eq_true rfl) dX0_ofLate_64
      ·
        have c648 := icc_nle (m := x646.toInt) (n := x639.toInt) rfl rfl c648
        refine lv_aload_n hx hb dX0_ofLate_22 rfl (lv_at hl 0 rfl) ?_
        refine lv_iload_n hx hb dX0_ofLate_23 rfl (lv_at hl 3 rfl) ?_
        refine lv_iload_n hx hb dX0_ofLate_24 rfl (lv_at hl 1 rfl) ?_
        refine x_callVv (rest := []) li_X0_31 C (zX0_runWith_11 l G H.size b a g L hI x639 p1 (by omega)) (kR rfl) hP hD hS 11 0 rfl (zat (by decide) xs_11) rfl hl.1 rfl (Nat.le_of_ble_eq_true rfl) dX0_ofLate_25 (fun u656 H locs hw654 hP hD hS => ?_)
        obtain ⟨g, L⟩ := u656
        obtain ⟨hI, h0n⟩ := hw654
        have h0c : g 0 = g0 0 := h0n.trans h0c
        have hI : zI XT g := hI
        have hP : va_P G.1 vwCl (zw G (XS b) 105 a g L) H := hP
        have hD : va_D A (zw G (XS b) 105 a g L) := hD
        refine lv_aload_n hx hb dX0_ofLate_28 rfl (lv_at hl 0 rfl) ?_
        refine x_getr (Or.inl fl_X0_15) C hP (by decide) xs_11 rfl dX0_ofLate_29 ?_
        refine lv_iload_n hx hb dX0_ofLate_32 rfl (lv_at hl 1 rfl) ?_
        refine x_callNi (rest := []) li_X0_35 C (zX1_late_8 l G H.size b a g L hI p1 (by omega)) (kR rfl) hP hD hS 8 1 rfl (zat (by decide) xs_8) rfl hl.1 rfl (Nat.le_of_ble_eq_true rfl) dX0_ofLate_33 (fun x660 u661 H locs hw659 hP hD hS => ?_)
        obtain ⟨g, L⟩ := u661
        obtain ⟨hI, h0n⟩ := hw659
        have h0c : g 0 = g0 0 := h0n.trans h0c
        have hI : zI XT g := hI
        have hP : va_P G.1 vwCl (zw G (XS b) 105 a g L) H := hP
        have hD : va_D A (zw G (XS b) 105 a g L) := hD
        refine lv_iload_n hx hb dX0_ofLate_36 rfl (lv_at hl 2 rfl) ?_
        have J675 : ∀ (g : Nat → Nat → Int32) (L : Nat → Nat → Int64) (H : Heap) (locs : List Loc) (ls : Array Slot), zI XT g → g 0 = g0 0 → va_P G.1 vwCl (zw G (XS b) 105 a g L) H → va_D A (zw G (XS b) 105 a g L) → va_S A s.heap H locs → lv_has ls 4 [(0, .ref (a 11)), (1, .int p1), (2, .int p2), (3, .int x639)] → W p l e { frames := 11, cells := 0, slots := 0, locals := 227 } s m [.ref (a 11), .int p1, .int p2].toArray below meth c H locs 0 0 (MQ below ((kQv G (S := zS) (fun u => zI XT u.1 ∧ u.1 0 = g0 0) (fun u => zw G (XS b) 105 a u.1 u.2)) A) [.ref (a 11), .int p1, .int p2].toArray s 0 0 A) (F0 m 54 ls []) := by
          intro g L H locs ls hI h0c hP hD hS hl
          obtain ⟨x676, e677q, e677⟩ : ∃ z : Int32, x639 + Int32.ofInt (1) = z ∧ z.toInt = x639.toInt + (1) := ⟨_, rfl, ic_addc rfl (by decide) (by omega) (by omega)⟩
          refine lv_iinc (v := x676) (lv' := [(3, .int x676), (0, .ref (a 11)), (1, .int p1), (2, .int p2)]) hx hb dX0_ofLate_54 hl (k := 3) rfl e677q (by decide) rfl (fun ls hl => ?_)
          refine lv_goto (tgt := 12) hx hb dX0_ofLate_57 (by decide) ?_
          exact ih642 x676 g L H locs ls (by omega) hI h0c hP hD hS (lv_sub hl [1, 2, 3, 0] rfl) (by omega)
        refine lv_icmp_le (x := x660) (y := p2) (tgt := 54) hx hb dX0_ofLate_37 (by decide) (fun c678 => ?_) (fun c678 => ?_)
        ·
          have c678 := icc_le (m := x660.toInt) (n := p2.toInt) rfl rfl c678
          exact J675 g L H locs ls hI h0c hP hD hS (lv_sub hl [0, 1, 2, 3] rfl)
        ·
          have c678 := icc_nle (m := x660.toInt) (n := p2.toInt) rfl rfl c678
          refine lv_aload_n hx hb dX0_ofLate_40 rfl (lv_at hl 0 rfl) ?_
          refine lv_dup hx hb dX0_ofLate_41 rfl ?_
          refine x_getl (Or.inl fl_X0_23) C hP (by decide) xs_11 rfl dX0_ofLate_42 (fun y679 e680 => ?_)
          refine lv_aload_n hx hb dX0_ofLate_45 rfl (lv_at hl 0 rfl) ?_
          refine lv_iload_n hx hb dX0_ofLate_46 rfl (lv_at hl 3 rfl) ?_
          refine x_callVl (rest := [.long y679, .ref (a 11)]) li_X0_41 C (zX0_weight_11 l G H.size b a g L hI x639) (kR rfl) hP hD hS 11 0 rfl (zat (by decide) xs_11) rfl hl.1 rfl (Nat.le_of_ble_eq_true rfl) dX0_ofLate_47 (fun x682 u683 H locs hw681 hP hD hS => ?_)
          obtain ⟨g, L⟩ := u683
          obtain ⟨hI, h0n⟩ := hw681
          have h0c : g 0 = g0 0 := h0n.trans h0c
          have hI : zI XT g := hI
          have hP : va_P G.1 vwCl (zw G (XS b) 105 a g L) H := hP
          have hD : va_D A (zw G (XS b) 105 a g L) := hD
          refine lv_ladd hx hb dX0_ofLate_50 ?_
          refine x_anyL (fun y686 => ?_)
          refine x_putl (Or.inl fl_X0_23) ft_X0_5 C hP hD hS (by decide) xs_11 rfl dX0_ofLate_51 (fun L H locs eL hP hD hS => ?_)
          exact J675 g L H locs ls hI h0c hP hD hS (lv_sub hl [0, 1, 2, 3] rfl)
  have hc_ : (0 : Int32).toInt = 0 := by decide
  exact lp641 258 0 g L H locs ls (by decide) hI h0c hP hD hS (lv_sub hl [1, 2, 3, 0] rfl) (by omega)
set_option maxHeartbeats 4000000 in
set_option maxRecDepth 100000 in
theorem zX0_meanLate_11 (l : Launch) (G : kG) (sz : Nat) (b : Nat) (a : Nat → Nat) (g0 : Nat → Nat → Int32) (L0 : Nat → Nat → Int64) (hI : zI XT g0) (p1 : Int32) (hp1 : 0 ≤ p1.toInt ∧ p1.toInt ≤ 11) : kM l yX0_meanLate cX0_meanLate 3 none { frames := 11, cells := 0, slots := 0, locals := 227 } G [.ref (a 11), .int p1] (zw G (XS b) 105 a g0 L0) sz (kQv G (S := zS) (fun u => zI XT u.1 ∧ u.1 0 = g0 0) (fun u => zw G (XS b) 105 a u.1 u.2)) := by
  refine kM.of (by decide) (Nat.le_of_ble_eq_true rfl) ?_
  intro p e s m below meth c A ls H C hr hlk hnm hP hD hS hl
  have C : kC G p s m c cX0_meanLate 3 RX0 A := C
  have hx := C.1
  have hb := C.2.1
  have hl : lv_has ls 3 [(0, .ref (a 11)), (1, .int p1)] := hl
  have h0c : g0 0 = g0 0 := rfl
  obtain ⟨locs, hlocs⟩ : ∃ q : List Loc, q = [] := ⟨_, rfl⟩
  rw [← hlocs] at hS
  rw [← hlocs]
  refine lv_aload_n hx hb dX0_meanLate_0 rfl (lv_at hl 0 rfl) ?_
  refine lv_iload_n hx hb dX0_meanLate_1 rfl (lv_at hl 1 rfl) ?_
  refine x_callVv (rest := []) li_X0_19 C (zX0_findUnsure_11 l G H.size b a g0 L0 hI p1 (by omega)) (kR rfl) hP hD hS 11 0 rfl (zat (by decide) xs_11) rfl hl.1 rfl (Nat.le_of_ble_eq_true rfl) dX0_meanLate_2 (fun u3 H locs hw1 hP hD hS => ?_)
  obtain ⟨g, L⟩ := u3
  obtain ⟨hI, h0n⟩ := hw1
  have h0c : g 0 = g0 0 := h0n.trans h0c
  have hI : zI XT g := hI
  have hP : va_P G.1 vwCl (zw G (XS b) 105 a g L) H := hP
  have hD : va_D A (zw G (XS b) 105 a g L) := hD
  refine lv_aload_n hx hb dX0_meanLate_5 rfl (lv_at hl 0 rfl) ?_
  refine lv_lconst (v := 0) hx hb dX0_meanLate_6 (by decide) ?_
  refine x_putl (Or.inl fl_X0_23) ft_X0_5 C hP hD hS (by decide) xs_11 rfl dX0_meanLate_7 (fun L H locs eL hP hD hS => ?_)
  refine lv_iconst (v := 0) hx hb dX0_meanLate_10 (by decide) ?_
  refine lv_istore_n (lv' := [(2, .int 0), (0, .ref (a 11)), (1, .int p1)]) hx hb dX0_meanLate_11 rfl hl (by decide) rfl (fun ls hl => ?_)
  have lp489 : ∀ fu : Nat, ∀ (x487 : Int32) (g : Nat → Nat → Int32) (L : Nat → Nat → Int64) (H : Heap) (locs : List Loc) (ls : Array Slot), (0 ≤ x487.toInt ∧ x487.toInt ≤ 256) → zI XT g → g 0 = g0 0 → va_P G.1 vwCl (zw G (XS b) 105 a g L) H → va_D A (zw G (XS b) 105 a g L) → va_S A s.heap H locs → lv_has ls 3 [(0, .ref (a 11)), (1, .int p1), (2, .int x487)] → 256 - x487.toInt < (fu : Int) → W p l e { frames := 11, cells := 0, slots := 0, locals := 227 } s m [.ref (a 11), .int p1].toArray below meth c H locs 0 0 (MQ below ((kQv G (S := zS) (fun u => zI XT u.1 ∧ u.1 0 = g0 0) (fun u => zw G (XS b) 105 a u.1 u.2)) A) [.ref (a 11), .int p1].toArray s 0 0 A) (F0 m 12 ls []) := by
    intro fu
    induction fu with
    | zero => intro x487 g L H locs ls b488 hI h0c hP hD hS hl hm; exact absurd hm (by omega)
    | succ fu ih =>
      intro x487 g L H locs ls b488 hI h0c hP hD hS hl hm
      have ih490 := ih
      refine lv_iload_n hx hb dX0_meanLate_12 rfl (lv_at hl 2 rfl) ?_
      refine lv_iconst (v := 1) hx hb dX0_meanLate_13 (by decide) ?_
      refine lv_aload_n hx hb dX0_meanLate_14 rfl (lv_at hl 0 rfl) ?_
      refine x_getT hI rfl (Or.inl fl_X0_27) C hP (by decide) xs_11 rfl dX0_meanLate_15 (fun x491 e492 b493 => ?_)
      refine lv_ishl hx hb dX0_meanLate_18 ?_
      refine x_rng (lo := 1) (hi := 256) (ic_shl1 (by omega) (by omega)) (fun x494 b495 => ?_)
      refine lv_icmp_ge (x := x487) (y := x494) (tgt := 58) hx hb dX0_meanLate_19 (by decide) (fun c496 => ?_) (fun c496 => ?_)
      ·
        have c496 := icc_le (m := x494.toInt) (n := x487.toInt) rfl rfl c496
        refine lv_aload_n hx hb dX0_meanLate_58 rfl (lv_at hl 0 rfl) ?_
        refine x_callVv (rest := []) li_X0_45 C (zX0_reduce_11 l G H.size b a g L hI) (kR rfl) hP hD hS 11 0 rfl (zat (by decide) xs_11) rfl hl.1 rfl (Nat.le_of_ble_eq_true rfl) dX0_meanLate_59 (fun u499 H locs hw497 hP hD hS => ?_)
        obtain ⟨g, L⟩ := u499
        obtain ⟨hI, h0n⟩ := hw497
        have h0c : g 0 = g0 0 := h0n.trans h0c
        have hI : zI XT g := hI
        have hP : va_P G.1 vwCl (zw G (XS b) 105 a g L) H := hP
        have hD : va_D A (zw G (XS b) 105 a g L) := hD
        exact x_vret C hr hlk hP hD hS (g, L) rfl ⟨hI, h0c⟩ (Nat.le_of_ble_eq_true rfl) (Nat.le_of_ble_eq_true rfl) dX0_meanLate_62
      ·
        have c496 := icc_nle (m := x494.toInt) (n := x487.toInt) rfl rfl c496
        refine lv_aload_n hx hb dX0_meanLate_22 rfl (lv_at hl 0 rfl) ?_
        refine lv_iload_n hx hb dX0_meanLate_23 rfl (lv_at hl 2 rfl) ?_
        refine lv_iload_n hx hb dX0_meanLate_24 rfl (lv_at hl 1 rfl) ?_
        refine x_callVv (rest := []) li_X0_31 C (zX0_runWith_11 l G H.size b a g L hI x487 p1 (by omega)) (kR rfl) hP hD hS 11 0 rfl (zat (by decide) xs_11) rfl hl.1 rfl (Nat.le_of_ble_eq_true rfl) dX0_meanLate_25 (fun u504 H locs hw502 hP hD hS => ?_)
        obtain ⟨g, L⟩ := u504
        obtain ⟨hI, h0n⟩ := hw502
        have h0c : g 0 = g0 0 := h0n.trans h0c
        have hI : zI XT g := hI
        have hP : va_P G.1 vwCl (zw G (XS b) 105 a g L) H := hP
        have hD : va_D A (zw G (XS b) 105 a g L) := hD
        refine lv_aload_n hx hb dX0_meanLate_28 rfl (lv_at hl 0 rfl) ?_
        refine lv_dup hx hb dX0_meanLate_29 rfl ?_
        refine x_getl (Or.inl fl_X0_23) C hP (by decide) xs_11 rfl dX0_meanLate_30 (fun y507 e508 => ?_)
        refine lv_aload_n hx hb dX0_meanLate_33 rfl (lv_at hl 0 rfl) ?_
        refine lv_iload_n hx hb dX0_meanLate_34 rfl (lv_at hl 2 rfl) ?_
        refine x_callVl (rest := [.long y507, .ref (a 11)]) li_X0_41 C (zX0_weight_11 l G H.size b a g L hI x487) (kR rfl) hP hD hS 11 0 rfl (zat (by decide) xs_11) rfl hl.1 rfl (Nat.le_of_ble_eq_true rfl) dX0_meanLate_35 (fun x510 u511 H locs hw509 hP hD hS => ?_)
        obtain ⟨g, L⟩ := u511
        obtain ⟨hI, h0n⟩ := hw509
        have h0c : g 0 = g0 0 := h0n.trans h0c
        have hI : zI XT g := hI
        have hP : va_P G.1 vwCl (zw G (XS b) 105 a g L) H := hP
        have hD : va_D A (zw G (XS b) 105 a g L) := hD
        refine lv_aload_n hx hb dX0_meanLate_38 rfl (lv_at hl 0 rfl) ?_
        refine x_getr (Or.inl fl_X0_15) C hP (by decide) xs_11 rfl dX0_meanLate_39 ?_
        refine lv_iload_n hx hb dX0_meanLate_42 rfl (lv_at hl 1 rfl) ?_
        refine x_callNi (rest := [.long x510, .long y507, .ref (a 11)]) li_X0_35 C (zX1_late_8 l G H.size b a g L hI p1 (by omega)) (kR rfl) hP hD hS 8 1 rfl (zat (by decide) xs_8) rfl hl.1 rfl (Nat.le_of_ble_eq_true rfl) dX0_meanLate_43 (fun x515 u516 H locs hw514 hP hD hS => ?_)
        obtain ⟨g, L⟩ := u516
        obtain ⟨hI, h0n⟩ := hw514
        have h0c : g 0 = g0 0 := h0n.trans h0c
        have hI : zI XT g := hI
        have hP : va_P G.1 vwCl (zw G (XS b) 105 a g L) H := hP
        have hD : va_D A (zw G (XS b) 105 a g L) := hD
        refine lv_i2l hx hb dX0_meanLate_46 rfl ?_
        refine x_anyL (fun y519 => ?_)
        refine lv_lmul hx hb dX0_meanLate_47 ?_
        refine x_anyL (fun y520 => ?_)
        refine lv_ladd hx hb dX0_meanLate_48 ?_
        refine x_anyL (fun y521 => ?_)
        refine x_putl (Or.inl fl_X0_23) ft_X0_5 C hP hD hS (by decide) xs_11 rfl dX0_meanLate_49 (fun L H locs eL hP hD hS => ?_)
        obtain ⟨x522, e523q, e523⟩ : ∃ z : Int32, x487 + Int32.ofInt (1) = z ∧ z.toInt = x487.toInt + (1) := ⟨_, rfl, ic_addc rfl (by decide) (by omega) (by omega)⟩
        refine lv_iinc (v := x522) (lv' := [(2, .int x522), (0, .ref (a 11)), (1, .int p1)]) hx hb dX0_meanLate_52 hl (k := 2) rfl e523q (by decide) rfl (fun ls hl => ?_)
        refine lv_goto (tgt := 12) hx hb dX0_meanLate_55 (by decide) ?_
        exact ih490 x522 g L H locs ls (by omega) hI h0c hP hD hS (lv_sub hl [1, 2, 0] rfl) (by omega)
  have hc_ : (0 : Int32).toInt = 0 := by decide
  exact lp489 258 0 g L H locs ls (by decide) hI h0c hP hD hS (lv_sub hl [1, 2, 0] rfl) (by omega)
set_option maxHeartbeats 4000000 in
set_option maxRecDepth 100000 in
theorem zX0_drawOfTen_11 (l : Launch) (G : kG) (sz : Nat) (b : Nat) (a : Nat → Nat) (g0 : Nat → Nat → Int32) (L0 : Nat → Nat → Int64) (hI : zI XT g0) : kM l yX0_drawOfTen cX0_drawOfTen 1 (some .int) { frames := 6, cells := 0, slots := 0, locals := 110 } G [.ref (a 11)] (zw G (XS b) 105 a g0 L0) sz (kQi G (S := zS) (fun r u => zI XT u.1 ∧ u.1 0 = g0 0) (fun u => zw G (XS b) 105 a u.1 u.2)) := by
  refine kM.of (by decide) (Nat.le_of_ble_eq_true rfl) ?_
  intro p e s m below meth c A ls H C hr hlk hnm hP hD hS hl
  have C : kC G p s m c cX0_drawOfTen 1 RX0 A := C
  have hx := C.1
  have hb := C.2.1
  have hl : lv_has ls 1 [(0, .ref (a 11))] := hl
  have h0c : g0 0 = g0 0 := rfl
  obtain ⟨locs, hlocs⟩ : ∃ q : List Loc, q = [] := ⟨_, rfl⟩
  rw [← hlocs] at hS
  rw [← hlocs]
  refine lv_aload_n hx hb dX0_drawOfTen_0 rfl (lv_at hl 0 rfl) ?_
  refine lv_aload_n hx hb dX0_drawOfTen_1 rfl (lv_at hl 0 rfl) ?_
  refine x_geti (Or.inl fl_X0_77) C hP (by decide) xs_11 rfl dX0_drawOfTen_2 (fun x1 e2 => ?_)
  refine lv_ldc (v := 1103515245) hx hb C.2.2.2.1 (C.2.2.2.2.1.w tw_1320 rfl) dX0_drawOfTen_5 ?_
  refine lv_imul hx hb dX0_drawOfTen_7 ?_
  refine x_any (fun x3 => ?_)
  refine lv_sipush (v := 12345) hx hb dX0_drawOfTen_8 (by decide) ?_
  refine lv_iadd hx hb dX0_drawOfTen_11 ?_
  refine x_any (fun x4 => ?_)
  refine x_puti (hI.updN rfl) (Or.inl fl_X0_77) ft_X0_4 C hP hD hS (by decide) xs_11 rfl rfl rfl dX0_drawOfTen_12 (fun g H locs eg hI hP hD hS => ?_)
  have h0c : g 0 = g0 0 := by rw [eg]; exact h0c
  refine lv_aload_n hx hb dX0_drawOfTen_15 rfl (lv_at hl 0 rfl) ?_
  refine x_geti (Or.inl fl_X0_77) C hP (by decide) xs_11 rfl dX0_drawOfTen_16 (fun x5 e6 => ?_)
  refine lv_bipush (v := 16) hx hb dX0_drawOfTen_19 (by decide) ?_
  refine lv_iushr hx hb dX0_drawOfTen_21 rfl ?_
  refine x_any (fun x7 => ?_)
  refine lv_sipush (v := 32767) hx hb dX0_drawOfTen_22 (by decide) ?_
  refine lv_iand hx hb dX0_drawOfTen_25 ?_
  refine x_rng (lo := 0) (hi := 32767) (ic_and32767 _) (fun x8 b9 => ?_)
  refine lv_bipush (v := 10) hx hb dX0_drawOfTen_26 (by decide) ?_
  refine lv_irem hx hb dX0_drawOfTen_28 (by decide) ?_
  refine x_any (fun x10 => ?_)
  exact x_iret C hr hlk hP hD hS (g, L0) rfl ⟨hI, h0c⟩ (Nat.le_of_ble_eq_true rfl) (Nat.le_of_ble_eq_true rfl) dX0_drawOfTen_29
set_option maxHeartbeats 4000000 in
set_option maxRecDepth 100000 in
theorem zX0_drawRunning_11 (l : Launch) (G : kG) (sz : Nat) (b : Nat) (a : Nat → Nat) (g0 : Nat → Nat → Int32) (L0 : Nat → Nat → Int64) (hI : zI XT g0) : kM l yX0_drawRunning cX0_drawRunning 4 (some .int) { frames := 7, cells := 0, slots := 0, locals := 130 } G [.ref (a 11)] (zw G (XS b) 105 a g0 L0) sz (kQi G (S := zS) (fun r u => zI XT u.1 ∧ u.1 0 = g0 0) (fun u => zw G (XS b) 105 a u.1 u.2)) := by
  refine kM.of (by decide) (Nat.le_of_ble_eq_true rfl) ?_
  intro p e s m below meth c A ls H C hr hlk hnm hP hD hS hl
  have C : kC G p s m c cX0_drawRunning 4 RX0 A := C
  have hx := C.1
  have hb := C.2.1
  have hl : lv_has ls 4 [(0, .ref (a 11))] := hl
  have h0c : g0 0 = g0 0 := rfl
  obtain ⟨locs, hlocs⟩ : ∃ q : List Loc, q = [] := ⟨_, rfl⟩
  rw [← hlocs] at hS
  rw [← hlocs]
  refine lv_iconst (v := 0) hx hb dX0_drawRunning_0 (by decide) ?_
  refine lv_istore_n (lv' := [(1, .int 0), (0, .ref (a 11))]) hx hb dX0_drawRunning_1 rfl hl (by decide) rfl (fun ls hl => ?_)
  refine lv_iconst (v := 0) hx hb dX0_drawRunning_2 (by decide) ?_
  refine lv_istore_n (lv' := [(2, .int 0), (1, .int 0), (0, .ref (a 11))]) hx hb dX0_drawRunning_3 rfl hl (by decide) rfl (fun ls hl => ?_)
  have lp440 : ∀ fu : Nat, ∀ (x437 : Int32) (x438 : Int32) (g : Nat → Nat → Int32) (L : Nat → Nat → Int64) (H : Heap) (locs : List Loc) (ls : Array Slot), (0 ≤ x438.toInt ∧ x438.toInt ≤ 12) → zI XT g → g 0 = g0 0 → va_P G.1 vwCl (zw G (XS b) 105 a g L) H → va_D A (zw G (XS b) 105 a g L) → va_S A s.heap H locs → lv_has ls 4 [(0, .ref (a 11)), (1, .int x437), (2, .int x438)] → 12 - x438.toInt < (fu : Int) → W p l e { frames := 7, cells := 0, slots := 0, locals := 130 } s m [.ref (a 11)].toArray below meth c H locs 0 0 (MQ below ((kQi G (S := zS) (fun r u => zI XT u.1 ∧ u.1 0 = g0 0) (fun u => zw G (XS b) 105 a u.1 u.2)) A) [.ref (a 11)].toArray s 0 0 A) (F0 m 4 ls []) := by
    intro fu
    induction fu with
    | zero => intro x437 x438 g L H locs ls b439 hI h0c hP hD hS hl hm; exact absurd hm (by omega)
    | succ fu ih =>
      intro x437 x438 g L H locs ls b439 hI h0c hP hD hS hl hm
      have ih441 := ih
      refine lv_iload_n hx hb dX0_drawRunning_4 rfl (lv_at hl 2 rfl) ?_
      refine lv_aload_n hx hb dX0_drawRunning_5 rfl (lv_at hl 0 rfl) ?_
      refine x_getr (Or.inl fl_X0_15) C hP (by decide) xs_11 rfl dX0_drawRunning_6 ?_
      refine x_getr (Or.inr fl_X0_54) C hP (by decide) xs_8 rfl dX0_drawRunning_9 ?_
      refine x_getT hI rfl (Or.inr fl_X0_93) C hP (by decide) xs_1 rfl dX0_drawRunning_12 (fun x442 e443 b444 => ?_)
      refine lv_icmp_ge (x := x438) (y := x442) (tgt := 60) hx hb dX0_drawRunning_15 (by decide) (fun c445 => ?_) (fun c445 => ?_)
      ·
        have c445 := icc_le (m := x442.toInt) (n := x438.toInt) rfl rfl c445
        refine lv_iload_n hx hb dX0_drawRunning_60 rfl (lv_at hl 1 rfl) ?_
        exact x_iret C hr hlk hP hD hS (g, L) rfl ⟨hI, h0c⟩ (Nat.le_of_ble_eq_true rfl) (Nat.le_of_ble_eq_true rfl) dX0_drawRunning_61
      ·
        have c445 := icc_nle (m := x442.toInt) (n := x438.toInt) rfl rfl c445
        refine lv_aload_n hx hb dX0_drawRunning_18 rfl (lv_at hl 0 rfl) ?_
        refine x_getr (Or.inl fl_X0_15) C hP (by decide) xs_11 rfl dX0_drawRunning_19 ?_
        refine x_getr (Or.inr fl_X0_54) C hP (by decide) xs_8 rfl dX0_drawRunning_22 ?_
        refine x_getr (Or.inr fl_X0_58) C hP (by decide) xs_1 rfl dX0_drawRunning_25 ?_
        refine lv_iload_n hx hb dX0_drawRunning_28 rfl (lv_at hl 2 rfl) ?_
        refine x_aaldQ (t := 57) C hP (by decide) xs_17 (by omega) (by omega) dX0_drawRunning_29 (fun q446 q446l q446h => ?_)
        refine x_geti (Or.inr fl_X0_64) C hP (by omega) (xs_les (by omega) (by omega)) rfl dX0_drawRunning_30 (fun x447 e448 => ?_)
        refine lv_istore_n (lv' := [(3, .int x447), (0, .ref (a 11)), (1, .int x437), (2, .int x438)]) hx hb dX0_drawRunning_33 rfl hl (by decide) rfl (fun ls hl => ?_)
        refine lv_iload_n hx hb dX0_drawRunning_34 rfl (lv_at hl 0 rfl) ?_
        refine lv_bipush (v := 10) hx hb dX0_drawRunning_35 (by decide) ?_
        have J461 : ∀ (x462 : Int32) (g : Nat → Nat → Int32) (L : Nat → Nat → Int64) (H : Heap) (locs : List Loc) (ls : Array Slot), zI XT g → g 0 = g0 0 → va_P G.1 vwCl (zw G (XS b) 105 a g L) H → va_D A (zw G (XS b) 105 a g L) → va_S A s.heap H locs → lv_has ls 4 [(0, .ref (a 11)), (1, .int x462), (2, .int x438)] → W p l e { frames := 7, cells := 0, slots := 0, locals := 130 } s m [.ref (a 11)].toArray below meth c H locs 0 0 (MQ below ((kQi G (S := zS) (fun r u => zI XT u.1 ∧ u.1 0 = g0 0) (fun u => zw G (XS b) 105 a u.1 u.2)) A) [.ref (a 11)].toArray s 0 0 A) (F0 m 54 ls []) := by
          intro x462 g L H locs ls hI h0c hP hD hS hl
          obtain ⟨x463, e464q, e464⟩ : ∃ z : Int32, x438 + Int32.ofInt (1) = z ∧ z.toInt = x438.toInt + (1) := ⟨_, rfl, ic_addc rfl (by decide) (by omega) (by omega)⟩
          refine lv_iinc (v := x463) (lv' := [(2, .int x463), (0, .ref (a 11)), (1, .int x462)]) hx hb dX0_drawRunning_54 hl (k := 2) rfl e464q (by decide) rfl (fun ls hl => ?_)
          refine lv_goto (tgt := 4) hx hb dX0_drawRunning_57 (by decide) ?_
          exact ih441 x462 x463 g L H locs ls (by omega) hI h0c hP hD hS (lv_sub hl [1, 2, 0] rfl) (by omega)
        have J465 : ∀ (g : Nat → Nat → Int32) (L : Nat → Nat → Int64) (H : Heap) (locs : List Loc) (ls : Array Slot), zI XT g → g 0 = g0 0 → va_P G.1 vwCl (zw G (XS b) 105 a g L) H → va_D A (zw G (XS b) 105 a g L) → va_S A s.heap H locs → lv_has ls 4 [(0, .ref (a 11)), (1, .int x437), (2, .int x438)] → W p l e { frames := 7, cells := 0, slots := 0, locals := 130 } s m [.ref (a 11)].toArray below meth c H locs 0 0 (MQ below ((kQi G (S := zS) (fun r u => zI XT u.1 ∧ u.1 0 = g0 0) (fun u => zw G (XS b) 105 a u.1 u.2)) A) [.ref (a 11)].toArray s 0 0 A) (F0 m 48 ls []) := by
          intro g L H locs ls hI h0c hP hD hS hl
          refine lv_iload_n hx hb dX0_drawRunning_48 rfl (lv_at hl 1 rfl) ?_
          refine lv_iconst (v := 1) hx hb dX0_drawRunning_49 (by decide) ?_
          refine lv_iload_n hx hb dX0_drawRunning_50 rfl (lv_at hl 2 rfl) ?_
          refine lv_ishl hx hb dX0_drawRunning_51 ?_
          refine x_any (fun x466 => ?_)
          refine lv_ior hx hb dX0_drawRunning_52 ?_
          refine x_any (fun x467 => ?_)
          refine lv_istore_n (lv' := [(1, .int x467), (0, .ref (a 11)), (2, .int x438)]) hx hb dX0_drawRunning_53 rfl hl (by decide) rfl (fun ls hl => ?_)
          exact J461 x467 g L H locs ls hI h0c hP hD hS (lv_sub hl [1, 0, 2] rfl)
        refine lv_icmp_eq (x := x447) (y := 10) (tgt := 48) hx hb dX0_drawRunning_37 (by decide) (fun c468 => ?_) (fun c468 => ?_)
        ·
          have c468 := icc_eq (m := x447.toInt) (n := 10) rfl (by decide) c468
          exact J465 g L H locs ls hI h0c hP hD hS (lv_sub hl [1, 2, 3] rfl)
        ·
          have c468 := icc_neq (m := x447.toInt) (n := 10) rfl (by decide) c468
          refine lv_aload_n hx hb dX0_drawRunning_40 rfl (lv_at hl 1 rfl) ?_
          refine x_callVi (rest := []) li_X0_96 C (zX0_drawOfTen_11 l G H.size b a g L hI) (kR rfl) hP hD hS 11 0 rfl (zat (by decide) xs_11) rfl hl.1 rfl (Nat.le_of_ble_eq_true rfl) dX0_drawRunning_41 (fun x470 u471 H locs hw469 hP hD hS => ?_)
          obtain ⟨g, L⟩ := u471
          obtain ⟨hI, h0n⟩ := hw469
          have h0c : g 0 = g0 0 := h0n.trans h0c
          have hI : zI XT g := hI
          have hP : va_P G.1 vwCl (zw G (XS b) 105 a g L) H := hP
          have hD : va_D A (zw G (XS b) 105 a g L) := hD
          refine lv_iload_n hx hb dX0_drawRunning_44 rfl (lv_at hl 0 rfl) ?_
          refine lv_icmp_ge (x := x470) (y := x447) (tgt := 54) hx hb dX0_drawRunning_45 (by decide) (fun c474 => ?_) (fun c474 => ?_)
          ·
            have c474 := icc_le (m := x447.toInt) (n := x470.toInt) rfl rfl c474
            exact J461 x437 g L H locs ls hI h0c hP hD hS (lv_sub hl [1, 2, 3] rfl)
          ·
            have c474 := icc_nle (m := x447.toInt) (n := x470.toInt) rfl rfl c474
            exact J465 g L H locs ls hI h0c hP hD hS (lv_sub hl [1, 2, 3] rfl)
  have hc_ : (0 : Int32).toInt = 0 := by decide
  exact lp440 14 0 0 g0 L0 H locs ls (by decide) hI h0c hP hD hS (lv_sub hl [2, 1, 0] rfl) (by omega)
set_option maxHeartbeats 4000000 in
set_option maxRecDepth 100000 in
theorem zX0_ofTerm_11 (l : Launch) (G : kG) (sz : Nat) (b : Nat) (a : Nat → Nat) (g0 : Nat → Nat → Int32) (L0 : Nat → Nat → Int64) (hI : zI XT g0) (p1 : Int32) (p2 : Int32) (p3 : Int32) (p4 : Int32) (hp2 : 0 ≤ p2.toInt ∧ p2.toInt ≤ 60) (hp3 : 0 ≤ p3.toInt ∧ p3.toInt ≤ 11) : kM l yX0_ofTerm cX0_ofTerm 10 (some .int) { frames := 11, cells := 0, slots := 0, locals := 225 } G [.ref (a 11), .int p1, .int p2, .int p3, .int p4] (zw G (XS b) 105 a g0 L0) sz (kQi G (S := zS) (fun r u => zI XT u.1 ∧ u.1 0 = g0 0) (fun u => zw G (XS b) 105 a u.1 u.2)) := by
  refine kM.of (by decide) (Nat.le_of_ble_eq_true rfl) ?_
  intro p e s m below meth c A ls H C hr hlk hnm hP hD hS hl
  have C : kC G p s m c cX0_ofTerm 10 RX0 A := C
  have hx := C.1
  have hb := C.2.1
  have hl : lv_has ls 10 [(0, .ref (a 11)), (1, .int p1), (2, .int p2), (3, .int p3), (4, .int p4)] := hl
  have h0c : g0 0 = g0 0 := rfl
  obtain ⟨locs, hlocs⟩ : ∃ q : List Loc, q = [] := ⟨_, rfl⟩
  rw [← hlocs] at hS
  rw [← hlocs]
  refine lv_aload_n hx hb dX0_ofTerm_0 rfl (lv_at hl 0 rfl) ?_
  refine lv_iload_n hx hb dX0_ofTerm_1 rfl (lv_at hl 1 rfl) ?_
  refine x_puti (hI.updN rfl) (Or.inl fl_X0_77) ft_X0_4 C hP hD hS (by decide) xs_11 rfl rfl rfl dX0_ofTerm_2 (fun g H locs eg hI hP hD hS => ?_)
  have h0c : g 0 = g0 0 := by rw [eg]; exact h0c
  refine lv_iconst (v := 0) hx hb dX0_ofTerm_5 (by decide) ?_
  refine lv_istore (lv' := [(5, .int 0), (0, .ref (a 11)), (1, .int p1), (2, .int p2), (3, .int p3), (4, .int p4)]) hx hb dX0_ofTerm_6 hl (by decide) rfl (fun ls hl => ?_)
  refine lv_iconst (v := 0) hx hb dX0_ofTerm_8 (by decide) ?_
  refine lv_istore (lv' := [(6, .int 0), (5, .int 0), (0, .ref (a 11)), (1, .int p1), (2, .int p2), (3, .int p3), (4, .int p4)]) hx hb dX0_ofTerm_9 hl (by decide) rfl (fun ls hl => ?_)
  refine lv_iconst (v := 0) hx hb dX0_ofTerm_11 (by decide) ?_
  refine lv_istore (lv' := [(7, .int 0), (6, .int 0), (5, .int 0), (0, .ref (a 11)), (1, .int p1), (2, .int p2), (3, .int p3), (4, .int p4)]) hx hb dX0_ofTerm_12 hl (by decide) rfl (fun ls hl => ?_)
  refine lv_iconst (v := 0) hx hb dX0_ofTerm_14 (by decide) ?_
  refine lv_istore (lv' := [(8, .int 0), (7, .int 0), (6, .int 0), (5, .int 0), (0, .ref (a 11)), (1, .int p1), (2, .int p2), (3, .int p3), (4, .int p4)]) hx hb dX0_ofTerm_15 hl (by decide) rfl (fun ls hl => ?_)
  have lp858 : ∀ fu : Nat, ∀ (x852 : Int32) (x853 : Int32) (x855 : Int32) (x856 : Int32) (g : Nat → Nat → Int32) (L : Nat → Nat → Int64) (H : Heap) (locs : List Loc) (ls : Array Slot), (0 ≤ x853.toInt) → (0 ≤ x856.toInt ∧ x856.toInt ≤ 60) → zI XT g → g 0 = g0 0 → va_P G.1 vwCl (zw G (XS b) 105 a g L) H → va_D A (zw G (XS b) 105 a g L) → va_S A s.heap H locs → lv_has ls 10 [(0, .ref (a 11)), (2, .int p2), (3, .int p3), (4, .int p4), (5, .int x852), (6, .int x853), (7, .int x855), (8, .int x856)] → 60 - x856.toInt < (fu : Int) → W p l e { frames := 11, cells := 0, slots := 0, locals := 225 } s m [.ref (a 11), .int p1, .int p2, .int p3, .int p4].toArray below meth c H locs 0 0 (MQ below ((kQi G (S := zS) (fun r u => zI XT u.1 ∧ u.1 0 = g0 0) (fun u => zw G (XS b) 105 a u.1 u.2)) A) [.ref (a 11), .int p1, .int p2, .int p3, .int p4].toArray s 0 0 A) (F0 m 17 ls []) := by
    intro fu
    induction fu with
    | zero => intro x852 x853 x855 x856 g L H locs ls b854 b857 hI h0c hP hD hS hl hm; exact absurd hm (by omega)
    | succ fu ih =>
      intro x852 x853 x855 x856 g L H locs ls b854 b857 hI h0c hP hD hS hl hm
      have ih859 := ih
      refine lv_iload hx hb dX0_ofTerm_17 (lv_at hl 7 rfl) ?_
      refine lv_iload_n hx hb dX0_ofTerm_19 rfl (lv_at hl 1 rfl) ?_
      refine lv_icmp_ge (x := x856) (y := p2) (tgt := 87) hx hb dX0_ofTerm_20 (by decide) (fun c860 => ?_) (fun c860 => ?_)
      ·
        have c860 := icc_le (m := p2.toInt) (n := x856.toInt) rfl rfl c860
        refine lv_aload_n hx hb dX0_ofTerm_87 rfl (lv_at hl 0 rfl) ?_
        refine x_getr (Or.inl fl_X0_15) C hP (by decide) xs_11 rfl dX0_ofTerm_88 ?_
        refine lv_iconst (v := -1) hx hb dX0_ofTerm_91 (by decide) ?_
        refine x_puti (hI.updN rfl) (Or.inr fl_X0_71) ft_X1_8 C hP hD hS (by decide) xs_8 rfl rfl rfl dX0_ofTerm_92 (fun g H locs eg hI hP hD hS => ?_)
        have h0c : g 0 = g0 0 := by rw [eg]; exact h0c
        refine lv_iload hx hb dX0_ofTerm_95 (lv_at hl 3 rfl) ?_
        refine lv_if_ne (x := p4) (tgt := 103) hx hb dX0_ofTerm_97 (by decide) (fun c861 => ?_) (fun c861 => ?_)
        ·
          have c861 := icc_neq (m := p4.toInt) (n := 0) rfl (by decide) c861
          refine lv_iload hx hb dX0_ofTerm_103 (lv_at hl 3 rfl) ?_
          refine lv_iconst (v := 1) hx hb dX0_ofTerm_105 (by decide) ?_
          have J864 : ∀ (x865 : Int32) (g : Nat → Nat → Int32) (L : Nat → Nat → Int64) (H : Heap) (locs : List Loc) (ls : Array Slot), zI XT g → g 0 = g0 0 → va_P G.1 vwCl (zw G (XS b) 105 a g L) H → va_D A (zw G (XS b) 105 a g L) → va_S A s.heap H locs → lv_has ls 10 [] → W p l e { frames := 11, cells := 0, slots := 0, locals := 225 } s m [.ref (a 11), .int p1, .int p2, .int p3, .int p4].toArray below meth c H locs 0 0 (MQ below ((kQi G (S := zS) (fun r u => zI XT u.1 ∧ u.1 0 = g0 0) (fun u => zw G (XS b) 105 a u.1 u.2)) A) [.ref (a 11), .int p1, .int p2, .int p3, .int p4].toArray s 0 0 A) (F0 m 116 ls [.int x865]) := by
            intro x865 g L H locs ls hI h0c hP hD hS hl
            exact x_iret C hr hlk hP hD hS (g, L) rfl ⟨hI, h0c⟩ (Nat.le_of_ble_eq_true rfl) (Nat.le_of_ble_eq_true rfl) dX0_ofTerm_116
          refine lv_icmp_ne (x := p4) (y := 1) (tgt := 114) hx hb dX0_ofTerm_106 (by decide) (fun c866 => ?_) (fun c866 => ?_)
          ·
            have c866 := icc_neq (m := p4.toInt) (n := 1) rfl (by decide) c866
            refine lv_iload hx hb dX0_ofTerm_114 (lv_at hl 6 rfl) ?_
            exact J864 x855 g L H locs ls hI h0c hP hD hS (lv_sub hl [] rfl)
          ·
            have c866 := icc_eq (m := p4.toInt) (n := 1) rfl (by decide) c866
            refine lv_iload hx hb dX0_ofTerm_109 (lv_at hl 5 rfl) ?_
            refine lv_goto (tgt := 116) hx hb dX0_ofTerm_111 (by decide) ?_
            exact J864 x853 g L H locs ls hI h0c hP hD hS (lv_sub hl [] rfl)
        ·
          have c861 := icc_eq (m := p4.toInt) (n := 0) rfl (by decide) c861
          refine lv_iload hx hb dX0_ofTerm_100 (lv_at hl 4 rfl) ?_
          exact x_iret C hr hlk hP hD hS (g, L) rfl ⟨hI, h0c⟩ (Nat.le_of_ble_eq_true rfl) (Nat.le_of_ble_eq_true rfl) dX0_ofTerm_102
      ·
        have c860 := icc_nle (m := p2.toInt) (n := x856.toInt) rfl rfl c860
        refine lv_aload_n hx hb dX0_ofTerm_23 rfl (lv_at hl 0 rfl) ?_
        refine x_getr (Or.inl fl_X0_15) C hP (by decide) xs_11 rfl dX0_ofTerm_24 ?_
        refine lv_aload_n hx hb dX0_ofTerm_27 rfl (lv_at hl 0 rfl) ?_
        refine x_callVi (rest := [.ref (a 8)]) li_X0_80 C (zX0_drawRunning_11 l G H.size b a g L hI) (kR rfl) hP hD hS 11 0 rfl (zat (by decide) xs_11) rfl hl.1 rfl (Nat.le_of_ble_eq_true rfl) dX0_ofTerm_28 (fun x868 u869 H locs hw867 hP hD hS => ?_)
        obtain ⟨g, L⟩ := u869
        obtain ⟨hI, h0n⟩ := hw867
        have h0c : g 0 = g0 0 := h0n.trans h0c
        have hI : zI XT g := hI
        have hP : va_P G.1 vwCl (zw G (XS b) 105 a g L) H := hP
        have hD : va_D A (zw G (XS b) 105 a g L) := hD
        refine x_puti (hI.updN rfl) (Or.inr fl_X0_71) ft_X1_8 C hP hD hS (by decide) xs_8 rfl rfl rfl dX0_ofTerm_31 (fun g H locs eg hI hP hD hS => ?_)
        have h0c : g 0 = g0 0 := by rw [eg]; exact h0c
        refine lv_aload_n hx hb dX0_ofTerm_34 rfl (lv_at hl 0 rfl) ?_
        refine x_getr (Or.inl fl_X0_15) C hP (by decide) xs_11 rfl dX0_ofTerm_35 ?_
        refine lv_iconst (v := 0) hx hb dX0_ofTerm_38 (by decide) ?_
        refine x_callNi (rest := []) li_X0_84 C (zX1_lostFrom_8 l G H.size b a g L hI 0 (by decide)) (kR rfl) hP hD hS 8 1 rfl (zat (by decide) xs_8) rfl hl.1 rfl (Nat.le_of_ble_eq_true rfl) dX0_ofTerm_39 (fun x873 u874 H locs hw872 hP hD hS => ?_)
        obtain ⟨g, L⟩ := u874
        obtain ⟨hI, h0n⟩ := hw872
        have h0c : g 0 = g0 0 := h0n.trans h0c
        have hI : zI XT g := hI
        have hP : va_P G.1 vwCl (zw G (XS b) 105 a g L) H := hP
        have hD : va_D A (zw G (XS b) 105 a g L) := hD
        refine lv_istore (lv' := [(9, .int x873), (0, .ref (a 11)), (2, .int p2), (3, .int p3), (4, .int p4), (5, .int x852), (6, .int x853), (7, .int x855), (8, .int x856)]) hx hb dX0_ofTerm_42 hl (by decide) rfl (fun ls hl => ?_)
        refine lv_iload hx hb dX0_ofTerm_44 (lv_at hl 5 rfl) ?_
        refine lv_iload hx hb dX0_ofTerm_46 (lv_at hl 0 rfl) ?_
        refine lv_iadd hx hb dX0_ofTerm_48 ?_
        refine x_any (fun x877 => ?_)
        refine lv_istore (lv' := [(5, .int x877), (9, .int x873), (0, .ref (a 11)), (2, .int p2), (3, .int p3), (4, .int p4), (6, .int x853), (7, .int x855), (8, .int x856)]) hx hb dX0_ofTerm_49 hl (by decide) rfl (fun ls hl => ?_)
        refine lv_iload hx hb dX0_ofTerm_51 (lv_at hl 6 rfl) ?_
        refine lv_iload hx hb dX0_ofTerm_53 (lv_at hl 1 rfl) ?_
        refine k_max lm_X0_87 C hl.1 (Nat.le_of_ble_eq_true rfl) (Nat.le_of_ble_eq_true rfl) (Nat.le_of_ble_eq_true rfl) (Nat.le_of_ble_eq_true rfl) dX0_ofTerm_55 ?_
        refine x_max (mm := x853.toInt) (nn := x873.toInt) rfl rfl (fun x878 e879 => ?_)
        refine lv_istore (lv' := [(6, .int x878), (5, .int x877), (9, .int x873), (0, .ref (a 11)), (2, .int p2), (3, .int p3), (4, .int p4), (7, .int x855), (8, .int x856)]) hx hb dX0_ofTerm_58 hl (by decide) rfl (fun ls hl => ?_)
        refine lv_iload hx hb dX0_ofTerm_60 (lv_at hl 7 rfl) ?_
        refine lv_aload_n hx hb dX0_ofTerm_62 rfl (lv_at hl 3 rfl) ?_
        refine x_getr (Or.inl fl_X0_15) C hP (by decide) xs_11 rfl dX0_ofTerm_63 ?_
        refine lv_iload_n hx hb dX0_ofTerm_66 rfl (lv_at hl 5 rfl) ?_
        refine x_callNi (rest := [.int x855]) li_X0_35 C (zX1_late_8 l G H.size b a g L hI p3 (by omega)) (kR rfl) hP hD hS 8 1 rfl (zat (by decide) xs_8) rfl hl.1 rfl (Nat.le_of_ble_eq_true rfl) dX0_ofTerm_67 (fun x881 u882 H locs hw880 hP hD hS => ?_)
        obtain ⟨g, L⟩ := u882
        obtain ⟨hI, h0n⟩ := hw880
        have h0c : g 0 = g0 0 := h0n.trans h0c
        have hI : zI XT g := hI
        have hP : va_P G.1 vwCl (zw G (XS b) 105 a g L) H := hP
        have hD : va_D A (zw G (XS b) 105 a g L) := hD
        have J891 : ∀ (x892 : Int32) (g : Nat → Nat → Int32) (L : Nat → Nat → Int64) (H : Heap) (locs : List Loc) (ls : Array Slot), (0 ≤ x892.toInt ∧ x892.toInt ≤ 1) → zI XT g → g 0 = g0 0 → va_P G.1 vwCl (zw G (XS b) 105 a g L) H → va_D A (zw G (XS b) 105 a g L) → va_S A s.heap H locs → lv_has ls 10 [(0, .ref (a 11)), (2, .int p2), (3, .int p3), (4, .int p4), (5, .int x877), (6, .int x878), (8, .int x856)] → W p l e { frames := 11, cells := 0, slots := 0, locals := 225 } s m [.ref (a 11), .int p1, .int p2, .int p3, .int p4].toArray below meth c H locs 0 0 (MQ below ((kQi G (S := zS) (fun r u => zI XT u.1 ∧ u.1 0 = g0 0) (fun u => zw G (XS b) 105 a u.1 u.2)) A) [.ref (a 11), .int p1, .int p2, .int p3, .int p4].toArray s 0 0 A) (F0 m 78 ls [.int x892, .int x855]) := by
          intro x892 g L H locs ls b893 hI h0c hP hD hS hl
          refine lv_iadd hx hb dX0_ofTerm_78 ?_
          refine x_any (fun x894 => ?_)
          refine lv_istore (lv' := [(7, .int x894), (0, .ref (a 11)), (2, .int p2), (3, .int p3), (4, .int p4), (5, .int x877), (6, .int x878), (8, .int x856)]) hx hb dX0_ofTerm_79 hl (by decide) rfl (fun ls hl => ?_)
          obtain ⟨x895, e896q, e896⟩ : ∃ z : Int32, x856 + Int32.ofInt (1) = z ∧ z.toInt = x856.toInt + (1) := ⟨_, rfl, ic_addc rfl (by decide) (by omega) (by omega)⟩
          refine lv_iinc (v := x895) (lv' := [(8, .int x895), (7, .int x894), (0, .ref (a 11)), (2, .int p2), (3, .int p3), (4, .int p4), (5, .int x877), (6, .int x878)]) hx hb dX0_ofTerm_81 hl (k := 7) rfl e896q (by decide) rfl (fun ls hl => ?_)
          refine lv_goto (tgt := 17) hx hb dX0_ofTerm_84 (by decide) ?_
          exact ih859 x877 x878 x894 x895 g L H locs ls (by omega) (by omega) hI h0c hP hD hS (lv_sub hl [2, 3, 4, 5, 6, 7, 1, 0] rfl) (by omega)
        refine lv_if_le (x := x881) (tgt := 77) hx hb dX0_ofTerm_70 (by decide) (fun c897 => ?_) (fun c897 => ?_)
        ·
          have c897 := icc_le (m := x881.toInt) (n := 0) rfl (by decide) c897
          refine lv_iconst (v := 0) hx hb dX0_ofTerm_77 (by decide) ?_
          exact J891 0 g L H locs ls (by decide) hI h0c hP hD hS (lv_sub hl [3, 4, 5, 6, 1, 0, 8] rfl)
        ·
          have c897 := icc_nle (m := x881.toInt) (n := 0) rfl (by decide) c897
          refine lv_iconst (v := 1) hx hb dX0_ofTerm_73 (by decide) ?_
          refine lv_goto (tgt := 78) hx hb dX0_ofTerm_74 (by decide) ?_
          exact J891 1 g L H locs ls (by decide) hI h0c hP hD hS (lv_sub hl [3, 4, 5, 6, 1, 0, 8] rfl)
  have hc_ : (0 : Int32).toInt = 0 := by decide
  exact lp858 62 0 0 0 0 g L0 H locs ls (by decide) (by decide) hI h0c hP hD hS (lv_sub hl [4, 6, 7, 8, 3, 2, 1, 0] rfl) (by omega)
set_option maxHeartbeats 4000000 in
set_option maxRecDepth 100000 in
theorem zX9_addWay_12 (l : Launch) (G : kG) (sz : Nat) (b : Nat) (a : Nat → Nat) (g0 : Nat → Nat → Int32) (L0 : Nat → Nat → Int64) (hI : zI XT g0) (p1 : Int32) (p2 : Int32) (hp1 : 0 ≤ p1.toInt ∧ p1.toInt ≤ 11) (hp2 : 0 ≤ p2.toInt ∧ p2.toInt ≤ 11) : kM l yX9_addWay cX9_addWay 3 none { frames := 8, cells := 0, slots := 0, locals := 154 } G [.ref (a 12), .int p1, .int p2] (zw G (XS b) 105 a g0 L0) sz (kQv G (S := zS) (fun u => zI XT u.1 ∧ u.1 0 = g0 0) (fun u => zw G (XS b) 105 a u.1 u.2)) := by
  refine kM.of (by decide) (Nat.le_of_ble_eq_true rfl) ?_
  intro p e s m below meth c A ls H C hr hlk hnm hP hD hS hl
  have C : kC G p s m c cX9_addWay 3 RX9 A := C
  have hx := C.1
  have hb := C.2.1
  have hl : lv_has ls 3 [(0, .ref (a 12)), (1, .int p1), (2, .int p2)] := hl
  have h0c : g0 0 = g0 0 := rfl
  obtain ⟨locs, hlocs⟩ : ∃ q : List Loc, q = [] := ⟨_, rfl⟩
  rw [← hlocs] at hS
  rw [← hlocs]
  refine lv_aload_n hx hb dX9_addWay_0 rfl (lv_at hl 0 rfl) ?_
  refine x_getT hI rfl (Or.inl fl_X9_35) C hP (by decide) xs_12 rfl dX9_addWay_1 (fun x1 e2 b3 => ?_)
  refine lv_bipush (v := 72) hx hb dX9_addWay_4 (by decide) ?_
  have J29 : ∀ (x30 : Int32) (g : Nat → Nat → Int32) (L : Nat → Nat → Int64) (H : Heap) (locs : List Loc) (ls : Array Slot), (1 ≤ x30.toInt ∧ x30.toInt ≤ 72) → g 12 5 = x30 → zI XT g → g 0 = g0 0 → va_P G.1 vwCl (zw G (XS b) 105 a g L) H → va_D A (zw G (XS b) 105 a g L) → va_S A s.heap H locs → lv_has ls 3 [] → W p l e { frames := 8, cells := 0, slots := 0, locals := 154 } s m [.ref (a 12), .int p1, .int p2].toArray below meth c H locs 0 0 (MQ below ((kQv G (S := zS) (fun u => zI XT u.1 ∧ u.1 0 = g0 0) (fun u => zw G (XS b) 105 a u.1 u.2)) A) [.ref (a 12), .int p1, .int p2].toArray s 0 0 A) (F0 m 106 ls []) := by
    intro x30 g L H locs ls b31 kf32 hI h0c hP hD hS hl
    exact x_vret C hr hlk hP hD hS (g, L) rfl ⟨hI, h0c⟩ (Nat.le_of_ble_eq_true rfl) (Nat.le_of_ble_eq_true rfl) dX9_addWay_106
  refine lv_icmp_ge (x := x1) (y := 72) (tgt := 106) hx hb dX9_addWay_6 (by decide) (fun c33 => ?_) (fun c33 => ?_)
  ·
    have c33 := icc_le (m := 72) (n := x1.toInt) (by decide) rfl c33
    exact J29 x1 g0 L0 H locs ls (by omega) e2 hI h0c hP hD hS (lv_sub hl [] rfl)
  ·
    have c33 := icc_nle (m := 72) (n := x1.toInt) (by decide) rfl c33
    refine lv_aload_n hx hb dX9_addWay_9 rfl (lv_at hl 0 rfl) ?_
    refine x_getr (Or.inl fl_X9_9) C hP (by decide) xs_12 rfl dX9_addWay_10 ?_
    refine lv_aload_n hx hb dX9_addWay_13 rfl (lv_at hl 0 rfl) ?_
    refine x_getv (v := .int x1) (Or.inl fl_X9_35) C hP (by decide) xs_12 (congrArg Value.int e2) dX9_addWay_14 ?_
    refine lv_aload_n hx hb dX9_addWay_17 rfl (lv_at hl 0 rfl) ?_
    refine x_getr (Or.inl fl_X9_25) C hP (by decide) xs_12 rfl dX9_addWay_18 ?_
    refine x_getr (Or.inr fl_X9_68) C hP (by decide) xs_8 rfl dX9_addWay_21 ?_
    refine lv_iload_n hx hb dX9_addWay_24 rfl (lv_at hl 1 rfl) ?_
    refine x_ald C hP (by decide) xs_44 (by omega) (by omega) dX9_addWay_25 (fun x34 e35 => ?_)
    refine x_ast (hI.updN rfl) C hP hD hS (by decide) xs_53 (by omega) (by omega) dX9_addWay_26 (fun g H locs eg hI hP hD hS => ?_)
    have e2 : g 12 5 = x1 := by rw [eg]; exact e2
    have h0c : g 0 = g0 0 := by rw [eg]; exact h0c
    refine lv_aload_n hx hb dX9_addWay_27 rfl (lv_at hl 0 rfl) ?_
    refine x_getr (Or.inl fl_X9_15) C hP (by decide) xs_12 rfl dX9_addWay_28 ?_
    refine lv_aload_n hx hb dX9_addWay_31 rfl (lv_at hl 0 rfl) ?_
    refine x_getv (v := .int x1) (Or.inl fl_X9_35) C hP (by decide) xs_12 (congrArg Value.int e2) dX9_addWay_32 ?_
    refine lv_aload_n hx hb dX9_addWay_35 rfl (lv_at hl 0 rfl) ?_
    refine x_getr (Or.inl fl_X9_25) C hP (by decide) xs_12 rfl dX9_addWay_36 ?_
    refine x_getr (Or.inr fl_X9_68) C hP (by decide) xs_8 rfl dX9_addWay_39 ?_
    refine lv_iload_n hx hb dX9_addWay_42 rfl (lv_at hl 1 rfl) ?_
    refine x_ald C hP (by decide) xs_44 (by omega) (by omega) dX9_addWay_43 (fun x36 e37 => ?_)
    refine lv_aload_n hx hb dX9_addWay_44 rfl (lv_at hl 0 rfl) ?_
    refine x_getr (Or.inl fl_X9_25) C hP (by decide) xs_12 rfl dX9_addWay_45 ?_
    refine lv_iload_n hx hb dX9_addWay_48 rfl (lv_at hl 1 rfl) ?_
    refine lv_iload_n hx hb dX9_addWay_49 rfl (lv_at hl 2 rfl) ?_
    refine x_callNi (rest := [.int x36, .int x1, .ref (a 54)]) li_X9_69 C (zX1_way_8 l G H.size b a g L0 hI p1 p2 (by omega) (by omega)) (kR rfl) hP hD hS 8 1 rfl (zat (by decide) xs_8) rfl hl.1 rfl (Nat.le_of_ble_eq_true rfl) dX9_addWay_50 (fun x39 u40 H locs hw38 hP hD hS => ?_)
    obtain ⟨g, L⟩ := u40
    obtain ⟨hI, h0n, kk0⟩ := hw38
    have h0c : g 0 = g0 0 := h0n.trans h0c
    have e2 : g 12 5 = x1 := kk0.trans e2
    have hI : zI XT g := hI
    have hP : va_P G.1 vwCl (zw G (XS b) 105 a g L) H := hP
    have hD : va_D A (zw G (XS b) 105 a g L) := hD
    refine lv_iadd hx hb dX9_addWay_53 ?_
    refine x_any (fun x43 => ?_)
    refine x_ast (hI.updN rfl) C hP hD hS (by decide) xs_54 (by omega) (by omega) dX9_addWay_54 (fun g H locs eg hI hP hD hS => ?_)
    have e2 : g 12 5 = x1 := by rw [eg]; exact e2
    have h0c : g 0 = g0 0 := by rw [eg]; exact h0c
    refine lv_aload_n hx hb dX9_addWay_55 rfl (lv_at hl 0 rfl) ?_
    refine x_getr (Or.inl fl_X9_18) C hP (by decide) xs_12 rfl dX9_addWay_56 ?_
    refine lv_aload_n hx hb dX9_addWay_59 rfl (lv_at hl 0 rfl) ?_
    refine x_getv (v := .int x1) (Or.inl fl_X9_35) C hP (by decide) xs_12 (congrArg Value.int e2) dX9_addWay_60 ?_
    refine lv_aload_n hx hb dX9_addWay_63 rfl (lv_at hl 0 rfl) ?_
    refine x_getr (Or.inl fl_X9_25) C hP (by decide) xs_12 rfl dX9_addWay_64 ?_
    refine x_getr (Or.inr fl_X9_39) C hP (by decide) xs_8 rfl dX9_addWay_67 ?_
    refine x_getr (Or.inr fl_X9_48) C hP (by decide) xs_1 rfl dX9_addWay_70 ?_
    refine lv_iload_n hx hb dX9_addWay_73 rfl (lv_at hl 1 rfl) ?_
    refine x_aaldQ (t := 57) C hP (by decide) xs_17 (by omega) (by omega) dX9_addWay_74 (fun q44 q44l q44h => ?_)
    refine x_geti (Or.inr fl_X9_73) C hP (by omega) (xs_les (by omega) (by omega)) rfl dX9_addWay_75 (fun x45 e46 => ?_)
    refine x_ast (hI.updN rfl) C hP hD hS (by decide) xs_55 (by omega) (by omega) dX9_addWay_78 (fun g H locs eg hI hP hD hS => ?_)
    have e2 : g 12 5 = x1 := by rw [eg]; exact e2
    have h0c : g 0 = g0 0 := by rw [eg]; exact h0c
    refine lv_aload_n hx hb dX9_addWay_79 rfl (lv_at hl 0 rfl) ?_
    refine x_getr (Or.inl fl_X9_21) C hP (by decide) xs_12 rfl dX9_addWay_80 ?_
    refine lv_aload_n hx hb dX9_addWay_83 rfl (lv_at hl 0 rfl) ?_
    refine x_getv (v := .int x1) (Or.inl fl_X9_35) C hP (by decide) xs_12 (congrArg Value.int e2) dX9_addWay_84 ?_
    refine lv_aload_n hx hb dX9_addWay_87 rfl (lv_at hl 0 rfl) ?_
    refine x_getr (Or.inl fl_X9_25) C hP (by decide) xs_12 rfl dX9_addWay_88 ?_
    refine lv_iload_n hx hb dX9_addWay_91 rfl (lv_at hl 2 rfl) ?_
    refine x_callNi (rest := [.int x1, .ref (a 56)]) li_X9_60 C (zX1_isUpstairs_8 l G H.size b a g L hI p2 (by omega)) (kR rfl) hP hD hS 8 1 rfl (zat (by decide) xs_8) rfl hl.1 rfl (Nat.le_of_ble_eq_true rfl) dX9_addWay_92 (fun x48 u49 H locs hw47 hP hD hS => ?_)
    obtain ⟨g, L⟩ := u49
    obtain ⟨hI, h0n, b50, kk0⟩ := hw47
    have h0c : g 0 = g0 0 := h0n.trans h0c
    have e2 : g 12 5 = x1 := kk0.trans e2
    have hI : zI XT g := hI
    have hP : va_P G.1 vwCl (zw G (XS b) 105 a g L) H := hP
    have hD : va_D A (zw G (XS b) 105 a g L) := hD
    refine x_zast (hI.upd rfl z_nar.1 z_nar.2) C hP hD hS (by decide) xs_56 (by omega) (by omega) dX9_addWay_95 (fun g H locs eg hI hP hD hS => ?_)
    have e2 : g 12 5 = x1 := by rw [eg]; exact e2
    have h0c : g 0 = g0 0 := by rw [eg]; exact h0c
    refine lv_aload_n hx hb dX9_addWay_96 rfl (lv_at hl 0 rfl) ?_
    refine lv_dup hx hb dX9_addWay_97 rfl ?_
    refine x_getv (v := .int x1) (Or.inl fl_X9_35) C hP (by decide) xs_12 (congrArg Value.int e2) dX9_addWay_98 ?_
    refine lv_iconst (v := 1) hx hb dX9_addWay_101 (by decide) ?_
    refine lv_iadd hx hb dX9_addWay_102 ?_
    refine x_val (ic_addc (m := x1.toInt) (n := 1) rfl (by decide) (by omega) (by omega)) (fun x52 e53 => ?_)
    refine x_puti (hI.upd rfl (by omega) (by omega)) (Or.inl fl_X9_35) ft_X9_5 C hP hD hS (by decide) xs_12 rfl rfl rfl dX9_addWay_103 (fun g H locs eg hI hP hD hS => ?_)
    have h0c : g 0 = g0 0 := by rw [eg]; exact h0c
    have kf54 : g 12 5 = x52 := by rw [eg]; exact upd2_at
    exact J29 x52 g L H locs ls (by omega) kf54 hI h0c hP hD hS (lv_sub hl [] rfl)
set_option maxHeartbeats 4000000 in
set_option maxRecDepth 100000 in
theorem zX9_gather_12 (l : Launch) (G : kG) (sz : Nat) (b : Nat) (a : Nat → Nat) (g0 : Nat → Nat → Int32) (L0 : Nat → Nat → Int64) (hI : zI XT g0) : kM l yX9_gather cX9_gather 5 none { frames := 11, cells := 0, slots := 0, locals := 225 } G [.ref (a 12)] (zw G (XS b) 105 a g0 L0) sz (kQv G (S := zS) (fun u => zI XT u.1 ∧ u.1 0 = g0 0) (fun u => zw G (XS b) 105 a u.1 u.2)) := by
  refine kM.of (by decide) (Nat.le_of_ble_eq_true rfl) ?_
  intro p e s m below meth c A ls H C hr hlk hnm hP hD hS hl
  have C : kC G p s m c cX9_gather 5 RX9 A := C
  have hx := C.1
  have hb := C.2.1
  have hl : lv_has ls 5 [(0, .ref (a 12))] := hl
  have h0c : g0 0 = g0 0 := rfl
  obtain ⟨locs, hlocs⟩ : ∃ q : List Loc, q = [] := ⟨_, rfl⟩
  rw [← hlocs] at hS
  rw [← hlocs]
  refine lv_aload_n hx hb dX9_gather_0 rfl (lv_at hl 0 rfl) ?_
  refine x_getr (Or.inl fl_X9_25) C hP (by decide) xs_12 rfl dX9_gather_1 ?_
  refine lv_iconst (v := 0) hx hb dX9_gather_4 (by decide) ?_
  refine x_callNv (rest := []) li_X9_29 C (zX1_runFrom_8 l G H.size b a g0 L0 hI 0 (by decide)) (kR rfl) hP hD hS 8 1 rfl (zat (by decide) xs_8) rfl hl.1 rfl (Nat.le_of_ble_eq_true rfl) dX9_gather_5 (fun u3 H locs hw1 hP hD hS => ?_)
  obtain ⟨g, L⟩ := u3
  obtain ⟨hI, h0n⟩ := hw1
  have h0c : g 0 = g0 0 := h0n.trans h0c
  have hI : zI XT g := hI
  have hP : va_P G.1 vwCl (zw G (XS b) 105 a g L) H := hP
  have hD : va_D A (zw G (XS b) 105 a g L) := hD
  refine lv_aload_n hx hb dX9_gather_8 rfl (lv_at hl 0 rfl) ?_
  refine lv_iconst (v := 0) hx hb dX9_gather_9 (by decide) ?_
  refine x_puti (hI.upd rfl (by decide) (by decide)) (Or.inl fl_X9_35) ft_X9_5 C hP hD hS (by decide) xs_12 rfl rfl rfl dX9_gather_10 (fun g H locs eg hI hP hD hS => ?_)
  have h0c : g 0 = g0 0 := by rw [eg]; exact h0c
  refine lv_iconst (v := 0) hx hb dX9_gather_13 (by decide) ?_
  refine lv_istore_n (lv' := [(1, .int 0), (0, .ref (a 12))]) hx hb dX9_gather_14 rfl hl (by decide) rfl (fun ls hl => ?_)
  have lp3060 : ∀ fu : Nat, ∀ (x3058 : Int32) (g : Nat → Nat → Int32) (L : Nat → Nat → Int64) (H : Heap) (locs : List Loc) (ls : Array Slot), (0 ≤ x3058.toInt ∧ x3058.toInt ≤ 12) → zI XT g → g 0 = g0 0 → va_P G.1 vwCl (zw G (XS b) 105 a g L) H → va_D A (zw G (XS b) 105 a g L) → va_S A s.heap H locs → lv_has ls 5 [(0, .ref (a 12)), (1, .int x3058)] → 12 - x3058.toInt < (fu : Int) → W p l e { frames := 11, cells := 0, slots := 0, locals := 225 } s m [.ref (a 12)].toArray below meth c H locs 0 0 (MQ below ((kQv G (S := zS) (fun u => zI XT u.1 ∧ u.1 0 = g0 0) (fun u => zw G (XS b) 105 a u.1 u.2)) A) [.ref (a 12)].toArray s 0 0 A) (F0 m 15 ls []) := by
    intro fu
    induction fu with
    | zero => intro x3058 g L H locs ls b3059 hI h0c hP hD hS hl hm; exact absurd hm (by omega)
    | succ fu ih =>
      intro x3058 g L H locs ls b3059 hI h0c hP hD hS hl hm
      have ih3061 := ih
      refine lv_iload_n hx hb dX9_gather_15 rfl (lv_at hl 1 rfl) ?_
      refine lv_aload_n hx hb dX9_gather_16 rfl (lv_at hl 0 rfl) ?_
      refine x_getr (Or.inl fl_X9_25) C hP (by decide) xs_12 rfl dX9_gather_17 ?_
      refine x_getr (Or.inr fl_X9_39) C hP (by decide) xs_8 rfl dX9_gather_20 ?_
      refine x_getT hI rfl (Or.inr fl_X9_43) C hP (by decide) xs_1 rfl dX9_gather_23 (fun x3062 e3063 b3064 => ?_)
      refine lv_icmp_ge (x := x3058) (y := x3062) (tgt := 99) hx hb dX9_gather_26 (by decide) (fun c3065 => ?_) (fun c3065 => ?_)
      ·
        have c3065 := icc_le (m := x3062.toInt) (n := x3058.toInt) rfl rfl c3065
        exact x_vret C hr hlk hP hD hS (g, L) rfl ⟨hI, h0c⟩ (Nat.le_of_ble_eq_true rfl) (Nat.le_of_ble_eq_true rfl) dX9_gather_99
      ·
        have c3065 := icc_nle (m := x3062.toInt) (n := x3058.toInt) rfl rfl c3065
        refine lv_aload_n hx hb dX9_gather_29 rfl (lv_at hl 0 rfl) ?_
        refine x_getr (Or.inl fl_X9_25) C hP (by decide) xs_12 rfl dX9_gather_30 ?_
        refine x_getr (Or.inr fl_X9_39) C hP (by decide) xs_8 rfl dX9_gather_33 ?_
        refine x_getr (Or.inr fl_X9_48) C hP (by decide) xs_1 rfl dX9_gather_36 ?_
        refine lv_iload_n hx hb dX9_gather_39 rfl (lv_at hl 1 rfl) ?_
        refine x_aaldQ (t := 57) C hP (by decide) xs_17 (by omega) (by omega) dX9_gather_40 (fun q3066 q3066l q3066h => ?_)
        refine lv_astore_n (lv' := [(2, .ref (a q3066)), (0, .ref (a 12)), (1, .int x3058)]) hx hb dX9_gather_41 rfl hl (by decide) rfl (fun ls hl => ?_)
        refine lv_iconst (v := 0) hx hb dX9_gather_42 (by decide) ?_
        refine lv_istore_n (lv' := [(3, .int 0), (2, .ref (a q3066)), (0, .ref (a 12)), (1, .int x3058)]) hx hb dX9_gather_43 rfl hl (by decide) rfl (fun ls hl => ?_)
        have lp3329 : ∀ fu : Nat, ∀ (x3327 : Int32) (g : Nat → Nat → Int32) (L : Nat → Nat → Int64) (H : Heap) (locs : List Loc) (ls : Array Slot), (0 ≤ x3327.toInt ∧ x3327.toInt ≤ 6) → zI XT g → g 0 = g0 0 → va_P G.1 vwCl (zw G (XS b) 105 a g L) H → va_D A (zw G (XS b) 105 a g L) → va_S A s.heap H locs → lv_has ls 5 [(0, .ref (a 12)), (1, .int x3058), (2, .ref (a q3066)), (3, .int x3327)] → 6 - x3327.toInt < (fu : Int) → W p l e { frames := 11, cells := 0, slots := 0, locals := 225 } s m [.ref (a 12)].toArray below meth c H locs 0 0 (MQ below ((kQv G (S := zS) (fun u => zI XT u.1 ∧ u.1 0 = g0 0) (fun u => zw G (XS b) 105 a u.1 u.2)) A) [.ref (a 12)].toArray s 0 0 A) (F0 m 44 ls []) := by
          intro fu
          induction fu with
          | zero => intro x3327 g L H locs ls b3328 hI h0c hP hD hS hl hm; exact absurd hm (by omega)
          | succ fu ih =>
            intro x3327 g L H locs ls b3328 hI h0c hP hD hS hl hm
            have ih3330 := ih
            refine lv_iload_n hx hb dX9_gather_44 rfl (lv_at hl 3 rfl) ?_
            refine lv_aload_n hx hb dX9_gather_45 rfl (lv_at hl 2 rfl) ?_
            refine x_getT hI (xt_les (by omega) (by omega)) (Or.inr fl_X9_52) C hP (by omega) (xs_les (by omega) (by omega)) rfl dX9_gather_46 (fun x3331 e3332 b3333 => ?_)
            refine lv_icmp_ge (x := x3327) (y := x3331) (tgt := 93) hx hb dX9_gather_49 (by decide) (fun c3334 => ?_) (fun c3334 => ?_)
            ·
              have c3334 := icc_le (m := x3331.toInt) (n := x3327.toInt) rfl rfl c3334
              obtain ⟨x3335, e3336q, e3336⟩ : ∃ z : Int32, x3058 + Int32.ofInt (1) = z ∧ z.toInt = x3058.toInt + (1) := ⟨_, rfl, ic_addc rfl (by decide) (by omega) (by omega)⟩
              refine lv_iinc (v := x3335) (lv' := [(1, .int x3335), (0, .ref (a 12)), (2, .ref (a q3066)), (3, .int x3327)]) hx hb dX9_gather_93 hl (k := 1) rfl e3336q (by decide) rfl (fun ls hl => ?_)
              refine lv_goto (tgt := 15) hx hb dX9_gather_96 (by decide) ?_
              exact ih3061 x3335 g L H locs ls (by omega) hI h0c hP hD hS (lv_sub hl [1, 0] rfl) (by omega)
            ·
              have c3334 := icc_nle (m := x3331.toInt) (n := x3327.toInt) rfl rfl c3334
              refine lv_aload_n hx hb dX9_gather_52 rfl (lv_at hl 2 rfl) ?_
              refine x_getr (Or.inr fl_X9_57) C hP (by omega) (xs_les (by omega) (by omega)) rfl dX9_gather_53 ?_
              refine lv_iload_n hx hb dX9_gather_56 rfl (lv_at hl 3 rfl) ?_
              refine x_aldT hI (xt_wai (by omega)) C hP (by omega) (xs_wai (by omega)) (by omega) (by omega) dX9_gather_57 (fun x3337 e3338 b3339 => ?_)
              refine lv_istore (lv' := [(4, .int x3337), (0, .ref (a 12)), (1, .int x3058), (2, .ref (a q3066)), (3, .int x3327)]) hx hb dX9_gather_58 hl (by decide) rfl (fun ls hl => ?_)
              refine lv_aload_n hx hb dX9_gather_60 rfl (lv_at hl 1 rfl) ?_
              refine x_getr (Or.inl fl_X9_25) C hP (by decide) xs_12 rfl dX9_gather_61 ?_
              refine lv_iload hx hb dX9_gather_64 (lv_at hl 0 rfl) ?_
              refine x_callNi (rest := []) li_X9_60 C (zX1_isUpstairs_8 l G H.size b a g L hI x3337 (by omega)) (kR rfl) hP hD hS 8 1 rfl (zat (by decide) xs_8) rfl hl.1 rfl (Nat.le_of_ble_eq_true rfl) dX9_gather_66 (fun x3341 u3342 H locs hw3340 hP hD hS => ?_)
              obtain ⟨g, L⟩ := u3342
              obtain ⟨hI, h0n, b3343, kk0⟩ := hw3340
              have h0c : g 0 = g0 0 := h0n.trans h0c
              have hI : zI XT g := hI
              have hP : va_P G.1 vwCl (zw G (XS b) 105 a g L) H := hP
              have hD : va_D A (zw G (XS b) 105 a g L) := hD
              refine lv_aload_n hx hb dX9_gather_69 rfl (lv_at hl 1 rfl) ?_
              refine x_getr (Or.inl fl_X9_25) C hP (by decide) xs_12 rfl dX9_gather_70 ?_
              refine lv_iload_n hx hb dX9_gather_73 rfl (lv_at hl 2 rfl) ?_
              refine x_callNi (rest := [.int x3341]) li_X9_60 C (zX1_isUpstairs_8 l G H.size b a g L hI x3058 (by omega)) (kR rfl) hP hD hS 8 1 rfl (zat (by decide) xs_8) rfl hl.1 rfl (Nat.le_of_ble_eq_true rfl) dX9_gather_74 (fun x3346 u3347 H locs hw3345 hP hD hS => ?_)
              obtain ⟨g, L⟩ := u3347
              obtain ⟨hI, h0n, b3348, kk0⟩ := hw3345
              have h0c : g 0 = g0 0 := h0n.trans h0c
              have hI : zI XT g := hI
              have hP : va_P G.1 vwCl (zw G (XS b) 105 a g L) H := hP
              have hD : va_D A (zw G (XS b) 105 a g L) := hD
              have J3358 : ∀ (g : Nat → Nat → Int32) (L : Nat → Nat → Int64) (H : Heap) (locs : List Loc) (ls : Array Slot), zI XT g → g 0 = g0 0 → va_P G.1 vwCl (zw G (XS b) 105 a g L) H → va_D A (zw G (XS b) 105 a g L) → va_S A s.heap H locs → lv_has ls 5 [(0, .ref (a 12)), (1, .int x3058), (2, .ref (a q3066)), (3, .int x3327)] → W p l e { frames := 11, cells := 0, slots := 0, locals := 225 } s m [.ref (a 12)].toArray below meth c H locs 0 0 (MQ below ((kQv G (S := zS) (fun u => zI XT u.1 ∧ u.1 0 = g0 0) (fun u => zw G (XS b) 105 a u.1 u.2)) A) [.ref (a 12)].toArray s 0 0 A) (F0 m 87 ls []) := by
                intro g L H locs ls hI h0c hP hD hS hl
                obtain ⟨x3359, e3360q, e3360⟩ : ∃ z : Int32, x3327 + Int32.ofInt (1) = z ∧ z.toInt = x3327.toInt + (1) := ⟨_, rfl, ic_addc rfl (by decide) (by omega) (by omega)⟩
                refine lv_iinc (v := x3359) (lv' := [(3, .int x3359), (0, .ref (a 12)), (1, .int x3058), (2, .ref (a q3066))]) hx hb dX9_gather_87 hl (k := 3) rfl e3360q (by decide) rfl (fun ls hl => ?_)
                refine lv_goto (tgt := 44) hx hb dX9_gather_90 (by decide) ?_
                exact ih3330 x3359 g L H locs ls (by omega) hI h0c hP hD hS (lv_sub hl [1, 2, 3, 0] rfl) (by omega)
              refine lv_icmp_eq (x := x3341) (y := x3346) (tgt := 87) hx hb dX9_gather_77 (by decide) (fun c3361 => ?_) (fun c3361 => ?_)
              ·
                have c3361 := icc_eq (m := x3341.toInt) (n := x3346.toInt) rfl rfl c3361
                exact J3358 g L H locs ls hI h0c hP hD hS (lv_sub hl [1, 2, 3, 4] rfl)
              ·
                have c3361 := icc_neq (m := x3341.toInt) (n := x3346.toInt) rfl rfl c3361
                refine lv_aload_n hx hb dX9_gather_80 rfl (lv_at hl 1 rfl) ?_
                refine lv_iload hx hb dX9_gather_81 (lv_at hl 0 rfl) ?_
                refine lv_iload_n hx hb dX9_gather_83 rfl (lv_at hl 2 rfl) ?_
                refine x_callVv (rest := []) li_X9_64 C (zX9_addWay_12 l G H.size b a g L hI x3337 x3058 (by omega) (by omega)) (kR rfl) hP hD hS 12 9 rfl (zat (by decide) xs_12) rfl hl.1 rfl (Nat.le_of_ble_eq_true rfl) dX9_gather_84 (fun u3364 H locs hw3362 hP hD hS => ?_)
                obtain ⟨g, L⟩ := u3364
                obtain ⟨hI, h0n⟩ := hw3362
                have h0c : g 0 = g0 0 := h0n.trans h0c
                have hI : zI XT g := hI
                have hP : va_P G.1 vwCl (zw G (XS b) 105 a g L) H := hP
                have hD : va_D A (zw G (XS b) 105 a g L) := hD
                exact J3358 g L H locs ls hI h0c hP hD hS (lv_sub hl [1, 2, 3, 4] rfl)
        have hc_ : (0 : Int32).toInt = 0 := by decide
        exact lp3329 8 0 g L H locs ls (by decide) hI h0c hP hD hS (lv_sub hl [2, 3, 1, 0] rfl) (by omega)
  have hc_ : (0 : Int32).toInt = 0 := by decide
  exact lp3060 14 0 g L H locs ls (by decide) hI h0c hP hD hS (lv_sub hl [1, 0] rfl) (by omega)
set_option maxHeartbeats 4000000 in
set_option maxRecDepth 100000 in
theorem zX9_crossings_12 (l : Launch) (G : kG) (sz : Nat) (b : Nat) (a : Nat → Nat) (g0 : Nat → Nat → Int32) (L0 : Nat → Nat → Int64) (hI : zI XT g0) : kM l yX9_crossings cX9_crossings 5 (some .int) { frames := 6, cells := 0, slots := 0, locals := 110 } G [.ref (a 12)] (zw G (XS b) 105 a g0 L0) sz (kQi G (S := zS) (fun r u => zI XT u.1 ∧ u.1 0 = g0 0) (fun u => zw G (XS b) 105 a u.1 u.2)) := by
  refine kM.of (by decide) (Nat.le_of_ble_eq_true rfl) ?_
  intro p e s m below meth c A ls H C hr hlk hnm hP hD hS hl
  have C : kC G p s m c cX9_crossings 5 RX9 A := C
  have hx := C.1
  have hb := C.2.1
  have hl : lv_has ls 5 [(0, .ref (a 12))] := hl
  have h0c : g0 0 = g0 0 := rfl
  obtain ⟨locs, hlocs⟩ : ∃ q : List Loc, q = [] := ⟨_, rfl⟩
  rw [← hlocs] at hS
  rw [← hlocs]
  refine lv_iconst (v := 0) hx hb dX9_crossings_0 (by decide) ?_
  refine lv_istore_n (lv' := [(1, .int 0), (0, .ref (a 12))]) hx hb dX9_crossings_1 rfl hl (by decide) rfl (fun ls hl => ?_)
  refine lv_iconst (v := 0) hx hb dX9_crossings_2 (by decide) ?_
  refine lv_istore_n (lv' := [(2, .int 0), (1, .int 0), (0, .ref (a 12))]) hx hb dX9_crossings_3 rfl hl (by decide) rfl (fun ls hl => ?_)
  have lp8521 : ∀ fu : Nat, ∀ (x8518 : Int32) (x8519 : Int32) (g : Nat → Nat → Int32) (L : Nat → Nat → Int64) (H : Heap) (locs : List Loc) (ls : Array Slot), (0 ≤ x8519.toInt ∧ x8519.toInt ≤ 72) → zI XT g → g 0 = g0 0 → va_P G.1 vwCl (zw G (XS b) 105 a g L) H → va_D A (zw G (XS b) 105 a g L) → va_S A s.heap H locs → lv_has ls 5 [(0, .ref (a 12)), (1, .int x8518), (2, .int x8519)] → 72 - x8519.toInt < (fu : Int) → W p l e { frames := 6, cells := 0, slots := 0, locals := 110 } s m [.ref (a 12)].toArray below meth c H locs 0 0 (MQ below ((kQi G (S := zS) (fun r u => zI XT u.1 ∧ u.1 0 = g0 0) (fun u => zw G (XS b) 105 a u.1 u.2)) A) [.ref (a 12)].toArray s 0 0 A) (F0 m 4 ls []) := by
    intro fu
    induction fu with
    | zero => intro x8518 x8519 g L H locs ls b8520 hI h0c hP hD hS hl hm; exact absurd hm (by omega)
    | succ fu ih =>
      intro x8518 x8519 g L H locs ls b8520 hI h0c hP hD hS hl hm
      have ih8522 := ih
      refine lv_iload_n hx hb dX9_crossings_4 rfl (lv_at hl 2 rfl) ?_
      refine lv_aload_n hx hb dX9_crossings_5 rfl (lv_at hl 0 rfl) ?_
      refine x_getT hI rfl (Or.inl fl_X9_35) C hP (by decide) xs_12 rfl dX9_crossings_6 (fun x8523 e8524 b8525 => ?_)
      refine lv_icmp_ge (x := x8519) (y := x8523) (tgt := 104) hx hb dX9_crossings_9 (by decide) (fun c8526 => ?_) (fun c8526 => ?_)
      ·
        have c8526 := icc_le (m := x8523.toInt) (n := x8519.toInt) rfl rfl c8526
        refine lv_iload_n hx hb dX9_crossings_104 rfl (lv_at hl 1 rfl) ?_
        exact x_iret C hr hlk hP hD hS (g, L) rfl ⟨hI, h0c⟩ (Nat.le_of_ble_eq_true rfl) (Nat.le_of_ble_eq_true rfl) dX9_crossings_105
      ·
        have c8526 := icc_nle (m := x8523.toInt) (n := x8519.toInt) rfl rfl c8526
        refine lv_iload_n hx hb dX9_crossings_12 rfl (lv_at hl 2 rfl) ?_
        refine lv_iconst (v := 1) hx hb dX9_crossings_13 (by decide) ?_
        refine lv_iadd hx hb dX9_crossings_14 ?_
        refine x_val (ic_addc (m := x8519.toInt) (n := 1) rfl (by decide) (by omega) (by omega)) (fun x8527 e8528 => ?_)
        refine lv_istore_n (lv' := [(3, .int x8527), (0, .ref (a 12)), (1, .int x8518), (2, .int x8519)]) hx hb dX9_crossings_15 rfl hl (by decide) rfl (fun ls hl => ?_)
        have lp8781 : ∀ fu : Nat, ∀ (x8778 : Int32) (x8779 : Int32) (g : Nat → Nat → Int32) (L : Nat → Nat → Int64) (H : Heap) (locs : List Loc) (ls : Array Slot), (1 ≤ x8779.toInt ∧ x8779.toInt ≤ 72) → zI XT g → g 0 = g0 0 → va_P G.1 vwCl (zw G (XS b) 105 a g L) H → va_D A (zw G (XS b) 105 a g L) → va_S A s.heap H locs → lv_has ls 5 [(0, .ref (a 12)), (1, .int x8778), (2, .int x8519), (3, .int x8779)] → 72 - x8779.toInt < (fu : Int) → W p l e { frames := 6, cells := 0, slots := 0, locals := 110 } s m [.ref (a 12)].toArray below meth c H locs 0 0 (MQ below ((kQi G (S := zS) (fun r u => zI XT u.1 ∧ u.1 0 = g0 0) (fun u => zw G (XS b) 105 a u.1 u.2)) A) [.ref (a 12)].toArray s 0 0 A) (F0 m 16 ls []) := by
          intro fu
          induction fu with
          | zero => intro x8778 x8779 g L H locs ls b8780 hI h0c hP hD hS hl hm; exact absurd hm (by omega)
          | succ fu ih =>
            intro x8778 x8779 g L H locs ls b8780 hI h0c hP hD hS hl hm
            have ih8782 := ih
            refine lv_iload_n hx hb dX9_crossings_16 rfl (lv_at hl 3 rfl) ?_
            refine lv_aload_n hx hb dX9_crossings_17 rfl (lv_at hl 0 rfl) ?_
            refine x_getT hI rfl (Or.inl fl_X9_35) C hP (by decide) xs_12 rfl dX9_crossings_18 (fun x8783 e8784 b8785 => ?_)
            refine lv_icmp_ge (x := x8779) (y := x8783) (tgt := 98) hx hb dX9_crossings_21 (by decide) (fun c8786 => ?_) (fun c8786 => ?_)
            ·
              have c8786 := icc_le (m := x8783.toInt) (n := x8779.toInt) rfl rfl c8786
              obtain ⟨x8787, e8788q, e8788⟩ : ∃ z : Int32, x8519 + Int32.ofInt (1) = z ∧ z.toInt = x8519.toInt + (1) := ⟨_, rfl, ic_addc rfl (by decide) (by omega) (by omega)⟩
              refine lv_iinc (v := x8787) (lv' := [(2, .int x8787), (0, .ref (a 12)), (1, .int x8778), (3, .int x8779)]) hx hb dX9_crossings_98 hl (k := 2) rfl e8788q (by decide) rfl (fun ls hl => ?_)
              refine lv_goto (tgt := 4) hx hb dX9_crossings_101 (by decide) ?_
              exact ih8522 x8778 x8787 g L H locs ls (by omega) hI h0c hP hD hS (lv_sub hl [1, 2, 0] rfl) (by omega)
            ·
              have c8786 := icc_nle (m := x8783.toInt) (n := x8779.toInt) rfl rfl c8786
              refine lv_aload_n hx hb dX9_crossings_24 rfl (lv_at hl 0 rfl) ?_
              refine x_getr (Or.inl fl_X9_9) C hP (by decide) xs_12 rfl dX9_crossings_25 ?_
              refine lv_iload_n hx hb dX9_crossings_28 rfl (lv_at hl 2 rfl) ?_
              refine x_ald C hP (by decide) xs_53 (by omega) (by omega) dX9_crossings_29 (fun x8789 e8790 => ?_)
              refine lv_aload_n hx hb dX9_crossings_30 rfl (lv_at hl 0 rfl) ?_
              refine x_getr (Or.inl fl_X9_9) C hP (by decide) xs_12 rfl dX9_crossings_31 ?_
              refine lv_iload_n hx hb dX9_crossings_34 rfl (lv_at hl 3 rfl) ?_
              refine x_ald C hP (by decide) xs_53 (by omega) (by omega) dX9_crossings_35 (fun x8791 e8792 => ?_)
              refine k_max lm_X9_75 C hl.1 (Nat.le_of_ble_eq_true rfl) (Nat.le_of_ble_eq_true rfl) (Nat.le_of_ble_eq_true rfl) (Nat.le_of_ble_eq_true rfl) dX9_crossings_36 ?_
              refine x_max (mm := x8789.toInt) (nn := x8791.toInt) rfl rfl (fun x8793 e8794 => ?_)
              refine lv_aload_n hx hb dX9_crossings_39 rfl (lv_at hl 0 rfl) ?_
              refine x_getr (Or.inl fl_X9_15) C hP (by decide) xs_12 rfl dX9_crossings_40 ?_
              refine lv_iload_n hx hb dX9_crossings_43 rfl (lv_at hl 2 rfl) ?_
              refine x_ald C hP (by decide) xs_54 (by omega) (by omega) dX9_crossings_44 (fun x8795 e8796 => ?_)
              refine lv_aload_n hx hb dX9_crossings_45 rfl (lv_at hl 0 rfl) ?_
              refine x_getr (Or.inl fl_X9_15) C hP (by decide) xs_12 rfl dX9_crossings_46 ?_
              refine lv_iload_n hx hb dX9_crossings_49 rfl (lv_at hl 3 rfl) ?_
              refine x_ald C hP (by decide) xs_54 (by omega) (by omega) dX9_crossings_50 (fun x8797 e8798 => ?_)
              refine k_min lm_X9_80 C hl.1 (Nat.le_of_ble_eq_true rfl) (Nat.le_of_ble_eq_true rfl) (Nat.le_of_ble_eq_true rfl) (Nat.le_of_ble_eq_true rfl) dX9_crossings_51 ?_
              refine x_min (mm := x8795.toInt) (nn := x8797.toInt) rfl rfl (fun x8799 e8800 => ?_)
              have J8832 : ∀ (x8833 : Int32) (g : Nat → Nat → Int32) (L : Nat → Nat → Int64) (H : Heap) (locs : List Loc) (ls : Array Slot), (0 ≤ x8833.toInt ∧ x8833.toInt ≤ 1) → zI XT g → g 0 = g0 0 → va_P G.1 vwCl (zw G (XS b) 105 a g L) H → va_D A (zw G (XS b) 105 a g L) → va_S A s.heap H locs → lv_has ls 5 [(0, .ref (a 12)), (1, .int x8778), (2, .int x8519), (3, .int x8779)] → W p l e { frames := 6, cells := 0, slots := 0, locals := 110 } s m [.ref (a 12)].toArray below meth c H locs 0 0 (MQ below ((kQi G (S := zS) (fun r u => zI XT u.1 ∧ u.1 0 = g0 0) (fun u => zw G (XS b) 105 a u.1 u.2)) A) [.ref (a 12)].toArray s 0 0 A) (F0 m 62 ls [.int x8833]) := by
                intro x8833 g L H locs ls b8834 hI h0c hP hD hS hl
                refine lv_istore (lv' := [(4, .int x8833), (0, .ref (a 12)), (1, .int x8778), (2, .int x8519), (3, .int x8779)]) hx hb dX9_crossings_62 hl (by decide) rfl (fun ls hl => ?_)
                refine lv_iload_n hx hb dX9_crossings_64 rfl (lv_at hl 2 rfl) ?_
                refine lv_iload hx hb dX9_crossings_65 (lv_at hl 0 rfl) ?_
                have J8848 : ∀ (x8849 : Int32) (g : Nat → Nat → Int32) (L : Nat → Nat → Int64) (H : Heap) (locs : List Loc) (ls : Array Slot), (0 ≤ x8849.toInt ∧ x8849.toInt ≤ 1) → zI XT g → g 0 = g0 0 → va_P G.1 vwCl (zw G (XS b) 105 a g L) H → va_D A (zw G (XS b) 105 a g L) → va_S A s.heap H locs → lv_has ls 5 [(0, .ref (a 12)), (2, .int x8519), (3, .int x8779)] → W p l e { frames := 6, cells := 0, slots := 0, locals := 110 } s m [.ref (a 12)].toArray below meth c H locs 0 0 (MQ below ((kQi G (S := zS) (fun r u => zI XT u.1 ∧ u.1 0 = g0 0) (fun u => zw G (XS b) 105 a u.1 u.2)) A) [.ref (a 12)].toArray s 0 0 A) (F0 m 90 ls [.int x8849, .int x8778]) := by
                  intro x8849 g L H locs ls b8850 hI h0c hP hD hS hl
                  refine lv_iadd hx hb dX9_crossings_90 ?_
                  refine x_any (fun x8851 => ?_)
                  refine lv_istore_n (lv' := [(1, .int x8851), (0, .ref (a 12)), (2, .int x8519), (3, .int x8779)]) hx hb dX9_crossings_91 rfl hl (by decide) rfl (fun ls hl => ?_)
                  obtain ⟨x8852, e8853q, e8853⟩ : ∃ z : Int32, x8779 + Int32.ofInt (1) = z ∧ z.toInt = x8779.toInt + (1) := ⟨_, rfl, ic_addc rfl (by decide) (by omega) (by omega)⟩
                  refine lv_iinc (v := x8852) (lv' := [(3, .int x8852), (1, .int x8851), (0, .ref (a 12)), (2, .int x8519)]) hx hb dX9_crossings_92 hl (k := 3) rfl e8853q (by decide) rfl (fun ls hl => ?_)
                  refine lv_goto (tgt := 16) hx hb dX9_crossings_95 (by decide) ?_
                  exact ih8782 x8851 x8852 g L H locs ls (by omega) hI h0c hP hD hS (lv_sub hl [2, 1, 3, 0] rfl) (by omega)
                have J8854 : ∀ (g : Nat → Nat → Int32) (L : Nat → Nat → Int64) (H : Heap) (locs : List Loc) (ls : Array Slot), zI XT g → g 0 = g0 0 → va_P G.1 vwCl (zw G (XS b) 105 a g L) H → va_D A (zw G (XS b) 105 a g L) → va_S A s.heap H locs → lv_has ls 5 [(0, .ref (a 12)), (2, .int x8519), (3, .int x8779)] → W p l e { frames := 6, cells := 0, slots := 0, locals := 110 } s m [.ref (a 12)].toArray below meth c H locs 0 0 (MQ below ((kQi G (S := zS) (fun r u => zI XT u.1 ∧ u.1 0 = g0 0) (fun u => zw G (XS b) 105 a u.1 u.2)) A) [.ref (a 12)].toArray s 0 0 A) (F0 m 89 ls [.int x8778]) := by
                  intro g L H locs ls hI h0c hP hD hS hl
                  refine lv_iconst (v := 0) hx hb dX9_crossings_89 (by decide) ?_
                  exact J8848 0 g L H locs ls (by decide) hI h0c hP hD hS (lv_sub hl [0, 1, 2] rfl)
                refine lv_if_eq (x := x8833) (tgt := 89) hx hb dX9_crossings_67 (by decide) (fun c8855 => ?_) (fun c8855 => ?_)
                ·
                  have c8855 := icc_eq (m := x8833.toInt) (n := 0) rfl (by decide) c8855
                  exact J8854 g L H locs ls hI h0c hP hD hS (lv_sub hl [1, 3, 4] rfl)
                ·
                  have c8855 := icc_neq (m := x8833.toInt) (n := 0) rfl (by decide) c8855
                  refine lv_aload_n hx hb dX9_crossings_70 rfl (lv_at hl 1 rfl) ?_
                  refine x_getr (Or.inl fl_X9_21) C hP (by decide) xs_12 rfl dX9_crossings_71 ?_
                  refine lv_iload_n hx hb dX9_crossings_74 rfl (lv_at hl 3 rfl) ?_
                  refine x_zaldT hI rfl C hP (by decide) xs_56 (by omega) (by omega) dX9_crossings_75 (fun x8856 e8857 b8858 => ?_)
                  refine lv_aload_n hx hb dX9_crossings_76 rfl (lv_at hl 1 rfl) ?_
                  refine x_getr (Or.inl fl_X9_21) C hP (by decide) xs_12 rfl dX9_crossings_77 ?_
                  refine lv_iload_n hx hb dX9_crossings_80 rfl (lv_at hl 4 rfl) ?_
                  refine x_zaldT hI rfl C hP (by decide) xs_56 (by omega) (by omega) dX9_crossings_81 (fun x8859 e8860 b8861 => ?_)
                  refine lv_icmp_eq (x := x8856) (y := x8859) (tgt := 89) hx hb dX9_crossings_82 (by decide) (fun c8862 => ?_) (fun c8862 => ?_)
                  ·
                    have c8862 := icc_eq (m := x8856.toInt) (n := x8859.toInt) rfl rfl c8862
                    exact J8854 g L H locs ls hI h0c hP hD hS (lv_sub hl [1, 3, 4] rfl)
                  ·
                    have c8862 := icc_neq (m := x8856.toInt) (n := x8859.toInt) rfl rfl c8862
                    refine lv_iconst (v := 1) hx hb dX9_crossings_85 (by decide) ?_
                    refine lv_goto (tgt := 90) hx hb dX9_crossings_86 (by decide) ?_
                    exact J8848 1 g L H locs ls (by decide) hI h0c hP hD hS (lv_sub hl [1, 3, 4] rfl)
              refine lv_icmp_ge (x := x8793) (y := x8799) (tgt := 61) hx hb dX9_crossings_54 (by decide) (fun c8863 => ?_) (fun c8863 => ?_)
              ·
                have c8863 := icc_le (m := x8799.toInt) (n := x8793.toInt) rfl rfl c8863
                refine lv_iconst (v := 0) hx hb dX9_crossings_61 (by decide) ?_
                exact J8832 0 g L H locs ls (by decide) hI h0c hP hD hS (lv_sub hl [0, 1, 2, 3] rfl)
              ·
                have c8863 := icc_nle (m := x8799.toInt) (n := x8793.toInt) rfl rfl c8863
                refine lv_iconst (v := 1) hx hb dX9_crossings_57 (by decide) ?_
                refine lv_goto (tgt := 62) hx hb dX9_crossings_58 (by decide) ?_
                exact J8832 1 g L H locs ls (by decide) hI h0c hP hD hS (lv_sub hl [0, 1, 2, 3] rfl)
        exact lp8781 73 x8518 x8527 g L H locs ls (by omega) hI h0c hP hD hS (lv_sub hl [1, 2, 3, 0] rfl) (by omega)
  have hc_ : (0 : Int32).toInt = 0 := by decide
  exact lp8521 74 0 0 g0 L0 H locs ls (by decide) hI h0c hP hD hS (lv_sub hl [2, 1, 0] rfl) (by omega)
set_option maxHeartbeats 4000000 in
set_option maxRecDepth 100000 in
theorem zX9_peopleIn_12 (l : Launch) (G : kG) (sz : Nat) (b : Nat) (a : Nat → Nat) (g0 : Nat → Nat → Int32) (L0 : Nat → Nat → Int64) (hI : zI XT g0) (p1 : Int32) : kM l yX9_peopleIn cX9_peopleIn 4 (some .int) { frames := 6, cells := 0, slots := 0, locals := 110 } G [.ref (a 12), .int p1] (zw G (XS b) 105 a g0 L0) sz (kQi G (S := zS) (fun r u => zI XT u.1 ∧ u.1 0 = g0 0) (fun u => zw G (XS b) 105 a u.1 u.2)) := by
  refine kM.of (by decide) (Nat.le_of_ble_eq_true rfl) ?_
  intro p e s m below meth c A ls H C hr hlk hnm hP hD hS hl
  have C : kC G p s m c cX9_peopleIn 4 RX9 A := C
  have hx := C.1
  have hb := C.2.1
  have hl : lv_has ls 4 [(0, .ref (a 12)), (1, .int p1)] := hl
  have h0c : g0 0 = g0 0 := rfl
  obtain ⟨locs, hlocs⟩ : ∃ q : List Loc, q = [] := ⟨_, rfl⟩
  rw [← hlocs] at hS
  rw [← hlocs]
  refine lv_iconst (v := 0) hx hb dX9_peopleIn_0 (by decide) ?_
  refine lv_istore_n (lv' := [(2, .int 0), (0, .ref (a 12)), (1, .int p1)]) hx hb dX9_peopleIn_1 rfl hl (by decide) rfl (fun ls hl => ?_)
  refine lv_iconst (v := 0) hx hb dX9_peopleIn_2 (by decide) ?_
  refine lv_istore_n (lv' := [(3, .int 0), (2, .int 0), (0, .ref (a 12)), (1, .int p1)]) hx hb dX9_peopleIn_3 rfl hl (by decide) rfl (fun ls hl => ?_)
  have lp371 : ∀ fu : Nat, ∀ (x368 : Int32) (x369 : Int32) (g : Nat → Nat → Int32) (L : Nat → Nat → Int64) (H : Heap) (locs : List Loc) (ls : Array Slot), (0 ≤ x369.toInt ∧ x369.toInt ≤ 72) → zI XT g → g 0 = g0 0 → va_P G.1 vwCl (zw G (XS b) 105 a g L) H → va_D A (zw G (XS b) 105 a g L) → va_S A s.heap H locs → lv_has ls 4 [(0, .ref (a 12)), (1, .int p1), (2, .int x368), (3, .int x369)] → 72 - x369.toInt < (fu : Int) → W p l e { frames := 6, cells := 0, slots := 0, locals := 110 } s m [.ref (a 12), .int p1].toArray below meth c H locs 0 0 (MQ below ((kQi G (S := zS) (fun r u => zI XT u.1 ∧ u.1 0 = g0 0) (fun u => zw G (XS b) 105 a u.1 u.2)) A) [.ref (a 12), .int p1].toArray s 0 0 A) (F0 m 4 ls []) := by
    intro fu
    induction fu with
    | zero => intro x368 x369 g L H locs ls b370 hI h0c hP hD hS hl hm; exact absurd hm (by omega)
    | succ fu ih =>
      intro x368 x369 g L H locs ls b370 hI h0c hP hD hS hl hm
      have ih372 := ih
      refine lv_iload_n hx hb dX9_peopleIn_4 rfl (lv_at hl 3 rfl) ?_
      refine lv_aload_n hx hb dX9_peopleIn_5 rfl (lv_at hl 0 rfl) ?_
      refine x_getT hI rfl (Or.inl fl_X9_35) C hP (by decide) xs_12 rfl dX9_peopleIn_6 (fun x373 e374 b375 => ?_)
      refine lv_icmp_ge (x := x369) (y := x373) (tgt := 51) hx hb dX9_peopleIn_9 (by decide) (fun c376 => ?_) (fun c376 => ?_)
      ·
        have c376 := icc_le (m := x373.toInt) (n := x369.toInt) rfl rfl c376
        refine lv_iload_n hx hb dX9_peopleIn_51 rfl (lv_at hl 2 rfl) ?_
        exact x_iret C hr hlk hP hD hS (g, L) rfl ⟨hI, h0c⟩ (Nat.le_of_ble_eq_true rfl) (Nat.le_of_ble_eq_true rfl) dX9_peopleIn_52
      ·
        have c376 := icc_nle (m := x373.toInt) (n := x369.toInt) rfl rfl c376
        refine lv_iload_n hx hb dX9_peopleIn_12 rfl (lv_at hl 2 rfl) ?_
        refine lv_aload_n hx hb dX9_peopleIn_13 rfl (lv_at hl 0 rfl) ?_
        refine x_getr (Or.inl fl_X9_9) C hP (by decide) xs_12 rfl dX9_peopleIn_14 ?_
        refine lv_iload_n hx hb dX9_peopleIn_17 rfl (lv_at hl 3 rfl) ?_
        refine x_ald C hP (by decide) xs_53 (by omega) (by omega) dX9_peopleIn_18 (fun x377 e378 => ?_)
        refine lv_iload_n hx hb dX9_peopleIn_19 rfl (lv_at hl 1 rfl) ?_
        have J389 : ∀ (x390 : Int32) (g : Nat → Nat → Int32) (L : Nat → Nat → Int64) (H : Heap) (locs : List Loc) (ls : Array Slot), zI XT g → g 0 = g0 0 → va_P G.1 vwCl (zw G (XS b) 105 a g L) H → va_D A (zw G (XS b) 105 a g L) → va_S A s.heap H locs → lv_has ls 4 [(0, .ref (a 12)), (1, .int p1), (3, .int x369)] → W p l e { frames := 6, cells := 0, slots := 0, locals := 110 } s m [.ref (a 12), .int p1].toArray below meth c H locs 0 0 (MQ below ((kQi G (S := zS) (fun r u => zI XT u.1 ∧ u.1 0 = g0 0) (fun u => zw G (XS b) 105 a u.1 u.2)) A) [.ref (a 12), .int p1].toArray s 0 0 A) (F0 m 43 ls [.int x390, .int x368]) := by
          intro x390 g L H locs ls hI h0c hP hD hS hl
          refine lv_iadd hx hb dX9_peopleIn_43 ?_
          refine x_any (fun x391 => ?_)
          refine lv_istore_n (lv' := [(2, .int x391), (0, .ref (a 12)), (1, .int p1), (3, .int x369)]) hx hb dX9_peopleIn_44 rfl hl (by decide) rfl (fun ls hl => ?_)
          obtain ⟨x392, e393q, e393⟩ : ∃ z : Int32, x369 + Int32.ofInt (1) = z ∧ z.toInt = x369.toInt + (1) := ⟨_, rfl, ic_addc rfl (by decide) (by omega) (by omega)⟩
          refine lv_iinc (v := x392) (lv' := [(3, .int x392), (2, .int x391), (0, .ref (a 12)), (1, .int p1)]) hx hb dX9_peopleIn_45 hl (k := 3) rfl e393q (by decide) rfl (fun ls hl => ?_)
          refine lv_goto (tgt := 4) hx hb dX9_peopleIn_48 (by decide) ?_
          exact ih372 x391 x392 g L H locs ls (by omega) hI h0c hP hD hS (lv_sub hl [2, 3, 1, 0] rfl) (by omega)
        have J394 : ∀ (g : Nat → Nat → Int32) (L : Nat → Nat → Int64) (H : Heap) (locs : List Loc) (ls : Array Slot), zI XT g → g 0 = g0 0 → va_P G.1 vwCl (zw G (XS b) 105 a g L) H → va_D A (zw G (XS b) 105 a g L) → va_S A s.heap H locs → lv_has ls 4 [(0, .ref (a 12)), (1, .int p1), (3, .int x369)] → W p l e { frames := 6, cells := 0, slots := 0, locals := 110 } s m [.ref (a 12), .int p1].toArray below meth c H locs 0 0 (MQ below ((kQi G (S := zS) (fun r u => zI XT u.1 ∧ u.1 0 = g0 0) (fun u => zw G (XS b) 105 a u.1 u.2)) A) [.ref (a 12), .int p1].toArray s 0 0 A) (F0 m 42 ls [.int x368]) := by
          intro g L H locs ls hI h0c hP hD hS hl
          refine lv_iconst (v := 0) hx hb dX9_peopleIn_42 (by decide) ?_
          exact J389 0 g L H locs ls hI h0c hP hD hS (lv_sub hl [0, 1, 2] rfl)
        refine lv_icmp_gt (x := x377) (y := p1) (tgt := 42) hx hb dX9_peopleIn_20 (by decide) (fun c395 => ?_) (fun c395 => ?_)
        ·
          have c395 := icc_lt (m := p1.toInt) (n := x377.toInt) rfl rfl c395
          exact J394 g L H locs ls hI h0c hP hD hS (lv_sub hl [0, 1, 3] rfl)
        ·
          have c395 := icc_nlt (m := p1.toInt) (n := x377.toInt) rfl rfl c395
          refine lv_iload_n hx hb dX9_peopleIn_23 rfl (lv_at hl 1 rfl) ?_
          refine lv_aload_n hx hb dX9_peopleIn_24 rfl (lv_at hl 0 rfl) ?_
          refine x_getr (Or.inl fl_X9_15) C hP (by decide) xs_12 rfl dX9_peopleIn_25 ?_
          refine lv_iload_n hx hb dX9_peopleIn_28 rfl (lv_at hl 3 rfl) ?_
          refine x_ald C hP (by decide) xs_54 (by omega) (by omega) dX9_peopleIn_29 (fun x396 e397 => ?_)
          refine lv_icmp_ge (x := p1) (y := x396) (tgt := 42) hx hb dX9_peopleIn_30 (by decide) (fun c398 => ?_) (fun c398 => ?_)
          ·
            have c398 := icc_le (m := x396.toInt) (n := p1.toInt) rfl rfl c398
            exact J394 g L H locs ls hI h0c hP hD hS (lv_sub hl [0, 1, 3] rfl)
          ·
            have c398 := icc_nle (m := x396.toInt) (n := p1.toInt) rfl rfl c398
            refine lv_aload_n hx hb dX9_peopleIn_33 rfl (lv_at hl 0 rfl) ?_
            refine x_getr (Or.inl fl_X9_18) C hP (by decide) xs_12 rfl dX9_peopleIn_34 ?_
            refine lv_iload_n hx hb dX9_peopleIn_37 rfl (lv_at hl 3 rfl) ?_
            refine x_ald C hP (by decide) xs_55 (by omega) (by omega) dX9_peopleIn_38 (fun x399 e400 => ?_)
            refine lv_goto (tgt := 43) hx hb dX9_peopleIn_39 (by decide) ?_
            exact J389 x399 g L H locs ls hI h0c hP hD hS (lv_sub hl [0, 1, 3] rfl)
  have hc_ : (0 : Int32).toInt = 0 := by decide
  exact lp371 74 0 0 g0 L0 H locs ls (by decide) hI h0c hP hD hS (lv_sub hl [2, 3, 1, 0] rfl) (by omega)
set_option maxHeartbeats 4000000 in
set_option maxRecDepth 100000 in
theorem zX9_busiestMinute_12 (l : Launch) (G : kG) (sz : Nat) (b : Nat) (a : Nat → Nat) (g0 : Nat → Nat → Int32) (L0 : Nat → Nat → Int64) (hI : zI XT g0) : kM l yX9_busiestMinute cX9_busiestMinute 5 (some .int) { frames := 7, cells := 0, slots := 0, locals := 133 } G [.ref (a 12)] (zw G (XS b) 105 a g0 L0) sz (kQi G (S := zS) (fun r u => zI XT u.1 ∧ u.1 0 = g0 0) (fun u => zw G (XS b) 105 a u.1 u.2)) := by
  refine kM.of (by decide) (Nat.le_of_ble_eq_true rfl) ?_
  intro p e s m below meth c A ls H C hr hlk hnm hP hD hS hl
  have C : kC G p s m c cX9_busiestMinute 5 RX9 A := C
  have hx := C.1
  have hb := C.2.1
  have hl : lv_has ls 5 [(0, .ref (a 12))] := hl
  have h0c : g0 0 = g0 0 := rfl
  obtain ⟨locs, hlocs⟩ : ∃ q : List Loc, q = [] := ⟨_, rfl⟩
  rw [← hlocs] at hS
  rw [← hlocs]
  refine lv_iconst (v := -1) hx hb dX9_busiestMinute_0 (by decide) ?_
  refine lv_istore_n (lv' := [(1, .int (-1)), (0, .ref (a 12))]) hx hb dX9_busiestMinute_1 rfl hl (by decide) rfl (fun ls hl => ?_)
  refine lv_iconst (v := 0) hx hb dX9_busiestMinute_2 (by decide) ?_
  refine lv_istore_n (lv' := [(2, .int 0), (1, .int (-1)), (0, .ref (a 12))]) hx hb dX9_busiestMinute_3 rfl hl (by decide) rfl (fun ls hl => ?_)
  refine lv_iconst (v := 0) hx hb dX9_busiestMinute_4 (by decide) ?_
  refine lv_istore_n (lv' := [(3, .int 0), (2, .int 0), (1, .int (-1)), (0, .ref (a 12))]) hx hb dX9_busiestMinute_5 rfl hl (by decide) rfl (fun ls hl => ?_)
  have lp465 : ∀ fu : Nat, ∀ (x461 : Int32) (x462 : Int32) (x463 : Int32) (g : Nat → Nat → Int32) (L : Nat → Nat → Int64) (H : Heap) (locs : List Loc) (ls : Array Slot), (0 ≤ x463.toInt ∧ x463.toInt ≤ 72) → zI XT g → g 0 = g0 0 → va_P G.1 vwCl (zw G (XS b) 105 a g L) H → va_D A (zw G (XS b) 105 a g L) → va_S A s.heap H locs → lv_has ls 5 [(0, .ref (a 12)), (1, .int x461), (2, .int x462), (3, .int x463)] → 72 - x463.toInt < (fu : Int) → W p l e { frames := 7, cells := 0, slots := 0, locals := 133 } s m [.ref (a 12)].toArray below meth c H locs 0 0 (MQ below ((kQi G (S := zS) (fun r u => zI XT u.1 ∧ u.1 0 = g0 0) (fun u => zw G (XS b) 105 a u.1 u.2)) A) [.ref (a 12)].toArray s 0 0 A) (F0 m 6 ls []) := by
    intro fu
    induction fu with
    | zero => intro x461 x462 x463 g L H locs ls b464 hI h0c hP hD hS hl hm; exact absurd hm (by omega)
    | succ fu ih =>
      intro x461 x462 x463 g L H locs ls b464 hI h0c hP hD hS hl hm
      have ih466 := ih
      refine lv_iload_n hx hb dX9_busiestMinute_6 rfl (lv_at hl 3 rfl) ?_
      refine lv_aload_n hx hb dX9_busiestMinute_7 rfl (lv_at hl 0 rfl) ?_
      refine x_getT hI rfl (Or.inl fl_X9_35) C hP (by decide) xs_12 rfl dX9_busiestMinute_8 (fun x467 e468 b469 => ?_)
      refine lv_icmp_ge (x := x463) (y := x467) (tgt := 64) hx hb dX9_busiestMinute_11 (by decide) (fun c470 => ?_) (fun c470 => ?_)
      ·
        have c470 := icc_le (m := x467.toInt) (n := x463.toInt) rfl rfl c470
        refine lv_iload_n hx hb dX9_busiestMinute_64 rfl (lv_at hl 1 rfl) ?_
        exact x_iret C hr hlk hP hD hS (g, L) rfl ⟨hI, h0c⟩ (Nat.le_of_ble_eq_true rfl) (Nat.le_of_ble_eq_true rfl) dX9_busiestMinute_65
      ·
        have c470 := icc_nle (m := x467.toInt) (n := x463.toInt) rfl rfl c470
        refine lv_aload_n hx hb dX9_busiestMinute_14 rfl (lv_at hl 0 rfl) ?_
        refine lv_aload_n hx hb dX9_busiestMinute_15 rfl (lv_at hl 0 rfl) ?_
        refine x_getr (Or.inl fl_X9_9) C hP (by decide) xs_12 rfl dX9_busiestMinute_16 ?_
        refine lv_iload_n hx hb dX9_busiestMinute_19 rfl (lv_at hl 3 rfl) ?_
        refine x_ald C hP (by decide) xs_53 (by omega) (by omega) dX9_busiestMinute_20 (fun x471 e472 => ?_)
        refine x_callVi (rest := []) li_X9_83 C (zX9_peopleIn_12 l G H.size b a g L hI x471) (kR rfl) hP hD hS 12 9 rfl (zat (by decide) xs_12) rfl hl.1 rfl (Nat.le_of_ble_eq_true rfl) dX9_busiestMinute_21 (fun x474 u475 H locs hw473 hP hD hS => ?_)
        obtain ⟨g, L⟩ := u475
        obtain ⟨hI, h0n⟩ := hw473
        have h0c : g 0 = g0 0 := h0n.trans h0c
        have hI : zI XT g := hI
        have hP : va_P G.1 vwCl (zw G (XS b) 105 a g L) H := hP
        have hD : va_D A (zw G (XS b) 105 a g L) := hD
        refine lv_istore (lv' := [(4, .int x474), (0, .ref (a 12)), (1, .int x461), (2, .int x462), (3, .int x463)]) hx hb dX9_busiestMinute_24 hl (by decide) rfl (fun ls hl => ?_)
        refine lv_iload hx hb dX9_busiestMinute_26 (lv_at hl 0 rfl) ?_
        refine lv_iload_n hx hb dX9_busiestMinute_28 rfl (lv_at hl 3 rfl) ?_
        have J489 : ∀ (x490 : Int32) (x491 : Int32) (g : Nat → Nat → Int32) (L : Nat → Nat → Int64) (H : Heap) (locs : List Loc) (ls : Array Slot), zI XT g → g 0 = g0 0 → va_P G.1 vwCl (zw G (XS b) 105 a g L) H → va_D A (zw G (XS b) 105 a g L) → va_S A s.heap H locs → lv_has ls 5 [(0, .ref (a 12)), (1, .int x490), (2, .int x491), (3, .int x463)] → W p l e { frames := 7, cells := 0, slots := 0, locals := 133 } s m [.ref (a 12)].toArray below meth c H locs 0 0 (MQ below ((kQi G (S := zS) (fun r u => zI XT u.1 ∧ u.1 0 = g0 0) (fun u => zw G (XS b) 105 a u.1 u.2)) A) [.ref (a 12)].toArray s 0 0 A) (F0 m 58 ls []) := by
          intro x490 x491 g L H locs ls hI h0c hP hD hS hl
          obtain ⟨x492, e493q, e493⟩ : ∃ z : Int32, x463 + Int32.ofInt (1) = z ∧ z.toInt = x463.toInt + (1) := ⟨_, rfl, ic_addc rfl (by decide) (by omega) (by omega)⟩
          refine lv_iinc (v := x492) (lv' := [(3, .int x492), (0, .ref (a 12)), (1, .int x490), (2, .int x491)]) hx hb dX9_busiestMinute_58 hl (k := 3) rfl e493q (by decide) rfl (fun ls hl => ?_)
          refine lv_goto (tgt := 6) hx hb dX9_busiestMinute_61 (by decide) ?_
          exact ih466 x490 x491 x492 g L H locs ls (by omega) hI h0c hP hD hS (lv_sub hl [1, 2, 3, 0] rfl) (by omega)
        have J494 : ∀ (g : Nat → Nat → Int32) (L : Nat → Nat → Int64) (H : Heap) (locs : List Loc) (ls : Array Slot), zI XT g → g 0 = g0 0 → va_P G.1 vwCl (zw G (XS b) 105 a g L) H → va_D A (zw G (XS b) 105 a g L) → va_S A s.heap H locs → lv_has ls 5 [(0, .ref (a 12)), (3, .int x463), (4, .int x474)] → W p l e { frames := 7, cells := 0, slots := 0, locals := 133 } s m [.ref (a 12)].toArray below meth c H locs 0 0 (MQ below ((kQi G (S := zS) (fun r u => zI XT u.1 ∧ u.1 0 = g0 0) (fun u => zw G (XS b) 105 a u.1 u.2)) A) [.ref (a 12)].toArray s 0 0 A) (F0 m 48 ls []) := by
          intro g L H locs ls hI h0c hP hD hS hl
          refine lv_iload hx hb dX9_busiestMinute_48 (lv_at hl 2 rfl) ?_
          refine lv_istore_n (lv' := [(2, .int x474), (0, .ref (a 12)), (3, .int x463), (4, .int x474)]) hx hb dX9_busiestMinute_50 rfl hl (by decide) rfl (fun ls hl => ?_)
          refine lv_aload_n hx hb dX9_busiestMinute_51 rfl (lv_at hl 1 rfl) ?_
          refine x_getr (Or.inl fl_X9_9) C hP (by decide) xs_12 rfl dX9_busiestMinute_52 ?_
          refine lv_iload_n hx hb dX9_busiestMinute_55 rfl (lv_at hl 2 rfl) ?_
          refine x_ald C hP (by decide) xs_53 (by omega) (by omega) dX9_busiestMinute_56 (fun x495 e496 => ?_)
          refine lv_istore_n (lv' := [(1, .int x495), (2, .int x474), (0, .ref (a 12)), (3, .int x463), (4, .int x474)]) hx hb dX9_busiestMinute_57 rfl hl (by decide) rfl (fun ls hl => ?_)
          exact J489 x495 x474 g L H locs ls hI h0c hP hD hS (lv_sub hl [2, 0, 1, 3] rfl)
        refine lv_icmp_gt (x := x474) (y := x462) (tgt := 48) hx hb dX9_busiestMinute_29 (by decide) (fun c497 => ?_) (fun c497 => ?_)
        ·
          have c497 := icc_lt (m := x462.toInt) (n := x474.toInt) rfl rfl c497
          exact J494 g L H locs ls hI h0c hP hD hS (lv_sub hl [1, 4, 0] rfl)
        ·
          have c497 := icc_nlt (m := x462.toInt) (n := x474.toInt) rfl rfl c497
          refine lv_iload hx hb dX9_busiestMinute_32 (lv_at hl 0 rfl) ?_
          refine lv_iload_n hx hb dX9_busiestMinute_34 rfl (lv_at hl 3 rfl) ?_
          refine lv_icmp_ne (x := x474) (y := x462) (tgt := 58) hx hb dX9_busiestMinute_35 (by decide) (fun c498 => ?_) (fun c498 => ?_)
          ·
            have c498 := icc_neq (m := x474.toInt) (n := x462.toInt) rfl rfl c498
            exact J489 x461 x462 g L H locs ls hI h0c hP hD hS (lv_sub hl [1, 2, 3, 4] rfl)
          ·
            have c498 := icc_eq (m := x474.toInt) (n := x462.toInt) rfl rfl c498
            refine lv_aload_n hx hb dX9_busiestMinute_38 rfl (lv_at hl 1 rfl) ?_
            refine x_getr (Or.inl fl_X9_9) C hP (by decide) xs_12 rfl dX9_busiestMinute_39 ?_
            refine lv_iload_n hx hb dX9_busiestMinute_42 rfl (lv_at hl 4 rfl) ?_
            refine x_ald C hP (by decide) xs_53 (by omega) (by omega) dX9_busiestMinute_43 (fun x499 e500 => ?_)
            refine lv_iload_n hx hb dX9_busiestMinute_44 rfl (lv_at hl 2 rfl) ?_
            refine lv_icmp_ge (x := x499) (y := x461) (tgt := 58) hx hb dX9_busiestMinute_45 (by decide) (fun c501 => ?_) (fun c501 => ?_)
            ·
              have c501 := icc_le (m := x461.toInt) (n := x499.toInt) rfl rfl c501
              exact J489 x461 x462 g L H locs ls hI h0c hP hD hS (lv_sub hl [1, 2, 3, 4] rfl)
            ·
              have c501 := icc_nle (m := x461.toInt) (n := x499.toInt) rfl rfl c501
              exact J494 g L H locs ls hI h0c hP hD hS (lv_sub hl [1, 4, 0] rfl)
  have hc_ : ((-1) : Int32).toInt = (-1) := by decide
  have hc_ : (0 : Int32).toInt = 0 := by decide
  exact lp465 74 (-1) 0 0 g0 L0 H locs ls (by decide) hI h0c hP hD hS (lv_sub hl [3, 2, 1, 0] rfl) (by omega)
