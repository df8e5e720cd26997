theorem tw_444 : (Jvm.Cond.laysFinal "MarshBells$Chances" "MarshBells$Chances" "day" "LMarshBells$Day;") ∈ lw_tbl := tk_2 (List.mem_of_getElem? (i := 204) rfl)
theorem tw_446 : (Jvm.Cond.laysFinal "MarshBells$Chances" "MarshBells$Chances" "unsure" "[I") ∈ lw_tbl := tk_2 (List.mem_of_getElem? (i := 206) rfl)
theorem tw_448 : (Jvm.Cond.lays "MarshBells$Chances" "MarshBells$Chances" "many" "I") ∈ lw_tbl := tk_2 (List.mem_of_getElem? (i := 208) rfl)
theorem tw_450 : (Jvm.Cond.lays "MarshBells$Chances" "MarshBells$Chances" "never" "I") ∈ lw_tbl := tk_2 (List.mem_of_getElem? (i := 210) rfl)
theorem tw_452 : (Jvm.Cond.lays "MarshBells$Chances" "MarshBells$Chances" "seed" "I") ∈ lw_tbl := tk_2 (List.mem_of_getElem? (i := 212) rfl)
theorem tw_454 : (Jvm.Cond.lays "MarshBells$Chances" "MarshBells$Chances" "upper" "J") ∈ lw_tbl := tk_2 (List.mem_of_getElem? (i := 214) rfl)
theorem tw_456 : (Jvm.Cond.lays "MarshBells$Chances" "MarshBells$Chances" "lower" "J") ∈ lw_tbl := tk_2 (List.mem_of_getElem? (i := 216) rfl)
theorem inWX0 : ∀ w ∈ u_ws RX0 TX0 7, w ∈ lw_tbl := by
  have e : ∀ k, k < 7 → u_lay RX0 TX0 k ∈ lw_tbl := fun k hk => match k, hk with | 0, _ => tw_444 | 1, _ => tw_446 | 2, _ => tw_448 | 3, _ => tw_450 | 4, _ => tw_452 | 5, _ => tw_454 | 6, _ => tw_456 | k + 7, hk => absurd hk (by omega)
  intro w h
  obtain ⟨k, hk, rfl⟩ := List.mem_map.mp h
  exact e k (List.mem_range.mp hk)
theorem tw_435 : (Jvm.Cond.fieldLink "MarshBells$Chances" (15 : Nat) "MarshBells$Chances" "day" "LMarshBells$Day;") ∈ lw_tbl := tk_2 (List.mem_of_getElem? (i := 195) rfl)
theorem fl_X0_15 : kFL RX0 15 0 7 0 := ⟨RX0, TX0, rfl, by decide, inWX0, tw_435⟩
theorem tw_319 : (Jvm.Cond.fieldLinkNest "MarshBells$Chances" (54 : Nat) "MarshBells$Day" "plan" "LMarshBells$Plan;" "MarshBells") ∈ lw_tbl := tk_2 (List.mem_of_getElem? (i := 79) rfl)
theorem fl_X0_54 : kFN RX0 54 1 10 7 := ⟨RX1, TX1, rfl, by decide, inWX1, tw_319⟩
theorem tw_152 : (Jvm.Cond.fieldLinkNest "MarshBells$Chances" (58 : Nat) "MarshBells$Plan" "lessons" "[LMarshBells$Lesson;" "MarshBells") ∈ lw_tbl := tk_1 (List.mem_of_getElem? (i := 152) rfl)
theorem fl_X0_58 : kFN RX0 58 7 5 0 := ⟨RX7, TX7, rfl, by decide, inWX7, tw_152⟩
theorem tw_113 : (Jvm.Cond.fieldLinkNest "MarshBells$Chances" (64 : Nat) "MarshBells$Lesson" "maybe" "I" "MarshBells") ∈ lw_tbl := tk_1 (List.mem_of_getElem? (i := 113) rfl)
theorem fl_X0_64 : kFN RX0 64 5 14 12 := ⟨RX5, TX5, rfl, by decide, inWX5, tw_113⟩
theorem tw_438 : (Jvm.Cond.fieldLink "MarshBells$Chances" (48 : Nat) "MarshBells$Chances" "never" "I") ∈ lw_tbl := tk_2 (List.mem_of_getElem? (i := 198) rfl)
theorem fl_X0_48 : kFL RX0 48 0 7 3 := ⟨RX0, TX0, rfl, by decide, inWX0, tw_438⟩
theorem tw_437 : (Jvm.Cond.fieldLink "MarshBells$Chances" (27 : Nat) "MarshBells$Chances" "many" "I") ∈ lw_tbl := tk_2 (List.mem_of_getElem? (i := 197) rfl)
theorem fl_X0_27 : kFL RX0 27 0 7 2 := ⟨RX0, TX0, rfl, by decide, inWX0, tw_437⟩
theorem tw_436 : (Jvm.Cond.fieldLink "MarshBells$Chances" (9 : Nat) "MarshBells$Chances" "unsure" "[I") ∈ lw_tbl := tk_2 (List.mem_of_getElem? (i := 196) rfl)
theorem fl_X0_9 : kFL RX0 9 0 7 1 := ⟨RX0, TX0, rfl, by decide, inWX0, tw_436⟩
theorem tw_442 : (Jvm.Cond.fieldLink "MarshBells$Chances" (51 : Nat) "MarshBells$Chances" "lower" "J") ∈ lw_tbl := tk_2 (List.mem_of_getElem? (i := 202) rfl)
theorem fl_X0_51 : kFL RX0 51 0 7 6 := ⟨RX0, TX0, rfl, by decide, inWX0, tw_442⟩
theorem dX0_findUnsure_0 : decode cX0_findUnsure 0 = .ok (.aload_n 0, 1) := by decide +kernel
theorem dX0_findUnsure_1 : decode cX0_findUnsure 1 = .ok (.iconst 0, 1) := by decide +kernel
theorem ft_X0_2 : kFT 0 2 .int false RX0 := ⟨RX0, TX0, 7, tyX0, rfl, tyX0_ok, nmX0, rfl, by decide +kernel, rfl⟩
theorem dX0_findUnsure_2 : decode cX0_findUnsure 2 = .ok (.putfield 27, 3) := by decide +kernel
theorem dX0_findUnsure_5 : decode cX0_findUnsure 5 = .ok (.aload_n 0, 1) := by decide +kernel
theorem dX0_findUnsure_6 : decode cX0_findUnsure 6 = .ok (.iconst 0, 1) := by decide +kernel
theorem ft_X0_3 : kFT 0 3 .int false RX0 := ⟨RX0, TX0, 7, tyX0, rfl, tyX0_ok, nmX0, rfl, by decide +kernel, rfl⟩
theorem dX0_findUnsure_7 : decode cX0_findUnsure 7 = .ok (.putfield 48, 3) := by decide +kernel
theorem dX0_findUnsure_10 : decode cX0_findUnsure 10 = .ok (.aload_n 0, 1) := by decide +kernel
theorem dX0_findUnsure_11 : decode cX0_findUnsure 11 = .ok (.lconst 1, 1) := by decide +kernel
theorem ft_X0_6 : kFT 0 6 .long false RX0 := ⟨RX0, TX0, 7, tyX0, rfl, tyX0_ok, nmX0, rfl, by decide +kernel, rfl⟩
theorem dX0_findUnsure_12 : decode cX0_findUnsure 12 = .ok (.putfield 51, 3) := by decide +kernel
theorem dX0_findUnsure_15 : decode cX0_findUnsure 15 = .ok (.iconst 0, 1) := by decide +kernel
theorem dX0_findUnsure_16 : decode cX0_findUnsure 16 = .ok (.istore_n 2, 1) := by decide +kernel
theorem dX0_findUnsure_17 : decode cX0_findUnsure 17 = .ok (.iload_n 2, 1) := by decide +kernel
theorem dX0_findUnsure_18 : decode cX0_findUnsure 18 = .ok (.iload_n 1, 1) := by decide +kernel
theorem dX0_findUnsure_19 : decode cX0_findUnsure 19 = .ok (.if_icmp .gt 91, 3) := by decide +kernel
theorem dX0_findUnsure_110 : decode cX0_findUnsure 110 = .ok (.return_, 1) := by decide +kernel
theorem dX0_findUnsure_22 : decode cX0_findUnsure 22 = .ok (.aload_n 0, 1) := by decide +kernel
theorem dX0_findUnsure_23 : decode cX0_findUnsure 23 = .ok (.getfield 15, 3) := by decide +kernel
theorem dX0_findUnsure_26 : decode cX0_findUnsure 26 = .ok (.getfield 54, 3) := by decide +kernel
theorem dX0_findUnsure_29 : decode cX0_findUnsure 29 = .ok (.getfield 58, 3) := by decide +kernel
theorem dX0_findUnsure_32 : decode cX0_findUnsure 32 = .ok (.iload_n 2, 1) := by decide +kernel
theorem dX0_findUnsure_33 : decode cX0_findUnsure 33 = .ok (.aaload, 1) := by decide +kernel
theorem dX0_findUnsure_34 : decode cX0_findUnsure 34 = .ok (.getfield 64, 3) := by decide +kernel
theorem dX0_findUnsure_37 : decode cX0_findUnsure 37 = .ok (.istore_n 3, 1) := by decide +kernel
theorem dX0_findUnsure_38 : decode cX0_findUnsure 38 = .ok (.iload_n 3, 1) := by decide +kernel
theorem dX0_findUnsure_104 : decode cX0_findUnsure 104 = .ok (.iinc 2 1, 3) := by decide +kernel
theorem dX0_findUnsure_107 : decode cX0_findUnsure 107 = .ok (.goto (-90), 3) := by decide +kernel
theorem dX0_findUnsure_39 : decode cX0_findUnsure 39 = .ok (.ifCond .ne 18, 3) := by decide +kernel
theorem dX0_findUnsure_57 : decode cX0_findUnsure 57 = .ok (.iload_n 3, 1) := by decide +kernel
theorem dX0_findUnsure_58 : decode cX0_findUnsure 58 = .ok (.bipush 10, 2) := by decide +kernel
theorem dX0_findUnsure_60 : decode cX0_findUnsure 60 = .ok (.if_icmp .ge 44, 3) := by decide +kernel
theorem dX0_findUnsure_63 : decode cX0_findUnsure 63 = .ok (.aload_n 0, 1) := by decide +kernel
theorem dX0_findUnsure_64 : decode cX0_findUnsure 64 = .ok (.getfield 27, 3) := by decide +kernel
theorem dX0_findUnsure_67 : decode cX0_findUnsure 67 = .ok (.bipush 8, 2) := by decide +kernel
theorem dX0_findUnsure_69 : decode cX0_findUnsure 69 = .ok (.if_icmp .ge 35, 3) := by decide +kernel
theorem dX0_findUnsure_72 : decode cX0_findUnsure 72 = .ok (.aload_n 0, 1) := by decide +kernel
theorem dX0_findUnsure_73 : decode cX0_findUnsure 73 = .ok (.getfield 9, 3) := by decide +kernel
theorem dX0_findUnsure_76 : decode cX0_findUnsure 76 = .ok (.aload_n 0, 1) := by decide +kernel
theorem dX0_findUnsure_77 : decode cX0_findUnsure 77 = .ok (.getfield 27, 3) := by decide +kernel
theorem dX0_findUnsure_80 : decode cX0_findUnsure 80 = .ok (.iload_n 2, 1) := by decide +kernel
theorem dX0_findUnsure_81 : decode cX0_findUnsure 81 = .ok (.iastore, 1) := by decide +kernel
theorem dX0_findUnsure_82 : decode cX0_findUnsure 82 = .ok (.aload_n 0, 1) := by decide +kernel
theorem dX0_findUnsure_83 : decode cX0_findUnsure 83 = .ok (.dup, 1) := by decide +kernel
theorem dX0_findUnsure_84 : decode cX0_findUnsure 84 = .ok (.getfield 27, 3) := by decide +kernel
theorem dX0_findUnsure_87 : decode cX0_findUnsure 87 = .ok (.iconst 1, 1) := by decide +kernel
theorem dX0_findUnsure_88 : decode cX0_findUnsure 88 = .ok (.iadd, 1) := by decide +kernel
theorem dX0_findUnsure_89 : decode cX0_findUnsure 89 = .ok (.putfield 27, 3) := by decide +kernel
theorem dX0_findUnsure_92 : decode cX0_findUnsure 92 = .ok (.aload_n 0, 1) := by decide +kernel
theorem dX0_findUnsure_93 : decode cX0_findUnsure 93 = .ok (.dup, 1) := by decide +kernel
theorem dX0_findUnsure_94 : decode cX0_findUnsure 94 = .ok (.getfield 51, 3) := by decide +kernel
theorem tw_1188 : (Jvm.Cond.constantLong "MarshBells$Chances" (69 : Nat) (10 : Int64)) ∈ lw_tbl := tk_5 (List.mem_of_getElem? (i := 228) rfl)
theorem dX0_findUnsure_97 : decode cX0_findUnsure 97 = .ok (.ldc2_w 69, 3) := by decide +kernel
theorem dX0_findUnsure_100 : decode cX0_findUnsure 100 = .ok (.lmul, 1) := by decide +kernel
theorem dX0_findUnsure_101 : decode cX0_findUnsure 101 = .ok (.putfield 51, 3) := by decide +kernel
theorem dX0_findUnsure_42 : decode cX0_findUnsure 42 = .ok (.aload_n 0, 1) := by decide +kernel
theorem dX0_findUnsure_43 : decode cX0_findUnsure 43 = .ok (.dup, 1) := by decide +kernel
theorem dX0_findUnsure_44 : decode cX0_findUnsure 44 = .ok (.getfield 48, 3) := by decide +kernel
theorem dX0_findUnsure_47 : decode cX0_findUnsure 47 = .ok (.iconst 1, 1) := by decide +kernel
theorem dX0_findUnsure_48 : decode cX0_findUnsure 48 = .ok (.iload_n 2, 1) := by decide +kernel
theorem dX0_findUnsure_49 : decode cX0_findUnsure 49 = .ok (.ishl, 1) := by decide +kernel
theorem dX0_findUnsure_50 : decode cX0_findUnsure 50 = .ok (.ior, 1) := by decide +kernel
theorem dX0_findUnsure_51 : decode cX0_findUnsure 51 = .ok (.putfield 48, 3) := by decide +kernel
theorem dX0_findUnsure_54 : decode cX0_findUnsure 54 = .ok (.goto 50, 3) := by decide +kernel
theorem tw_440 : (Jvm.Cond.fieldLink "MarshBells$Chances" (23 : Nat) "MarshBells$Chances" "upper" "J") ∈ lw_tbl := tk_2 (List.mem_of_getElem? (i := 200) rfl)
theorem fl_X0_23 : kFL RX0 23 0 7 5 := ⟨RX0, TX0, rfl, by decide, inWX0, tw_440⟩
theorem dX0_reduce_0 : decode cX0_reduce 0 = .ok (.aload_n 0, 1) := by decide +kernel
theorem dX0_reduce_1 : decode cX0_reduce 1 = .ok (.getfield 51, 3) := by decide +kernel
theorem dX0_reduce_4 : decode cX0_reduce 4 = .ok (.lstore_n 1, 1) := by decide +kernel
theorem dX0_reduce_5 : decode cX0_reduce 5 = .ok (.aload_n 0, 1) := by decide +kernel
theorem dX0_reduce_6 : decode cX0_reduce 6 = .ok (.getfield 23, 3) := by decide +kernel
theorem dX0_reduce_9 : decode cX0_reduce 9 = .ok (.lstore_n 3, 1) := by decide +kernel
theorem dX0_reduce_10 : decode cX0_reduce 10 = .ok (.iconst 0, 1) := by decide +kernel
theorem dX0_reduce_11 : decode cX0_reduce 11 = .ok (.istore 5, 2) := by decide +kernel
theorem dX0_reduce_13 : decode cX0_reduce 13 = .ok (.iload 5, 2) := by decide +kernel
theorem dX0_reduce_15 : decode cX0_reduce 15 = .ok (.sipush 200, 3) := by decide +kernel
theorem dX0_reduce_43 : decode cX0_reduce 43 = .ok (.lload_n 1, 1) := by decide +kernel
theorem dX0_reduce_44 : decode cX0_reduce 44 = .ok (.lconst 1, 1) := by decide +kernel
theorem dX0_reduce_45 : decode cX0_reduce 45 = .ok (.lcmp, 1) := by decide +kernel
theorem dX0_reduce_69 : decode cX0_reduce 69 = .ok (.return_, 1) := by decide +kernel
theorem dX0_reduce_46 : decode cX0_reduce 46 = .ok (.ifCond .le 23, 3) := by decide +kernel
theorem dX0_reduce_49 : decode cX0_reduce 49 = .ok (.aload_n 0, 1) := by decide +kernel
theorem dX0_reduce_50 : decode cX0_reduce 50 = .ok (.dup, 1) := by decide +kernel
theorem dX0_reduce_51 : decode cX0_reduce 51 = .ok (.getfield 23, 3) := by decide +kernel
theorem dX0_reduce_54 : decode cX0_reduce 54 = .ok (.lload_n 1, 1) := by decide +kernel
theorem dX0_reduce_55 : decode cX0_reduce 55 = .ok (.ldiv, 1) := by decide +kernel
theorem ft_X0_5 : kFT 0 5 .long false RX0 := ⟨RX0, TX0, 7, tyX0, rfl, tyX0_ok, nmX0, rfl, by decide +kernel, rfl⟩
theorem dX0_reduce_56 : decode cX0_reduce 56 = .ok (.putfield 23, 3) := by decide +kernel
theorem dX0_reduce_59 : decode cX0_reduce 59 = .ok (.aload_n 0, 1) := by decide +kernel
theorem dX0_reduce_60 : decode cX0_reduce 60 = .ok (.dup, 1) := by decide +kernel
theorem dX0_reduce_61 : decode cX0_reduce 61 = .ok (.getfield 51, 3) := by decide +kernel
theorem dX0_reduce_64 : decode cX0_reduce 64 = .ok (.lload_n 1, 1) := by decide +kernel
theorem dX0_reduce_65 : decode cX0_reduce 65 = .ok (.ldiv, 1) := by decide +kernel
theorem dX0_reduce_66 : decode cX0_reduce 66 = .ok (.putfield 51, 3) := by decide +kernel
theorem dX0_reduce_18 : decode cX0_reduce 18 = .ok (.if_icmp .ge 25, 3) := by decide +kernel
theorem dX0_reduce_21 : decode cX0_reduce 21 = .ok (.lload_n 3, 1) := by decide +kernel
theorem dX0_reduce_22 : decode cX0_reduce 22 = .ok (.lconst 0, 1) := by decide +kernel
theorem dX0_reduce_23 : decode cX0_reduce 23 = .ok (.lcmp, 1) := by decide +kernel
theorem dX0_reduce_24 : decode cX0_reduce 24 = .ok (.ifCond .eq 19, 3) := by decide +kernel
theorem dX0_reduce_27 : decode cX0_reduce 27 = .ok (.lload_n 1, 1) := by decide +kernel
theorem dX0_reduce_28 : decode cX0_reduce 28 = .ok (.lload_n 3, 1) := by decide +kernel
theorem dX0_reduce_29 : decode cX0_reduce 29 = .ok (.lrem, 1) := by decide +kernel
theorem dX0_reduce_30 : decode cX0_reduce 30 = .ok (.lstore 6, 2) := by decide +kernel
theorem dX0_reduce_32 : decode cX0_reduce 32 = .ok (.lload_n 3, 1) := by decide +kernel
theorem dX0_reduce_33 : decode cX0_reduce 33 = .ok (.lstore_n 1, 1) := by decide +kernel
theorem dX0_reduce_34 : decode cX0_reduce 34 = .ok (.lload 6, 2) := by decide +kernel
theorem dX0_reduce_36 : decode cX0_reduce 36 = .ok (.lstore_n 3, 1) := by decide +kernel
theorem dX0_reduce_37 : decode cX0_reduce 37 = .ok (.iinc 5 1, 3) := by decide +kernel
theorem dX0_reduce_40 : decode cX0_reduce 40 = .ok (.goto (-27), 3) := by decide +kernel
theorem dX0_runWith_0 : decode cX0_runWith 0 = .ok (.aload_n 0, 1) := by decide +kernel
theorem dX0_runWith_1 : decode cX0_runWith 1 = .ok (.getfield 48, 3) := by decide +kernel
theorem dX0_runWith_4 : decode cX0_runWith 4 = .ok (.iconst (-1), 1) := by decide +kernel
theorem dX0_runWith_5 : decode cX0_runWith 5 = .ok (.ixor, 1) := by decide +kernel
theorem dX0_runWith_6 : decode cX0_runWith 6 = .ok (.istore_n 3, 1) := by decide +kernel
theorem dX0_runWith_7 : decode cX0_runWith 7 = .ok (.iconst 0, 1) := by decide +kernel
theorem dX0_runWith_8 : decode cX0_runWith 8 = .ok (.istore 4, 2) := by decide +kernel
theorem dX0_runWith_10 : decode cX0_runWith 10 = .ok (.iload 4, 2) := by decide +kernel
theorem dX0_runWith_12 : decode cX0_runWith 12 = .ok (.aload_n 0, 1) := by decide +kernel
theorem dX0_runWith_13 : decode cX0_runWith 13 = .ok (.getfield 27, 3) := by decide +kernel
theorem dX0_runWith_16 : decode cX0_runWith 16 = .ok (.if_icmp .ge 32, 3) := by decide +kernel
theorem dX0_runWith_48 : decode cX0_runWith 48 = .ok (.aload_n 0, 1) := by decide +kernel
theorem dX0_runWith_49 : decode cX0_runWith 49 = .ok (.getfield 15, 3) := by decide +kernel
theorem dX0_runWith_52 : decode cX0_runWith 52 = .ok (.iload_n 3, 1) := by decide +kernel
theorem tw_321 : (Jvm.Cond.fieldLinkNest "MarshBells$Chances" (71 : Nat) "MarshBells$Day" "running" "I" "MarshBells") ∈ lw_tbl := tk_2 (List.mem_of_getElem? (i := 81) rfl)
theorem fl_X0_71 : kFN RX0 71 1 10 8 := ⟨RX1, TX1, rfl, by decide, inWX1, tw_321⟩
theorem ft_X1_8 : kFT 1 8 .int false RX1 := ⟨RX1, TX1, 10, tyX1, rfl, tyX1_ok, nmX1, rfl, by decide +kernel, rfl⟩
theorem dX0_runWith_53 : decode cX0_runWith 53 = .ok (.putfield 71, 3) := by decide +kernel
theorem dX0_runWith_56 : decode cX0_runWith 56 = .ok (.iconst 0, 1) := by decide +kernel
theorem dX0_runWith_57 : decode cX0_runWith 57 = .ok (.istore 4, 2) := by decide +kernel
theorem dX0_runWith_59 : decode cX0_runWith 59 = .ok (.iload 4, 2) := by decide +kernel
theorem dX0_runWith_61 : decode cX0_runWith 61 = .ok (.iload_n 2, 1) := by decide +kernel
theorem dX0_runWith_62 : decode cX0_runWith 62 = .ok (.if_icmp .gt 18, 3) := by decide +kernel
theorem dX0_runWith_80 : decode cX0_runWith 80 = .ok (.aload_n 0, 1) := by decide +kernel
theorem dX0_runWith_81 : decode cX0_runWith 81 = .ok (.getfield 15, 3) := by decide +kernel
theorem dX0_runWith_84 : decode cX0_runWith 84 = .ok (.iconst (-1), 1) := by decide +kernel
theorem dX0_runWith_85 : decode cX0_runWith 85 = .ok (.putfield 71, 3) := by decide +kernel
theorem dX0_runWith_88 : decode cX0_runWith 88 = .ok (.return_, 1) := by decide +kernel
theorem dX0_runWith_65 : decode cX0_runWith 65 = .ok (.aload_n 0, 1) := by decide +kernel
theorem dX0_runWith_66 : decode cX0_runWith 66 = .ok (.getfield 15, 3) := by decide +kernel
theorem dX0_runWith_69 : decode cX0_runWith 69 = .ok (.iload 4, 2) := by decide +kernel
theorem tw_1193 : (Jvm.Cond.methodLinkNest "MarshBells$Chances" (74 : Nat) ({ cls := "MarshBells$Day", name := "runOne", desc := "(I)V" } : Jvm.MethodName) "MarshBells") ∈ lw_tbl := tk_5 (List.mem_of_getElem? (i := 233) rfl)
theorem li_X0_74 : kLN RX0 74 RX1 yX1_runOne "MarshBells" cX1_runOne 3 none 1 := ⟨tw_1193, tw_610, se_X1_runOne, tw_611, tw_7, by decide +kernel⟩
theorem dX0_runWith_71 : decode cX0_runWith 71 = .ok (.invokevirtual 74, 3) := by decide +kernel
theorem dX0_runWith_74 : decode cX0_runWith 74 = .ok (.iinc 4 1, 3) := by decide +kernel
theorem dX0_runWith_77 : decode cX0_runWith 77 = .ok (.goto (-18), 3) := by decide +kernel
theorem dX0_runWith_19 : decode cX0_runWith 19 = .ok (.iload_n 1, 1) := by decide +kernel
theorem dX0_runWith_20 : decode cX0_runWith 20 = .ok (.iload 4, 2) := by decide +kernel
theorem dX0_runWith_22 : decode cX0_runWith 22 = .ok (.ishr, 1) := by decide +kernel
theorem dX0_runWith_23 : decode cX0_runWith 23 = .ok (.iconst 1, 1) := by decide +kernel
theorem dX0_runWith_24 : decode cX0_runWith 24 = .ok (.iand, 1) := by decide +kernel
theorem dX0_runWith_42 : decode cX0_runWith 42 = .ok (.iinc 4 1, 3) := by decide +kernel
theorem dX0_runWith_45 : decode cX0_runWith 45 = .ok (.goto (-35), 3) := by decide +kernel
theorem dX0_runWith_25 : decode cX0_runWith 25 = .ok (.ifCond .ne 17, 3) := by decide +kernel
theorem dX0_runWith_28 : decode cX0_runWith 28 = .ok (.iload_n 3, 1) := by decide +kernel
theorem dX0_runWith_29 : decode cX0_runWith 29 = .ok (.iconst 1, 1) := by decide +kernel
theorem dX0_runWith_30 : decode cX0_runWith 30 = .ok (.aload_n 0, 1) := by decide +kernel
theorem dX0_runWith_31 : decode cX0_runWith 31 = .ok (.getfield 9, 3) := by decide +kernel
theorem dX0_runWith_34 : decode cX0_runWith 34 = .ok (.iload 4, 2) := by decide +kernel
theorem dX0_runWith_36 : decode cX0_runWith 36 = .ok (.iaload, 1) := by decide +kernel
theorem dX0_runWith_37 : decode cX0_runWith 37 = .ok (.ishl, 1) := by decide +kernel
theorem dX0_runWith_38 : decode cX0_runWith 38 = .ok (.iconst (-1), 1) := by decide +kernel
theorem dX0_runWith_39 : decode cX0_runWith 39 = .ok (.ixor, 1) := by decide +kernel
theorem dX0_runWith_40 : decode cX0_runWith 40 = .ok (.iand, 1) := by decide +kernel
theorem dX0_runWith_41 : decode cX0_runWith 41 = .ok (.istore_n 3, 1) := by decide +kernel
theorem dX0_weight_0 : decode cX0_weight 0 = .ok (.lconst 1, 1) := by decide +kernel
theorem dX0_weight_1 : decode cX0_weight 1 = .ok (.lstore_n 2, 1) := by decide +kernel
theorem dX0_weight_2 : decode cX0_weight 2 = .ok (.iconst 0, 1) := by decide +kernel
theorem dX0_weight_3 : decode cX0_weight 3 = .ok (.istore 4, 2) := by decide +kernel
theorem dX0_weight_5 : decode cX0_weight 5 = .ok (.iload 4, 2) := by decide +kernel
theorem dX0_weight_7 : decode cX0_weight 7 = .ok (.aload_n 0, 1) := by decide +kernel
theorem dX0_weight_8 : decode cX0_weight 8 = .ok (.getfield 27, 3) := by decide +kernel
theorem dX0_weight_11 : decode cX0_weight 11 = .ok (.if_icmp .ge 56, 3) := by decide +kernel
theorem dX0_weight_67 : decode cX0_weight 67 = .ok (.lload_n 2, 1) := by decide +kernel
theorem dX0_weight_68 : decode cX0_weight 68 = .ok (.lreturn, 1) := by decide +kernel
theorem dX0_weight_14 : decode cX0_weight 14 = .ok (.aload_n 0, 1) := by decide +kernel
theorem dX0_weight_15 : decode cX0_weight 15 = .ok (.getfield 15, 3) := by decide +kernel
theorem dX0_weight_18 : decode cX0_weight 18 = .ok (.getfield 54, 3) := by decide +kernel
theorem dX0_weight_21 : decode cX0_weight 21 = .ok (.getfield 58, 3) := by decide +kernel
theorem dX0_weight_24 : decode cX0_weight 24 = .ok (.aload_n 0, 1) := by decide +kernel
theorem dX0_weight_25 : decode cX0_weight 25 = .ok (.getfield 9, 3) := by decide +kernel
theorem dX0_weight_28 : decode cX0_weight 28 = .ok (.iload 4, 2) := by decide +kernel
theorem dX0_weight_30 : decode cX0_weight 30 = .ok (.iaload, 1) := by decide +kernel
theorem dX0_weight_31 : decode cX0_weight 31 = .ok (.aaload, 1) := by decide +kernel
theorem dX0_weight_32 : decode cX0_weight 32 = .ok (.getfield 64, 3) := by decide +kernel
theorem dX0_weight_35 : decode cX0_weight 35 = .ok (.istore 5, 2) := by decide +kernel
theorem dX0_weight_37 : decode cX0_weight 37 = .ok (.lload_n 2, 1) := by decide +kernel
theorem dX0_weight_38 : decode cX0_weight 38 = .ok (.iload_n 1, 1) := by decide +kernel
theorem dX0_weight_39 : decode cX0_weight 39 = .ok (.iload 4, 2) := by decide +kernel
theorem dX0_weight_41 : decode cX0_weight 41 = .ok (.ishr, 1) := by decide +kernel
theorem dX0_weight_42 : decode cX0_weight 42 = .ok (.iconst 1, 1) := by decide +kernel
theorem dX0_weight_43 : decode cX0_weight 43 = .ok (.iand, 1) := by decide +kernel
theorem dX0_weight_59 : decode cX0_weight 59 = .ok (.lmul, 1) := by decide +kernel
theorem dX0_weight_60 : decode cX0_weight 60 = .ok (.lstore_n 2, 1) := by decide +kernel
theorem dX0_weight_61 : decode cX0_weight 61 = .ok (.iinc 4 1, 3) := by decide +kernel
theorem dX0_weight_64 : decode cX0_weight 64 = .ok (.goto (-59), 3) := by decide +kernel
theorem dX0_weight_44 : decode cX0_weight 44 = .ok (.ifCond .eq 9, 3) := by decide +kernel
theorem dX0_weight_53 : decode cX0_weight 53 = .ok (.bipush 10, 2) := by decide +kernel
theorem dX0_weight_55 : decode cX0_weight 55 = .ok (.iload 5, 2) := by decide +kernel
theorem dX0_weight_57 : decode cX0_weight 57 = .ok (.isub, 1) := by decide +kernel
theorem dX0_weight_58 : decode cX0_weight 58 = .ok (.i2l, 1) := by decide +kernel
theorem dX0_weight_47 : decode cX0_weight 47 = .ok (.iload 5, 2) := by decide +kernel
theorem dX0_weight_49 : decode cX0_weight 49 = .ok (.i2l, 1) := by decide +kernel
theorem dX0_weight_50 : decode cX0_weight 50 = .ok (.goto 9, 3) := by decide +kernel
theorem dX0_ofLate_0 : decode cX0_ofLate 0 = .ok (.aload_n 0, 1) := by decide +kernel
theorem dX0_ofLate_1 : decode cX0_ofLate 1 = .ok (.iload_n 1, 1) := by decide +kernel
theorem tw_1184 : (Jvm.Cond.methodLink "MarshBells$Chances" (19 : Nat) ({ cls := "MarshBells$Chances", name := "findUnsure", desc := "(I)V" } : Jvm.MethodName)) ∈ lw_tbl := tk_5 (List.mem_of_getElem? (i := 224) rfl)
theorem tw_11 : (Jvm.Cond.initialized "MarshBells$Chances") ∈ lw_tbl := tk_1 (List.mem_of_getElem? (i := 11) rfl)
theorem tw_1187 : (Jvm.Cond.code ({ cls := "MarshBells$Chances", name := "findUnsure", desc := "(I)V" } : Jvm.MethodName) prog_2_method_4_code (4 : Nat) (Option.none : Option Jvm.ClassFile.FieldType)) ∈ lw_tbl := tk_5 (List.mem_of_getElem? (i := 227) rfl)
theorem tw_1186 : (Jvm.Cond.instanceMethod ({ cls := "MarshBells$Chances", name := "findUnsure", desc := "(I)V" } : Jvm.MethodName)) ∈ lw_tbl := tk_5 (List.mem_of_getElem? (i := 226) rfl)
theorem se_X0_findUnsure : Cond.selects RX0 yX0_findUnsure yX0_findUnsure ∈ lw_tbl := List.mem_append_left _ (List.mem_of_getElem? (i := 81) rfl)
theorem li_X0_19 : kLV RX0 19 RX0 yX0_findUnsure cX0_findUnsure 4 none 1 := ⟨tw_1184, tw_1186, se_X0_findUnsure, tw_1187, tw_11, by decide +kernel⟩
theorem dX0_ofLate_2 : decode cX0_ofLate 2 = .ok (.invokevirtual 19, 3) := by decide +kernel
theorem dX0_ofLate_5 : decode cX0_ofLate 5 = .ok (.aload_n 0, 1) := by decide +kernel
theorem dX0_ofLate_6 : decode cX0_ofLate 6 = .ok (.lconst 0, 1) := by decide +kernel
theorem dX0_ofLate_7 : decode cX0_ofLate 7 = .ok (.putfield 23, 3) := by decide +kernel
theorem dX0_ofLate_10 : decode cX0_ofLate 10 = .ok (.iconst 0, 1) := by decide +kernel
theorem dX0_ofLate_11 : decode cX0_ofLate 11 = .ok (.istore_n 3, 1) := by decide +kernel
theorem dX0_ofLate_12 : decode cX0_ofLate 12 = .ok (.iload_n 3, 1) := by decide +kernel
theorem dX0_ofLate_13 : decode cX0_ofLate 13 = .ok (.iconst 1, 1) := by decide +kernel
theorem dX0_ofLate_14 : decode cX0_ofLate 14 = .ok (.aload_n 0, 1) := by decide +kernel
theorem dX0_ofLate_15 : decode cX0_ofLate 15 = .ok (.getfield 27, 3) := by decide +kernel
theorem dX0_ofLate_18 : decode cX0_ofLate 18 = .ok (.ishl, 1) := by decide +kernel
theorem dX0_ofLate_19 : decode cX0_ofLate 19 = .ok (.if_icmp .ge 41, 3) := by decide +kernel
theorem dX0_ofLate_60 : decode cX0_ofLate 60 = .ok (.aload_n 0, 1) := by decide +kernel
theorem tw_1199 : (Jvm.Cond.methodLink "MarshBells$Chances" (45 : Nat) ({ cls := "MarshBells$Chances", name := "reduce", desc := "()V" } : Jvm.MethodName)) ∈ lw_tbl := tk_5 (List.mem_of_getElem? (i := 239) rfl)
theorem tw_1202 : (Jvm.Cond.code ({ cls := "MarshBells$Chances", name := "reduce", desc := "()V" } : Jvm.MethodName) prog_2_method_7_code (8 : Nat) (Option.none : Option Jvm.ClassFile.FieldType)) ∈ lw_tbl := tk_6 (List.mem_of_getElem? (i := 2) rfl)
theorem tw_1201 : (Jvm.Cond.instanceMethod ({ cls := "MarshBells$Chances", name := "reduce", desc := "()V" } : Jvm.MethodName)) ∈ lw_tbl := tk_6 (List.mem_of_getElem? (i := 1) rfl)
theorem se_X0_reduce : Cond.selects RX0 yX0_reduce yX0_reduce ∈ lw_tbl := List.mem_append_left _ (List.mem_of_getElem? (i := 84) rfl)
theorem li_X0_45 : kLV RX0 45 RX0 yX0_reduce cX0_reduce 8 none 0 := ⟨tw_1199, tw_1201, se_X0_reduce, tw_1202, tw_11, by decide +kernel⟩
theorem dX0_ofLate_61 : decode cX0_ofLate 61 = .ok (.invokevirtual 45, 3) := by decide +kernel
theorem dX0_ofLate_64 : decode cX0_ofLate 64 = .ok (.return_, 1) := by decide +kernel
theorem dX0_ofLate_22 : decode cX0_ofLate 22 = .ok (.aload_n 0, 1) := by decide +kernel
theorem dX0_ofLate_23 : decode cX0_ofLate 23 = .ok (.iload_n 3, 1) := by decide +kernel
theorem dX0_ofLate_24 : decode cX0_ofLate 24 = .ok (.iload_n 1, 1) := by decide +kernel
theorem tw_1189 : (Jvm.Cond.methodLink "MarshBells$Chances" (31 : Nat) ({ cls := "MarshBells$Chances", name := "runWith", desc := "(II)V" } : Jvm.MethodName)) ∈ lw_tbl := tk_5 (List.mem_of_getElem? (i := 229) rfl)
theorem tw_1192 : (Jvm.Cond.code ({ cls := "MarshBells$Chances", name := "runWith", desc := "(II)V" } : Jvm.MethodName) prog_2_method_5_code (5 : Nat) (Option.none : Option Jvm.ClassFile.FieldType)) ∈ lw_tbl := tk_5 (List.mem_of_getElem? (i := 232) rfl)
theorem tw_1191 : (Jvm.Cond.instanceMethod ({ cls := "MarshBells$Chances", name := "runWith", desc := "(II)V" } : Jvm.MethodName)) ∈ lw_tbl := tk_5 (List.mem_of_getElem? (i := 231) rfl)
theorem se_X0_runWith : Cond.selects RX0 yX0_runWith yX0_runWith ∈ lw_tbl := List.mem_append_left _ (List.mem_of_getElem? (i := 82) rfl)
theorem li_X0_31 : kLV RX0 31 RX0 yX0_runWith cX0_runWith 5 none 2 := ⟨tw_1189, tw_1191, se_X0_runWith, tw_1192, tw_11, by decide +kernel⟩
theorem dX0_ofLate_25 : decode cX0_ofLate 25 = .ok (.invokevirtual 31, 3) := by decide +kernel
theorem dX0_ofLate_28 : decode cX0_ofLate 28 = .ok (.aload_n 0, 1) := by decide +kernel
theorem dX0_ofLate_29 : decode cX0_ofLate 29 = .ok (.getfield 15, 3) := by decide +kernel
theorem dX0_ofLate_32 : decode cX0_ofLate 32 = .ok (.iload_n 1, 1) := by decide +kernel
theorem tw_1194 : (Jvm.Cond.methodLinkNest "MarshBells$Chances" (35 : Nat) ({ cls := "MarshBells$Day", name := "late", desc := "(I)I" } : Jvm.MethodName) "MarshBells") ∈ lw_tbl := tk_5 (List.mem_of_getElem? (i := 234) rfl)
theorem li_X0_35 : kLN RX0 35 RX1 yX1_late "MarshBells" cX1_late 2 (some .int) 1 := ⟨tw_1194, tw_658, se_X1_late, tw_659, tw_7, by decide +kernel⟩
theorem dX0_ofLate_33 : decode cX0_ofLate 33 = .ok (.invokevirtual 35, 3) := by decide +kernel
theorem dX0_ofLate_36 : decode cX0_ofLate 36 = .ok (.iload_n 2, 1) := by decide +kernel
theorem dX0_ofLate_54 : decode cX0_ofLate 54 = .ok (.iinc 3 1, 3) := by decide +kernel
theorem dX0_ofLate_57 : decode cX0_ofLate 57 = .ok (.goto (-45), 3) := by decide +kernel
theorem dX0_ofLate_37 : decode cX0_ofLate 37 = .ok (.if_icmp .le 17, 3) := by decide +kernel
theorem dX0_ofLate_40 : decode cX0_ofLate 40 = .ok (.aload_n 0, 1) := by decide +kernel
theorem dX0_ofLate_41 : decode cX0_ofLate 41 = .ok (.dup, 1) := by decide +kernel
theorem dX0_ofLate_42 : decode cX0_ofLate 42 = .ok (.getfield 23, 3) := by decide +kernel
theorem dX0_ofLate_45 : decode cX0_ofLate 45 = .ok (.aload_n 0, 1) := by decide +kernel
theorem dX0_ofLate_46 : decode cX0_ofLate 46 = .ok (.iload_n 3, 1) := by decide +kernel
theorem tw_1195 : (Jvm.Cond.methodLink "MarshBells$Chances" (41 : Nat) ({ cls := "MarshBells$Chances", name := "weight", desc := "(I)J" } : Jvm.MethodName)) ∈ lw_tbl := tk_5 (List.mem_of_getElem? (i := 235) rfl)
theorem tw_1198 : (Jvm.Cond.code ({ cls := "MarshBells$Chances", name := "weight", desc := "(I)J" } : Jvm.MethodName) prog_2_method_6_code (6 : Nat) (Option.some Jvm.ClassFile.FieldType.long)) ∈ lw_tbl := tk_5 (List.mem_of_getElem? (i := 238) rfl)
theorem tw_1197 : (Jvm.Cond.instanceMethod ({ cls := "MarshBells$Chances", name := "weight", desc := "(I)J" } : Jvm.MethodName)) ∈ lw_tbl := tk_5 (List.mem_of_getElem? (i := 237) rfl)
theorem se_X0_weight : Cond.selects RX0 yX0_weight yX0_weight ∈ lw_tbl := List.mem_append_left _ (List.mem_of_getElem? (i := 83) rfl)
theorem li_X0_41 : kLV RX0 41 RX0 yX0_weight cX0_weight 6 (some .long) 1 := ⟨tw_1195, tw_1197, se_X0_weight, tw_1198, tw_11, by decide +kernel⟩
theorem dX0_ofLate_47 : decode cX0_ofLate 47 = .ok (.invokevirtual 41, 3) := by decide +kernel
theorem dX0_ofLate_50 : decode cX0_ofLate 50 = .ok (.ladd, 1) := by decide +kernel
theorem dX0_ofLate_51 : decode cX0_ofLate 51 = .ok (.putfield 23, 3) := by decide +kernel
theorem dX0_meanLate_0 : decode cX0_meanLate 0 = .ok (.aload_n 0, 1) := by decide +kernel
theorem dX0_meanLate_1 : decode cX0_meanLate 1 = .ok (.iload_n 1, 1) := by decide +kernel
theorem dX0_meanLate_2 : decode cX0_meanLate 2 = .ok (.invokevirtual 19, 3) := by decide +kernel
theorem dX0_meanLate_5 : decode cX0_meanLate 5 = .ok (.aload_n 0, 1) := by decide +kernel
theorem dX0_meanLate_6 : decode cX0_meanLate 6 = .ok (.lconst 0, 1) := by decide +kernel
theorem dX0_meanLate_7 : decode cX0_meanLate 7 = .ok (.putfield 23, 3) := by decide +kernel
theorem dX0_meanLate_10 : decode cX0_meanLate 10 = .ok (.iconst 0, 1) := by decide +kernel
theorem dX0_meanLate_11 : decode cX0_meanLate 11 = .ok (.istore_n 2, 1) := by decide +kernel
theorem dX0_meanLate_12 : decode cX0_meanLate 12 = .ok (.iload_n 2, 1) := by decide +kernel
theorem dX0_meanLate_13 : decode cX0_meanLate 13 = .ok (.iconst 1, 1) := by decide +kernel
theorem dX0_meanLate_14 : decode cX0_meanLate 14 = .ok (.aload_n 0, 1) := by decide +kernel
theorem dX0_meanLate_15 : decode cX0_meanLate 15 = .ok (.getfield 27, 3) := by decide +kernel
theorem dX0_meanLate_18 : decode cX0_meanLate 18 = .ok (.ishl, 1) := by decide +kernel
theorem dX0_meanLate_19 : decode cX0_meanLate 19 = .ok (.if_icmp .ge 39, 3) := by decide +kernel
theorem dX0_meanLate_58 : decode cX0_meanLate 58 = .ok (.aload_n 0, 1) := by decide +kernel
theorem dX0_meanLate_59 : decode cX0_meanLate 59 = .ok (.invokevirtual 45, 3) := by decide +kernel
theorem dX0_meanLate_62 : decode cX0_meanLate 62 = .ok (.return_, 1) := by decide +kernel
theorem dX0_meanLate_22 : decode cX0_meanLate 22 = .ok (.aload_n 0, 1) := by decide +kernel
theorem dX0_meanLate_23 : decode cX0_meanLate 23 = .ok (.iload_n 2, 1) := by decide +kernel
theorem dX0_meanLate_24 : decode cX0_meanLate 24 = .ok (.iload_n 1, 1) := by decide +kernel
theorem dX0_meanLate_25 : decode cX0_meanLate 25 = .ok (.invokevirtual 31, 3) := by decide +kernel
theorem dX0_meanLate_28 : decode cX0_meanLate 28 = .ok (.aload_n 0, 1) := by decide +kernel
theorem dX0_meanLate_29 : decode cX0_meanLate 29 = .ok (.dup, 1) := by decide +kernel
theorem dX0_meanLate_30 : decode cX0_meanLate 30 = .ok (.getfield 23, 3) := by decide +kernel
theorem dX0_meanLate_33 : decode cX0_meanLate 33 = .ok (.aload_n 0, 1) := by decide +kernel
theorem dX0_meanLate_34 : decode cX0_meanLate 34 = .ok (.iload_n 2, 1) := by decide +kernel
theorem dX0_meanLate_35 : decode cX0_meanLate 35 = .ok (.invokevirtual 41, 3) := by decide +kernel
theorem dX0_meanLate_38 : decode cX0_meanLate 38 = .ok (.aload_n 0, 1) := by decide +kernel
theorem dX0_meanLate_39 : decode cX0_meanLate 39 = .ok (.getfield 15, 3) := by decide +kernel
theorem dX0_meanLate_42 : decode cX0_meanLate 42 = .ok (.iload_n 1, 1) := by decide +kernel
theorem dX0_meanLate_43 : decode cX0_meanLate 43 = .ok (.invokevirtual 35, 3) := by decide +kernel
theorem dX0_meanLate_46 : decode cX0_meanLate 46 = .ok (.i2l, 1) := by decide +kernel
theorem dX0_meanLate_47 : decode cX0_meanLate 47 = .ok (.lmul, 1) := by decide +kernel
theorem dX0_meanLate_48 : decode cX0_meanLate 48 = .ok (.ladd, 1) := by decide +kernel
theorem dX0_meanLate_49 : decode cX0_meanLate 49 = .ok (.putfield 23, 3) := by decide +kernel
theorem dX0_meanLate_52 : decode cX0_meanLate 52 = .ok (.iinc 2 1, 3) := by decide +kernel
theorem dX0_meanLate_55 : decode cX0_meanLate 55 = .ok (.goto (-43), 3) := by decide +kernel
theorem tw_167 : (Jvm.Cond.fieldLinkNest "MarshBells$Chances" (93 : Nat) "MarshBells$Plan" "lessonCount" "I" "MarshBells") ∈ lw_tbl := tk_1 (List.mem_of_getElem? (i := 167) rfl)
theorem fl_X0_93 : kFN RX0 93 7 5 2 := ⟨RX7, TX7, rfl, by decide, inWX7, tw_167⟩
theorem tw_439 : (Jvm.Cond.fieldLink "MarshBells$Chances" (77 : Nat) "MarshBells$Chances" "seed" "I") ∈ lw_tbl := tk_2 (List.mem_of_getElem? (i := 199) rfl)
theorem fl_X0_77 : kFL RX0 77 0 7 4 := ⟨RX0, TX0, rfl, by decide, inWX0, tw_439⟩
theorem dX0_drawOfTen_0 : decode cX0_drawOfTen 0 = .ok (.aload_n 0, 1) := by decide +kernel
theorem dX0_drawOfTen_1 : decode cX0_drawOfTen 1 = .ok (.aload_n 0, 1) := by decide +kernel
theorem dX0_drawOfTen_2 : decode cX0_drawOfTen 2 = .ok (.getfield 77, 3) := by decide +kernel
theorem tw_1320 : (Jvm.Cond.constant "MarshBells$Chances" (99 : Nat) (1103515245 : Int32)) ∈ lw_tbl := tk_6 (List.mem_of_getElem? (i := 120) rfl)
theorem dX0_drawOfTen_5 : decode cX0_drawOfTen 5 = .ok (.ldc 99, 2) := by decide +kernel
theorem dX0_drawOfTen_7 : decode cX0_drawOfTen 7 = .ok (.imul, 1) := by decide +kernel
theorem dX0_drawOfTen_8 : decode cX0_drawOfTen 8 = .ok (.sipush 12345, 3) := by decide +kernel
theorem dX0_drawOfTen_11 : decode cX0_drawOfTen 11 = .ok (.iadd, 1) := by decide +kernel
theorem ft_X0_4 : kFT 0 4 .int false RX0 := ⟨RX0, TX0, 7, tyX0, rfl, tyX0_ok, nmX0, rfl, by decide +kernel, rfl⟩
theorem dX0_drawOfTen_12 : decode cX0_drawOfTen 12 = .ok (.putfield 77, 3) := by decide +kernel
theorem dX0_drawOfTen_15 : decode cX0_drawOfTen 15 = .ok (.aload_n 0, 1) := by decide +kernel
theorem dX0_drawOfTen_16 : decode cX0_drawOfTen 16 = .ok (.getfield 77, 3) := by decide +kernel
theorem dX0_drawOfTen_19 : decode cX0_drawOfTen 19 = .ok (.bipush 16, 2) := by decide +kernel
theorem dX0_drawOfTen_21 : decode cX0_drawOfTen 21 = .ok (.iushr, 1) := by decide +kernel
theorem dX0_drawOfTen_22 : decode cX0_drawOfTen 22 = .ok (.sipush 32767, 3) := by decide +kernel
theorem dX0_drawOfTen_25 : decode cX0_drawOfTen 25 = .ok (.iand, 1) := by decide +kernel
theorem dX0_drawOfTen_26 : decode cX0_drawOfTen 26 = .ok (.bipush 10, 2) := by decide +kernel
theorem dX0_drawOfTen_28 : decode cX0_drawOfTen 28 = .ok (.irem, 1) := by decide +kernel
theorem dX0_drawOfTen_29 : decode cX0_drawOfTen 29 = .ok (.ireturn, 1) := by decide +kernel
theorem dX0_drawRunning_0 : decode cX0_drawRunning 0 = .ok (.iconst 0, 1) := by decide +kernel
theorem dX0_drawRunning_1 : decode cX0_drawRunning 1 = .ok (.istore_n 1, 1) := by decide +kernel
theorem dX0_drawRunning_2 : decode cX0_drawRunning 2 = .ok (.iconst 0, 1) := by decide +kernel
theorem dX0_drawRunning_3 : decode cX0_drawRunning 3 = .ok (.istore_n 2, 1) := by decide +kernel
theorem dX0_drawRunning_4 : decode cX0_drawRunning 4 = .ok (.iload_n 2, 1) := by decide +kernel
theorem dX0_drawRunning_5 : decode cX0_drawRunning 5 = .ok (.aload_n 0, 1) := by decide +kernel
theorem dX0_drawRunning_6 : decode cX0_drawRunning 6 = .ok (.getfield 15, 3) := by decide +kernel
theorem dX0_drawRunning_9 : decode cX0_drawRunning 9 = .ok (.getfield 54, 3) := by decide +kernel
theorem dX0_drawRunning_12 : decode cX0_drawRunning 12 = .ok (.getfield 93, 3) := by decide +kernel
theorem dX0_drawRunning_15 : decode cX0_drawRunning 15 = .ok (.if_icmp .ge 45, 3) := by decide +kernel
theorem dX0_drawRunning_60 : decode cX0_drawRunning 60 = .ok (.iload_n 1, 1) := by decide +kernel
theorem dX0_drawRunning_61 : decode cX0_drawRunning 61 = .ok (.ireturn, 1) := by decide +kernel
theorem dX0_drawRunning_18 : decode cX0_drawRunning 18 = .ok (.aload_n 0, 1) := by decide +kernel
theorem dX0_drawRunning_19 : decode cX0_drawRunning 19 = .ok (.getfield 15, 3) := by decide +kernel
theorem dX0_drawRunning_22 : decode cX0_drawRunning 22 = .ok (.getfield 54, 3) := by decide +kernel
theorem dX0_drawRunning_25 : decode cX0_drawRunning 25 = .ok (.getfield 58, 3) := by decide +kernel
theorem dX0_drawRunning_28 : decode cX0_drawRunning 28 = .ok (.iload_n 2, 1) := by decide +kernel
theorem dX0_drawRunning_29 : decode cX0_drawRunning 29 = .ok (.aaload, 1) := by decide +kernel
theorem dX0_drawRunning_30 : decode cX0_drawRunning 30 = .ok (.getfield 64, 3) := by decide +kernel
theorem dX0_drawRunning_33 : decode cX0_drawRunning 33 = .ok (.istore_n 3, 1) := by decide +kernel
theorem dX0_drawRunning_34 : decode cX0_drawRunning 34 = .ok (.iload_n 3, 1) := by decide +kernel
theorem dX0_drawRunning_35 : decode cX0_drawRunning 35 = .ok (.bipush 10, 2) := by decide +kernel
theorem dX0_drawRunning_54 : decode cX0_drawRunning 54 = .ok (.iinc 2 1, 3) := by decide +kernel
theorem dX0_drawRunning_57 : decode cX0_drawRunning 57 = .ok (.goto (-53), 3) := by decide +kernel
theorem dX0_drawRunning_48 : decode cX0_drawRunning 48 = .ok (.iload_n 1, 1) := by decide +kernel
theorem dX0_drawRunning_49 : decode cX0_drawRunning 49 = .ok (.iconst 1, 1) := by decide +kernel
theorem dX0_drawRunning_50 : decode cX0_drawRunning 50 = .ok (.iload_n 2, 1) := by decide +kernel
theorem dX0_drawRunning_51 : decode cX0_drawRunning 51 = .ok (.ishl, 1) := by decide +kernel
theorem dX0_drawRunning_52 : decode cX0_drawRunning 52 = .ok (.ior, 1) := by decide +kernel
theorem dX0_drawRunning_53 : decode cX0_drawRunning 53 = .ok (.istore_n 1, 1) := by decide +kernel
theorem dX0_drawRunning_37 : decode cX0_drawRunning 37 = .ok (.if_icmp .eq 11, 3) := by decide +kernel
theorem dX0_drawRunning_40 : decode cX0_drawRunning 40 = .ok (.aload_n 0, 1) := by decide +kernel
theorem tw_1316 : (Jvm.Cond.methodLink "MarshBells$Chances" (96 : Nat) ({ cls := "MarshBells$Chances", name := "drawOfTen", desc := "()I" } : Jvm.MethodName)) ∈ lw_tbl := tk_6 (List.mem_of_getElem? (i := 116) rfl)
theorem tw_1319 : (Jvm.Cond.code ({ cls := "MarshBells$Chances", name := "drawOfTen", desc := "()I" } : Jvm.MethodName) prog_2_method_10_code (1 : Nat) (Option.some Jvm.ClassFile.FieldType.int)) ∈ lw_tbl := tk_6 (List.mem_of_getElem? (i := 119) rfl)
theorem tw_1318 : (Jvm.Cond.instanceMethod ({ cls := "MarshBells$Chances", name := "drawOfTen", desc := "()I" } : Jvm.MethodName)) ∈ lw_tbl := tk_6 (List.mem_of_getElem? (i := 118) rfl)
theorem se_X0_drawOfTen : Cond.selects RX0 yX0_drawOfTen yX0_drawOfTen ∈ lw_tbl := List.mem_append_left _ (List.mem_of_getElem? (i := 96) rfl)
theorem li_X0_96 : kLV RX0 96 RX0 yX0_drawOfTen cX0_drawOfTen 1 (some .int) 0 := ⟨tw_1316, tw_1318, se_X0_drawOfTen, tw_1319, tw_11, by decide +kernel⟩
theorem dX0_drawRunning_41 : decode cX0_drawRunning 41 = .ok (.invokevirtual 96, 3) := by decide +kernel
theorem dX0_drawRunning_44 : decode cX0_drawRunning 44 = .ok (.iload_n 3, 1) := by decide +kernel
theorem dX0_drawRunning_45 : decode cX0_drawRunning 45 = .ok (.if_icmp .ge 9, 3) := by decide +kernel
theorem dX0_ofTerm_0 : decode cX0_ofTerm 0 = .ok (.aload_n 0, 1) := by decide +kernel
theorem dX0_ofTerm_1 : decode cX0_ofTerm 1 = .ok (.iload_n 1, 1) := by decide +kernel
theorem dX0_ofTerm_2 : decode cX0_ofTerm 2 = .ok (.putfield 77, 3) := by decide +kernel
theorem dX0_ofTerm_5 : decode cX0_ofTerm 5 = .ok (.iconst 0, 1) := by decide +kernel
theorem dX0_ofTerm_6 : decode cX0_ofTerm 6 = .ok (.istore 5, 2) := by decide +kernel
theorem dX0_ofTerm_8 : decode cX0_ofTerm 8 = .ok (.iconst 0, 1) := by decide +kernel
theorem dX0_ofTerm_9 : decode cX0_ofTerm 9 = .ok (.istore 6, 2) := by decide +kernel
theorem dX0_ofTerm_11 : decode cX0_ofTerm 11 = .ok (.iconst 0, 1) := by decide +kernel
theorem dX0_ofTerm_12 : decode cX0_ofTerm 12 = .ok (.istore 7, 2) := by decide +kernel
theorem dX0_ofTerm_14 : decode cX0_ofTerm 14 = .ok (.iconst 0, 1) := by decide +kernel
theorem dX0_ofTerm_15 : decode cX0_ofTerm 15 = .ok (.istore 8, 2) := by decide +kernel
theorem dX0_ofTerm_17 : decode cX0_ofTerm 17 = .ok (.iload 8, 2) := by decide +kernel
theorem dX0_ofTerm_19 : decode cX0_ofTerm 19 = .ok (.iload_n 2, 1) := by decide +kernel
theorem dX0_ofTerm_20 : decode cX0_ofTerm 20 = .ok (.if_icmp .ge 67, 3) := by decide +kernel
theorem dX0_ofTerm_87 : decode cX0_ofTerm 87 = .ok (.aload_n 0, 1) := by decide +kernel
theorem dX0_ofTerm_88 : decode cX0_ofTerm 88 = .ok (.getfield 15, 3) := by decide +kernel
theorem dX0_ofTerm_91 : decode cX0_ofTerm 91 = .ok (.iconst (-1), 1) := by decide +kernel
theorem dX0_ofTerm_92 : decode cX0_ofTerm 92 = .ok (.putfield 71, 3) := by decide +kernel
theorem dX0_ofTerm_95 : decode cX0_ofTerm 95 = .ok (.iload 4, 2) := by decide +kernel
theorem dX0_ofTerm_97 : decode cX0_ofTerm 97 = .ok (.ifCond .ne 6, 3) := by decide +kernel
theorem dX0_ofTerm_103 : decode cX0_ofTerm 103 = .ok (.iload 4, 2) := by decide +kernel
theorem dX0_ofTerm_105 : decode cX0_ofTerm 105 = .ok (.iconst 1, 1) := by decide +kernel
theorem dX0_ofTerm_116 : decode cX0_ofTerm 116 = .ok (.ireturn, 1) := by decide +kernel
theorem dX0_ofTerm_106 : decode cX0_ofTerm 106 = .ok (.if_icmp .ne 8, 3) := by decide +kernel
theorem dX0_ofTerm_114 : decode cX0_ofTerm 114 = .ok (.iload 7, 2) := by decide +kernel
theorem dX0_ofTerm_109 : decode cX0_ofTerm 109 = .ok (.iload 6, 2) := by decide +kernel
theorem dX0_ofTerm_111 : decode cX0_ofTerm 111 = .ok (.goto 5, 3) := by decide +kernel
theorem dX0_ofTerm_100 : decode cX0_ofTerm 100 = .ok (.iload 5, 2) := by decide +kernel
theorem dX0_ofTerm_102 : decode cX0_ofTerm 102 = .ok (.ireturn, 1) := by decide +kernel
theorem dX0_ofTerm_23 : decode cX0_ofTerm 23 = .ok (.aload_n 0, 1) := by decide +kernel
theorem dX0_ofTerm_24 : decode cX0_ofTerm 24 = .ok (.getfield 15, 3) := by decide +kernel
theorem dX0_ofTerm_27 : decode cX0_ofTerm 27 = .ok (.aload_n 0, 1) := by decide +kernel
theorem tw_1312 : (Jvm.Cond.methodLink "MarshBells$Chances" (80 : Nat) ({ cls := "MarshBells$Chances", name := "drawRunning", desc := "()I" } : Jvm.MethodName)) ∈ lw_tbl := tk_6 (List.mem_of_getElem? (i := 112) rfl)
theorem tw_1315 : (Jvm.Cond.code ({ cls := "MarshBells$Chances", name := "drawRunning", desc := "()I" } : Jvm.MethodName) prog_2_method_9_code (4 : Nat) (Option.some Jvm.ClassFile.FieldType.int)) ∈ lw_tbl := tk_6 (List.mem_of_getElem? (i := 115) rfl)
theorem tw_1314 : (Jvm.Cond.instanceMethod ({ cls := "MarshBells$Chances", name := "drawRunning", desc := "()I" } : Jvm.MethodName)) ∈ lw_tbl := tk_6 (List.mem_of_getElem? (i := 114) rfl)
theorem se_X0_drawRunning : Cond.selects RX0 yX0_drawRunning yX0_drawRunning ∈ lw_tbl := List.mem_append_left _ (List.mem_of_getElem? (i := 95) rfl)
theorem li_X0_80 : kLV RX0 80 RX0 yX0_drawRunning cX0_drawRunning 4 (some .int) 0 := ⟨tw_1312, tw_1314, se_X0_drawRunning, tw_1315, tw_11, by decide +kernel⟩
theorem dX0_ofTerm_28 : decode cX0_ofTerm 28 = .ok (.invokevirtual 80, 3) := by decide +kernel
theorem dX0_ofTerm_31 : decode cX0_ofTerm 31 = .ok (.putfield 71, 3) := by decide +kernel
theorem dX0_ofTerm_34 : decode cX0_ofTerm 34 = .ok (.aload_n 0, 1) := by decide +kernel
theorem dX0_ofTerm_35 : decode cX0_ofTerm 35 = .ok (.getfield 15, 3) := by decide +kernel
theorem dX0_ofTerm_38 : decode cX0_ofTerm 38 = .ok (.iconst 0, 1) := by decide +kernel
theorem tw_1321 : (Jvm.Cond.methodLinkNest "MarshBells$Chances" (84 : Nat) ({ cls := "MarshBells$Day", name := "lostFrom", desc := "(I)I" } : Jvm.MethodName) "MarshBells") ∈ lw_tbl := tk_6 (List.mem_of_getElem? (i := 121) rfl)
theorem li_X0_84 : kLN RX0 84 RX1 yX1_lostFrom "MarshBells" cX1_lostFrom 3 (some .int) 1 := ⟨tw_1321, tw_606, se_X1_lostFrom, tw_607, tw_7, by decide +kernel⟩
theorem dX0_ofTerm_39 : decode cX0_ofTerm 39 = .ok (.invokevirtual 84, 3) := by decide +kernel
theorem dX0_ofTerm_42 : decode cX0_ofTerm 42 = .ok (.istore 9, 2) := by decide +kernel
theorem dX0_ofTerm_44 : decode cX0_ofTerm 44 = .ok (.iload 5, 2) := by decide +kernel
theorem dX0_ofTerm_46 : decode cX0_ofTerm 46 = .ok (.iload 9, 2) := by decide +kernel
theorem dX0_ofTerm_48 : decode cX0_ofTerm 48 = .ok (.iadd, 1) := by decide +kernel
theorem dX0_ofTerm_49 : decode cX0_ofTerm 49 = .ok (.istore 5, 2) := by decide +kernel
theorem dX0_ofTerm_51 : decode cX0_ofTerm 51 = .ok (.iload 6, 2) := by decide +kernel
theorem dX0_ofTerm_53 : decode cX0_ofTerm 53 = .ok (.iload 9, 2) := by decide +kernel
theorem tw_1322 : (Jvm.Cond.methodLink "MarshBells$Chances" (87 : Nat) ({ cls := "java/lang/Math", name := "max", desc := "(II)I" } : Jvm.MethodName)) ∈ lw_tbl := tk_6 (List.mem_of_getElem? (i := 122) rfl)
theorem lm_X0_87 : kLM RX0 87 Lib.Math.max.name Lib.Math.max.code := ⟨tw_1322, tw_628, tw_18, tw_629⟩
theorem dX0_ofTerm_55 : decode cX0_ofTerm 55 = .ok (.invokestatic 87, 3) := by decide +kernel
theorem dX0_ofTerm_58 : decode cX0_ofTerm 58 = .ok (.istore 6, 2) := by decide +kernel
theorem dX0_ofTerm_60 : decode cX0_ofTerm 60 = .ok (.iload 7, 2) := by decide +kernel
theorem dX0_ofTerm_62 : decode cX0_ofTerm 62 = .ok (.aload_n 0, 1) := by decide +kernel
theorem dX0_ofTerm_63 : decode cX0_ofTerm 63 = .ok (.getfield 15, 3) := by decide +kernel
theorem dX0_ofTerm_66 : decode cX0_ofTerm 66 = .ok (.iload_n 3, 1) := by decide +kernel
theorem dX0_ofTerm_67 : decode cX0_ofTerm 67 = .ok (.invokevirtual 35, 3) := by decide +kernel
theorem dX0_ofTerm_78 : decode cX0_ofTerm 78 = .ok (.iadd, 1) := by decide +kernel
theorem dX0_ofTerm_79 : decode cX0_ofTerm 79 = .ok (.istore 7, 2) := by decide +kernel
theorem dX0_ofTerm_81 : decode cX0_ofTerm 81 = .ok (.iinc 8 1, 3) := by decide +kernel
theorem dX0_ofTerm_84 : decode cX0_ofTerm 84 = .ok (.goto (-67), 3) := by decide +kernel
theorem dX0_ofTerm_70 : decode cX0_ofTerm 70 = .ok (.ifCond .le 7, 3) := by decide +kernel
theorem dX0_ofTerm_77 : decode cX0_ofTerm 77 = .ok (.iconst 0, 1) := by decide +kernel
theorem dX0_ofTerm_73 : decode cX0_ofTerm 73 = .ok (.iconst 1, 1) := by decide +kernel
theorem dX0_ofTerm_74 : decode cX0_ofTerm 74 = .ok (.goto 4, 3) := by decide +kernel
theorem tw_471 : (Jvm.Cond.laysFinal "MarshBells$Stair" "MarshBells$Stair" "day" "LMarshBells$Day;") ∈ lw_tbl := tk_2 (List.mem_of_getElem? (i := 231) rfl)
theorem tw_473 : (Jvm.Cond.laysFinal "MarshBells$Stair" "MarshBells$Stair" "starts" "[I") ∈ lw_tbl := tk_2 (List.mem_of_getElem? (i := 233) rfl)
theorem tw_475 : (Jvm.Cond.laysFinal "MarshBells$Stair" "MarshBells$Stair" "ends" "[I") ∈ lw_tbl := tk_2 (List.mem_of_getElem? (i := 235) rfl)
theorem tw_477 : (Jvm.Cond.laysFinal "MarshBells$Stair" "MarshBells$Stair" "people" "[I") ∈ lw_tbl := tk_2 (List.mem_of_getElem? (i := 237) rfl)
theorem tw_479 : (Jvm.Cond.laysFinal "MarshBells$Stair" "MarshBells$Stair" "up" "[Z") ∈ lw_tbl := tk_2 (List.mem_of_getElem? (i := 239) rfl)
theorem tw_481 : (Jvm.Cond.lays "MarshBells$Stair" "MarshBells$Stair" "ways" "I") ∈ lw_tbl := tk_3 (List.mem_of_getElem? (i := 1) rfl)
theorem inWX9 : ∀ w ∈ u_ws RX9 TX9 6, w ∈ lw_tbl := by
  have e : ∀ k, k < 6 → u_lay RX9 TX9 k ∈ lw_tbl := fun k hk => match k, hk with | 0, _ => tw_471 | 1, _ => tw_473 | 2, _ => tw_475 | 3, _ => tw_477 | 4, _ => tw_479 | 5, _ => tw_481 | k + 6, hk => absurd hk (by omega)
  intro w h
  obtain ⟨k, hk, rfl⟩ := List.mem_map.mp h
  exact e k (List.mem_range.mp hk)
theorem tw_465 : (Jvm.Cond.fieldLink "MarshBells$Stair" (25 : Nat) "MarshBells$Stair" "day" "LMarshBells$Day;") ∈ lw_tbl := tk_2 (List.mem_of_getElem? (i := 225) rfl)
theorem fl_X9_25 : kFL RX9 25 9 6 0 := ⟨RX9, TX9, rfl, by decide, inWX9, tw_465⟩
theorem tw_316 : (Jvm.Cond.fieldLinkNest "MarshBells$Stair" (39 : Nat) "MarshBells$Day" "plan" "LMarshBells$Plan;" "MarshBells") ∈ lw_tbl := tk_2 (List.mem_of_getElem? (i := 76) rfl)
theorem fl_X9_39 : kFN RX9 39 1 10 7 := ⟨RX1, TX1, rfl, by decide, inWX1, tw_316⟩
theorem tw_165 : (Jvm.Cond.fieldLinkNest "MarshBells$Stair" (43 : Nat) "MarshBells$Plan" "lessonCount" "I" "MarshBells") ∈ lw_tbl := tk_1 (List.mem_of_getElem? (i := 165) rfl)
theorem fl_X9_43 : kFN RX9 43 7 5 2 := ⟨RX7, TX7, rfl, by decide, inWX7, tw_165⟩
theorem tw_149 : (Jvm.Cond.fieldLinkNest "MarshBells$Stair" (48 : Nat) "MarshBells$Plan" "lessons" "[LMarshBells$Lesson;" "MarshBells") ∈ lw_tbl := tk_1 (List.mem_of_getElem? (i := 149) rfl)
theorem fl_X9_48 : kFN RX9 48 7 5 0 := ⟨RX7, TX7, rfl, by decide, inWX7, tw_149⟩
theorem tw_77 : (Jvm.Cond.fieldLinkNest "MarshBells$Stair" (52 : Nat) "MarshBells$Lesson" "waited" "I" "MarshBells") ∈ lw_tbl := tk_1 (List.mem_of_getElem? (i := 77) rfl)
theorem fl_X9_52 : kFN RX9 52 5 14 1 := ⟨RX5, TX5, rfl, by decide, inWX5, tw_77⟩
theorem tw_74 : (Jvm.Cond.fieldLinkNest "MarshBells$Stair" (57 : Nat) "MarshBells$Lesson" "waitedFor" "[I" "MarshBells") ∈ lw_tbl := tk_1 (List.mem_of_getElem? (i := 74) rfl)
theorem fl_X9_57 : kFN RX9 57 5 14 0 := ⟨RX5, TX5, rfl, by decide, inWX5, tw_74⟩
theorem tw_470 : (Jvm.Cond.fieldLink "MarshBells$Stair" (35 : Nat) "MarshBells$Stair" "ways" "I") ∈ lw_tbl := tk_2 (List.mem_of_getElem? (i := 230) rfl)
theorem fl_X9_35 : kFL RX9 35 9 6 5 := ⟨RX9, TX9, rfl, by decide, inWX9, tw_470⟩
theorem tw_466 : (Jvm.Cond.fieldLink "MarshBells$Stair" (9 : Nat) "MarshBells$Stair" "starts" "[I") ∈ lw_tbl := tk_2 (List.mem_of_getElem? (i := 226) rfl)
theorem fl_X9_9 : kFL RX9 9 9 6 1 := ⟨RX9, TX9, rfl, by decide, inWX9, tw_466⟩
theorem tw_305 : (Jvm.Cond.fieldLinkNest "MarshBells$Stair" (68 : Nat) "MarshBells$Day" "ends" "[I" "MarshBells") ∈ lw_tbl := tk_2 (List.mem_of_getElem? (i := 65) rfl)
theorem fl_X9_68 : kFN RX9 68 1 10 2 := ⟨RX1, TX1, rfl, by decide, inWX1, tw_305⟩
theorem tw_467 : (Jvm.Cond.fieldLink "MarshBells$Stair" (15 : Nat) "MarshBells$Stair" "ends" "[I") ∈ lw_tbl := tk_2 (List.mem_of_getElem? (i := 227) rfl)
theorem fl_X9_15 : kFL RX9 15 9 6 2 := ⟨RX9, TX9, rfl, by decide, inWX9, tw_467⟩
theorem tw_468 : (Jvm.Cond.fieldLink "MarshBells$Stair" (18 : Nat) "MarshBells$Stair" "people" "[I") ∈ lw_tbl := tk_2 (List.mem_of_getElem? (i := 228) rfl)
theorem fl_X9_18 : kFL RX9 18 9 6 3 := ⟨RX9, TX9, rfl, by decide, inWX9, tw_468⟩
theorem tw_99 : (Jvm.Cond.fieldLinkNest "MarshBells$Stair" (73 : Nat) "MarshBells$Lesson" "people" "I" "MarshBells") ∈ lw_tbl := tk_1 (List.mem_of_getElem? (i := 99) rfl)
theorem fl_X9_73 : kFN RX9 73 5 14 8 := ⟨RX5, TX5, rfl, by decide, inWX5, tw_99⟩
theorem tw_469 : (Jvm.Cond.fieldLink "MarshBells$Stair" (21 : Nat) "MarshBells$Stair" "up" "[Z") ∈ lw_tbl := tk_2 (List.mem_of_getElem? (i := 229) rfl)
theorem fl_X9_21 : kFL RX9 21 9 6 4 := ⟨RX9, TX9, rfl, by decide, inWX9, tw_469⟩
theorem dX9_addWay_0 : decode cX9_addWay 0 = .ok (.aload_n 0, 1) := by decide +kernel
theorem dX9_addWay_1 : decode cX9_addWay 1 = .ok (.getfield 35, 3) := by decide +kernel
theorem dX9_addWay_4 : decode cX9_addWay 4 = .ok (.bipush 72, 2) := by decide +kernel
theorem dX9_addWay_106 : decode cX9_addWay 106 = .ok (.return_, 1) := by decide +kernel
theorem dX9_addWay_6 : decode cX9_addWay 6 = .ok (.if_icmp .ge 100, 3) := by decide +kernel
theorem dX9_addWay_9 : decode cX9_addWay 9 = .ok (.aload_n 0, 1) := by decide +kernel
theorem dX9_addWay_10 : decode cX9_addWay 10 = .ok (.getfield 9, 3) := by decide +kernel
theorem dX9_addWay_13 : decode cX9_addWay 13 = .ok (.aload_n 0, 1) := by decide +kernel
theorem dX9_addWay_14 : decode cX9_addWay 14 = .ok (.getfield 35, 3) := by decide +kernel
theorem dX9_addWay_17 : decode cX9_addWay 17 = .ok (.aload_n 0, 1) := by decide +kernel
theorem dX9_addWay_18 : decode cX9_addWay 18 = .ok (.getfield 25, 3) := by decide +kernel
theorem dX9_addWay_21 : decode cX9_addWay 21 = .ok (.getfield 68, 3) := by decide +kernel
theorem dX9_addWay_24 : decode cX9_addWay 24 = .ok (.iload_n 1, 1) := by decide +kernel
theorem dX9_addWay_25 : decode cX9_addWay 25 = .ok (.iaload, 1) := by decide +kernel
theorem dX9_addWay_26 : decode cX9_addWay 26 = .ok (.iastore, 1) := by decide +kernel
theorem dX9_addWay_27 : decode cX9_addWay 27 = .ok (.aload_n 0, 1) := by decide +kernel
theorem dX9_addWay_28 : decode cX9_addWay 28 = .ok (.getfield 15, 3) := by decide +kernel
theorem dX9_addWay_31 : decode cX9_addWay 31 = .ok (.aload_n 0, 1) := by decide +kernel
theorem dX9_addWay_32 : decode cX9_addWay 32 = .ok (.getfield 35, 3) := by decide +kernel
theorem dX9_addWay_35 : decode cX9_addWay 35 = .ok (.aload_n 0, 1) := by decide +kernel
theorem dX9_addWay_36 : decode cX9_addWay 36 = .ok (.getfield 25, 3) := by decide +kernel
theorem dX9_addWay_39 : decode cX9_addWay 39 = .ok (.getfield 68, 3) := by decide +kernel
theorem dX9_addWay_42 : decode cX9_addWay 42 = .ok (.iload_n 1, 1) := by decide +kernel
theorem dX9_addWay_43 : decode cX9_addWay 43 = .ok (.iaload, 1) := by decide +kernel
theorem dX9_addWay_44 : decode cX9_addWay 44 = .ok (.aload_n 0, 1) := by decide +kernel
theorem dX9_addWay_45 : decode cX9_addWay 45 = .ok (.getfield 25, 3) := by decide +kernel
theorem dX9_addWay_48 : decode cX9_addWay 48 = .ok (.iload_n 1, 1) := by decide +kernel
theorem dX9_addWay_49 : decode cX9_addWay 49 = .ok (.iload_n 2, 1) := by decide +kernel
theorem tw_701 : (Jvm.Cond.methodLinkNest "MarshBells$Stair" (69 : Nat) ({ cls := "MarshBells$Day", name := "way", desc := "(II)I" } : Jvm.MethodName) "MarshBells") ∈ lw_tbl := tk_3 (List.mem_of_getElem? (i := 221) rfl)
theorem li_X9_69 : kLN RX9 69 RX1 yX1_way "MarshBells" cX1_way 4 (some .int) 2 := ⟨tw_701, tw_618, se_X1_way, tw_619, tw_7, by decide +kernel⟩
theorem dX9_addWay_50 : decode cX9_addWay 50 = .ok (.invokevirtual 69, 3) := by decide +kernel
theorem dX9_addWay_53 : decode cX9_addWay 53 = .ok (.iadd, 1) := by decide +kernel
theorem dX9_addWay_54 : decode cX9_addWay 54 = .ok (.iastore, 1) := by decide +kernel
theorem dX9_addWay_55 : decode cX9_addWay 55 = .ok (.aload_n 0, 1) := by decide +kernel
theorem dX9_addWay_56 : decode cX9_addWay 56 = .ok (.getfield 18, 3) := by decide +kernel
theorem dX9_addWay_59 : decode cX9_addWay 59 = .ok (.aload_n 0, 1) := by decide +kernel
theorem dX9_addWay_60 : decode cX9_addWay 60 = .ok (.getfield 35, 3) := by decide +kernel
theorem dX9_addWay_63 : decode cX9_addWay 63 = .ok (.aload_n 0, 1) := by decide +kernel
theorem dX9_addWay_64 : decode cX9_addWay 64 = .ok (.getfield 25, 3) := by decide +kernel
theorem dX9_addWay_67 : decode cX9_addWay 67 = .ok (.getfield 39, 3) := by decide +kernel
theorem dX9_addWay_70 : decode cX9_addWay 70 = .ok (.getfield 48, 3) := by decide +kernel
theorem dX9_addWay_73 : decode cX9_addWay 73 = .ok (.iload_n 1, 1) := by decide +kernel
theorem dX9_addWay_74 : decode cX9_addWay 74 = .ok (.aaload, 1) := by decide +kernel
theorem dX9_addWay_75 : decode cX9_addWay 75 = .ok (.getfield 73, 3) := by decide +kernel
theorem dX9_addWay_78 : decode cX9_addWay 78 = .ok (.iastore, 1) := by decide +kernel
theorem dX9_addWay_79 : decode cX9_addWay 79 = .ok (.aload_n 0, 1) := by decide +kernel
theorem dX9_addWay_80 : decode cX9_addWay 80 = .ok (.getfield 21, 3) := by decide +kernel
theorem dX9_addWay_83 : decode cX9_addWay 83 = .ok (.aload_n 0, 1) := by decide +kernel
theorem dX9_addWay_84 : decode cX9_addWay 84 = .ok (.getfield 35, 3) := by decide +kernel
theorem dX9_addWay_87 : decode cX9_addWay 87 = .ok (.aload_n 0, 1) := by decide +kernel
theorem dX9_addWay_88 : decode cX9_addWay 88 = .ok (.getfield 25, 3) := by decide +kernel
theorem dX9_addWay_91 : decode cX9_addWay 91 = .ok (.iload_n 2, 1) := by decide +kernel
theorem tw_696 : (Jvm.Cond.methodLinkNest "MarshBells$Stair" (60 : Nat) ({ cls := "MarshBells$Day", name := "isUpstairs", desc := "(I)Z" } : Jvm.MethodName) "MarshBells") ∈ lw_tbl := tk_3 (List.mem_of_getElem? (i := 216) rfl)
theorem li_X9_60 : kLN RX9 60 RX1 yX1_isUpstairs "MarshBells" cX1_isUpstairs 2 (some .boolean) 1 := ⟨tw_696, tw_625, se_X1_isUpstairs, tw_626, tw_7, by decide +kernel⟩
theorem dX9_addWay_92 : decode cX9_addWay 92 = .ok (.invokevirtual 60, 3) := by decide +kernel
theorem dX9_addWay_95 : decode cX9_addWay 95 = .ok (.bastore, 1) := by decide +kernel
theorem dX9_addWay_96 : decode cX9_addWay 96 = .ok (.aload_n 0, 1) := by decide +kernel
theorem dX9_addWay_97 : decode cX9_addWay 97 = .ok (.dup, 1) := by decide +kernel
theorem dX9_addWay_98 : decode cX9_addWay 98 = .ok (.getfield 35, 3) := by decide +kernel
theorem dX9_addWay_101 : decode cX9_addWay 101 = .ok (.iconst 1, 1) := by decide +kernel
theorem dX9_addWay_102 : decode cX9_addWay 102 = .ok (.iadd, 1) := by decide +kernel
theorem ft_X9_5 : kFT 9 5 .int false RX9 := ⟨RX9, TX9, 6, tyX9, rfl, tyX9_ok, nmX9, rfl, by decide +kernel, rfl⟩
theorem dX9_addWay_103 : decode cX9_addWay 103 = .ok (.putfield 35, 3) := by decide +kernel
theorem dX9_gather_0 : decode cX9_gather 0 = .ok (.aload_n 0, 1) := by decide +kernel
theorem dX9_gather_1 : decode cX9_gather 1 = .ok (.getfield 25, 3) := by decide +kernel
theorem dX9_gather_4 : decode cX9_gather 4 = .ok (.iconst 0, 1) := by decide +kernel
theorem tw_692 : (Jvm.Cond.methodLinkNest "MarshBells$Stair" (29 : Nat) ({ cls := "MarshBells$Day", name := "runFrom", desc := "(I)V" } : Jvm.MethodName) "MarshBells") ∈ lw_tbl := tk_3 (List.mem_of_getElem? (i := 212) rfl)
theorem li_X9_29 : kLN RX9 29 RX1 yX1_runFrom "MarshBells" cX1_runFrom 3 none 1 := ⟨tw_692, tw_694, se_X1_runFrom, tw_695, tw_7, by decide +kernel⟩
theorem dX9_gather_5 : decode cX9_gather 5 = .ok (.invokevirtual 29, 3) := by decide +kernel
theorem dX9_gather_8 : decode cX9_gather 8 = .ok (.aload_n 0, 1) := by decide +kernel
theorem dX9_gather_9 : decode cX9_gather 9 = .ok (.iconst 0, 1) := by decide +kernel
theorem dX9_gather_10 : decode cX9_gather 10 = .ok (.putfield 35, 3) := by decide +kernel
theorem dX9_gather_13 : decode cX9_gather 13 = .ok (.iconst 0, 1) := by decide +kernel
theorem dX9_gather_14 : decode cX9_gather 14 = .ok (.istore_n 1, 1) := by decide +kernel
theorem dX9_gather_15 : decode cX9_gather 15 = .ok (.iload_n 1, 1) := by decide +kernel
theorem dX9_gather_16 : decode cX9_gather 16 = .ok (.aload_n 0, 1) := by decide +kernel
theorem dX9_gather_17 : decode cX9_gather 17 = .ok (.getfield 25, 3) := by decide +kernel
theorem dX9_gather_20 : decode cX9_gather 20 = .ok (.getfield 39, 3) := by decide +kernel
theorem dX9_gather_23 : decode cX9_gather 23 = .ok (.getfield 43, 3) := by decide +kernel
theorem dX9_gather_26 : decode cX9_gather 26 = .ok (.if_icmp .ge 73, 3) := by decide +kernel
theorem dX9_gather_99 : decode cX9_gather 99 = .ok (.return_, 1) := by decide +kernel
theorem dX9_gather_29 : decode cX9_gather 29 = .ok (.aload_n 0, 1) := by decide +kernel
theorem dX9_gather_30 : decode cX9_gather 30 = .ok (.getfield 25, 3) := by decide +kernel
theorem dX9_gather_33 : decode cX9_gather 33 = .ok (.getfield 39, 3) := by decide +kernel
theorem dX9_gather_36 : decode cX9_gather 36 = .ok (.getfield 48, 3) := by decide +kernel
theorem dX9_gather_39 : decode cX9_gather 39 = .ok (.iload_n 1, 1) := by decide +kernel
theorem dX9_gather_40 : decode cX9_gather 40 = .ok (.aaload, 1) := by decide +kernel
theorem dX9_gather_41 : decode cX9_gather 41 = .ok (.astore_n 2, 1) := by decide +kernel
theorem dX9_gather_42 : decode cX9_gather 42 = .ok (.iconst 0, 1) := by decide +kernel
theorem dX9_gather_43 : decode cX9_gather 43 = .ok (.istore_n 3, 1) := by decide +kernel
theorem dX9_gather_44 : decode cX9_gather 44 = .ok (.iload_n 3, 1) := by decide +kernel
theorem dX9_gather_45 : decode cX9_gather 45 = .ok (.aload_n 2, 1) := by decide +kernel
theorem dX9_gather_46 : decode cX9_gather 46 = .ok (.getfield 52, 3) := by decide +kernel
theorem dX9_gather_49 : decode cX9_gather 49 = .ok (.if_icmp .ge 44, 3) := by decide +kernel
theorem dX9_gather_93 : decode cX9_gather 93 = .ok (.iinc 1 1, 3) := by decide +kernel
theorem dX9_gather_96 : decode cX9_gather 96 = .ok (.goto (-81), 3) := by decide +kernel
theorem dX9_gather_52 : decode cX9_gather 52 = .ok (.aload_n 2, 1) := by decide +kernel
theorem dX9_gather_53 : decode cX9_gather 53 = .ok (.getfield 57, 3) := by decide +kernel
theorem dX9_gather_56 : decode cX9_gather 56 = .ok (.iload_n 3, 1) := by decide +kernel
theorem dX9_gather_57 : decode cX9_gather 57 = .ok (.iaload, 1) := by decide +kernel
theorem dX9_gather_58 : decode cX9_gather 58 = .ok (.istore 4, 2) := by decide +kernel
theorem dX9_gather_60 : decode cX9_gather 60 = .ok (.aload_n 0, 1) := by decide +kernel
theorem dX9_gather_61 : decode cX9_gather 61 = .ok (.getfield 25, 3) := by decide +kernel
theorem dX9_gather_64 : decode cX9_gather 64 = .ok (.iload 4, 2) := by decide +kernel
theorem dX9_gather_66 : decode cX9_gather 66 = .ok (.invokevirtual 60, 3) := by decide +kernel
theorem dX9_gather_69 : decode cX9_gather 69 = .ok (.aload_n 0, 1) := by decide +kernel
theorem dX9_gather_70 : decode cX9_gather 70 = .ok (.getfield 25, 3) := by decide +kernel
theorem dX9_gather_73 : decode cX9_gather 73 = .ok (.iload_n 1, 1) := by decide +kernel
theorem dX9_gather_74 : decode cX9_gather 74 = .ok (.invokevirtual 60, 3) := by decide +kernel
theorem dX9_gather_87 : decode cX9_gather 87 = .ok (.iinc 3 1, 3) := by decide +kernel
theorem dX9_gather_90 : decode cX9_gather 90 = .ok (.goto (-46), 3) := by decide +kernel
theorem dX9_gather_77 : decode cX9_gather 77 = .ok (.if_icmp .eq 10, 3) := by decide +kernel
theorem dX9_gather_80 : decode cX9_gather 80 = .ok (.aload_n 0, 1) := by decide +kernel
theorem dX9_gather_81 : decode cX9_gather 81 = .ok (.iload 4, 2) := by decide +kernel
theorem dX9_gather_83 : decode cX9_gather 83 = .ok (.iload_n 1, 1) := by decide +kernel
theorem tw_697 : (Jvm.Cond.methodLink "MarshBells$Stair" (64 : Nat) ({ cls := "MarshBells$Stair", name := "addWay", desc := "(II)V" } : Jvm.MethodName)) ∈ lw_tbl := tk_3 (List.mem_of_getElem? (i := 217) rfl)
theorem tw_12 : (Jvm.Cond.initialized "MarshBells$Stair") ∈ lw_tbl := tk_1 (List.mem_of_getElem? (i := 12) rfl)
theorem tw_700 : (Jvm.Cond.code ({ cls := "MarshBells$Stair", name := "addWay", desc := "(II)V" } : Jvm.MethodName) prog_11_method_3_code (3 : Nat) (Option.none : Option Jvm.ClassFile.FieldType)) ∈ lw_tbl := tk_3 (List.mem_of_getElem? (i := 220) rfl)
theorem tw_699 : (Jvm.Cond.instanceMethod ({ cls := "MarshBells$Stair", name := "addWay", desc := "(II)V" } : Jvm.MethodName)) ∈ lw_tbl := tk_3 (List.mem_of_getElem? (i := 219) rfl)
theorem se_X9_addWay : Cond.selects RX9 yX9_addWay yX9_addWay ∈ lw_tbl := List.mem_append_left _ (List.mem_of_getElem? (i := 28) rfl)
theorem li_X9_64 : kLV RX9 64 RX9 yX9_addWay cX9_addWay 3 none 2 := ⟨tw_697, tw_699, se_X9_addWay, tw_700, tw_12, by decide +kernel⟩
theorem dX9_gather_84 : decode cX9_gather 84 = .ok (.invokevirtual 64, 3) := by decide +kernel
theorem dX9_crossings_0 : decode cX9_crossings 0 = .ok (.iconst 0, 1) := by decide +kernel
theorem dX9_crossings_1 : decode cX9_crossings 1 = .ok (.istore_n 1, 1) := by decide +kernel
theorem dX9_crossings_2 : decode cX9_crossings 2 = .ok (.iconst 0, 1) := by decide +kernel
theorem dX9_crossings_3 : decode cX9_crossings 3 = .ok (.istore_n 2, 1) := by decide +kernel
theorem dX9_crossings_4 : decode cX9_crossings 4 = .ok (.iload_n 2, 1) := by decide +kernel
theorem dX9_crossings_5 : decode cX9_crossings 5 = .ok (.aload_n 0, 1) := by decide +kernel
theorem dX9_crossings_6 : decode cX9_crossings 6 = .ok (.getfield 35, 3) := by decide +kernel
theorem dX9_crossings_9 : decode cX9_crossings 9 = .ok (.if_icmp .ge 95, 3) := by decide +kernel
theorem dX9_crossings_104 : decode cX9_crossings 104 = .ok (.iload_n 1, 1) := by decide +kernel
theorem dX9_crossings_105 : decode cX9_crossings 105 = .ok (.ireturn, 1) := by decide +kernel
theorem dX9_crossings_12 : decode cX9_crossings 12 = .ok (.iload_n 2, 1) := by decide +kernel
theorem dX9_crossings_13 : decode cX9_crossings 13 = .ok (.iconst 1, 1) := by decide +kernel
theorem dX9_crossings_14 : decode cX9_crossings 14 = .ok (.iadd, 1) := by decide +kernel
theorem dX9_crossings_15 : decode cX9_crossings 15 = .ok (.istore_n 3, 1) := by decide +kernel
theorem dX9_crossings_16 : decode cX9_crossings 16 = .ok (.iload_n 3, 1) := by decide +kernel
theorem dX9_crossings_17 : decode cX9_crossings 17 = .ok (.aload_n 0, 1) := by decide +kernel
theorem dX9_crossings_18 : decode cX9_crossings 18 = .ok (.getfield 35, 3) := by decide +kernel
theorem dX9_crossings_21 : decode cX9_crossings 21 = .ok (.if_icmp .ge 77, 3) := by decide +kernel
theorem dX9_crossings_98 : decode cX9_crossings 98 = .ok (.iinc 2 1, 3) := by decide +kernel
theorem dX9_crossings_101 : decode cX9_crossings 101 = .ok (.goto (-97), 3) := by decide +kernel
theorem dX9_crossings_24 : decode cX9_crossings 24 = .ok (.aload_n 0, 1) := by decide +kernel
theorem dX9_crossings_25 : decode cX9_crossings 25 = .ok (.getfield 9, 3) := by decide +kernel
theorem dX9_crossings_28 : decode cX9_crossings 28 = .ok (.iload_n 2, 1) := by decide +kernel
theorem dX9_crossings_29 : decode cX9_crossings 29 = .ok (.iaload, 1) := by decide +kernel
theorem dX9_crossings_30 : decode cX9_crossings 30 = .ok (.aload_n 0, 1) := by decide +kernel
theorem dX9_crossings_31 : decode cX9_crossings 31 = .ok (.getfield 9, 3) := by decide +kernel
theorem dX9_crossings_34 : decode cX9_crossings 34 = .ok (.iload_n 3, 1) := by decide +kernel
theorem dX9_crossings_35 : decode cX9_crossings 35 = .ok (.iaload, 1) := by decide +kernel
theorem tw_706 : (Jvm.Cond.methodLink "MarshBells$Stair" (75 : Nat) ({ cls := "java/lang/Math", name := "max", desc := "(II)I" } : Jvm.MethodName)) ∈ lw_tbl := tk_3 (List.mem_of_getElem? (i := 226) rfl)
theorem lm_X9_75 : kLM RX9 75 Lib.Math.max.name Lib.Math.max.code := ⟨tw_706, tw_628, tw_18, tw_629⟩
theorem dX9_crossings_36 : decode cX9_crossings 36 = .ok (.invokestatic 75, 3) := by decide +kernel
theorem dX9_crossings_39 : decode cX9_crossings 39 = .ok (.aload_n 0, 1) := by decide +kernel
theorem dX9_crossings_40 : decode cX9_crossings 40 = .ok (.getfield 15, 3) := by decide +kernel
theorem dX9_crossings_43 : decode cX9_crossings 43 = .ok (.iload_n 2, 1) := by decide +kernel
theorem dX9_crossings_44 : decode cX9_crossings 44 = .ok (.iaload, 1) := by decide +kernel
theorem dX9_crossings_45 : decode cX9_crossings 45 = .ok (.aload_n 0, 1) := by decide +kernel
theorem dX9_crossings_46 : decode cX9_crossings 46 = .ok (.getfield 15, 3) := by decide +kernel
theorem dX9_crossings_49 : decode cX9_crossings 49 = .ok (.iload_n 3, 1) := by decide +kernel
theorem dX9_crossings_50 : decode cX9_crossings 50 = .ok (.iaload, 1) := by decide +kernel
theorem tw_707 : (Jvm.Cond.methodLink "MarshBells$Stair" (80 : Nat) ({ cls := "java/lang/Math", name := "min", desc := "(II)I" } : Jvm.MethodName)) ∈ lw_tbl := tk_3 (List.mem_of_getElem? (i := 227) rfl)
theorem lm_X9_80 : kLM RX9 80 Lib.Math.min.name Lib.Math.min.code := ⟨tw_707, tw_650, tw_18, tw_651⟩
theorem dX9_crossings_51 : decode cX9_crossings 51 = .ok (.invokestatic 80, 3) := by decide +kernel
theorem dX9_crossings_62 : decode cX9_crossings 62 = .ok (.istore 4, 2) := by decide +kernel
theorem dX9_crossings_64 : decode cX9_crossings 64 = .ok (.iload_n 1, 1) := by decide +kernel
theorem dX9_crossings_65 : decode cX9_crossings 65 = .ok (.iload 4, 2) := by decide +kernel
theorem dX9_crossings_90 : decode cX9_crossings 90 = .ok (.iadd, 1) := by decide +kernel
theorem dX9_crossings_91 : decode cX9_crossings 91 = .ok (.istore_n 1, 1) := by decide +kernel
theorem dX9_crossings_92 : decode cX9_crossings 92 = .ok (.iinc 3 1, 3) := by decide +kernel
theorem dX9_crossings_95 : decode cX9_crossings 95 = .ok (.goto (-79), 3) := by decide +kernel
theorem dX9_crossings_89 : decode cX9_crossings 89 = .ok (.iconst 0, 1) := by decide +kernel
theorem dX9_crossings_67 : decode cX9_crossings 67 = .ok (.ifCond .eq 22, 3) := by decide +kernel
theorem dX9_crossings_70 : decode cX9_crossings 70 = .ok (.aload_n 0, 1) := by decide +kernel
theorem dX9_crossings_71 : decode cX9_crossings 71 = .ok (.getfield 21, 3) := by decide +kernel
theorem dX9_crossings_74 : decode cX9_crossings 74 = .ok (.iload_n 2, 1) := by decide +kernel
theorem dX9_crossings_75 : decode cX9_crossings 75 = .ok (.baload, 1) := by decide +kernel
theorem dX9_crossings_76 : decode cX9_crossings 76 = .ok (.aload_n 0, 1) := by decide +kernel
theorem dX9_crossings_77 : decode cX9_crossings 77 = .ok (.getfield 21, 3) := by decide +kernel
theorem dX9_crossings_80 : decode cX9_crossings 80 = .ok (.iload_n 3, 1) := by decide +kernel
theorem dX9_crossings_81 : decode cX9_crossings 81 = .ok (.baload, 1) := by decide +kernel
theorem dX9_crossings_82 : decode cX9_crossings 82 = .ok (.if_icmp .eq 7, 3) := by decide +kernel
theorem dX9_crossings_85 : decode cX9_crossings 85 = .ok (.iconst 1, 1) := by decide +kernel
theorem dX9_crossings_86 : decode cX9_crossings 86 = .ok (.goto 4, 3) := by decide +kernel
theorem dX9_crossings_54 : decode cX9_crossings 54 = .ok (.if_icmp .ge 7, 3) := by decide +kernel
theorem dX9_crossings_61 : decode cX9_crossings 61 = .ok (.iconst 0, 1) := by decide +kernel
theorem dX9_crossings_57 : decode cX9_crossings 57 = .ok (.iconst 1, 1) := by decide +kernel
theorem dX9_crossings_58 : decode cX9_crossings 58 = .ok (.goto 4, 3) := by decide +kernel
theorem dX9_peopleIn_0 : decode cX9_peopleIn 0 = .ok (.iconst 0, 1) := by decide +kernel
theorem dX9_peopleIn_1 : decode cX9_peopleIn 1 = .ok (.istore_n 2, 1) := by decide +kernel
theorem dX9_peopleIn_2 : decode cX9_peopleIn 2 = .ok (.iconst 0, 1) := by decide +kernel
theorem dX9_peopleIn_3 : decode cX9_peopleIn 3 = .ok (.istore_n 3, 1) := by decide +kernel
theorem dX9_peopleIn_4 : decode cX9_peopleIn 4 = .ok (.iload_n 3, 1) := by decide +kernel
theorem dX9_peopleIn_5 : decode cX9_peopleIn 5 = .ok (.aload_n 0, 1) := by decide +kernel
theorem dX9_peopleIn_6 : decode cX9_peopleIn 6 = .ok (.getfield 35, 3) := by decide +kernel
theorem dX9_peopleIn_9 : decode cX9_peopleIn 9 = .ok (.if_icmp .ge 42, 3) := by decide +kernel
theorem dX9_peopleIn_51 : decode cX9_peopleIn 51 = .ok (.iload_n 2, 1) := by decide +kernel
theorem dX9_peopleIn_52 : decode cX9_peopleIn 52 = .ok (.ireturn, 1) := by decide +kernel
theorem dX9_peopleIn_12 : decode cX9_peopleIn 12 = .ok (.iload_n 2, 1) := by decide +kernel
theorem dX9_peopleIn_13 : decode cX9_peopleIn 13 = .ok (.aload_n 0, 1) := by decide +kernel
theorem dX9_peopleIn_14 : decode cX9_peopleIn 14 = .ok (.getfield 9, 3) := by decide +kernel
theorem dX9_peopleIn_17 : decode cX9_peopleIn 17 = .ok (.iload_n 3, 1) := by decide +kernel
theorem dX9_peopleIn_18 : decode cX9_peopleIn 18 = .ok (.iaload, 1) := by decide +kernel
theorem dX9_peopleIn_19 : decode cX9_peopleIn 19 = .ok (.iload_n 1, 1) := by decide +kernel
theorem dX9_peopleIn_43 : decode cX9_peopleIn 43 = .ok (.iadd, 1) := by decide +kernel
theorem dX9_peopleIn_44 : decode cX9_peopleIn 44 = .ok (.istore_n 2, 1) := by decide +kernel
theorem dX9_peopleIn_45 : decode cX9_peopleIn 45 = .ok (.iinc 3 1, 3) := by decide +kernel
theorem dX9_peopleIn_48 : decode cX9_peopleIn 48 = .ok (.goto (-44), 3) := by decide +kernel
theorem dX9_peopleIn_42 : decode cX9_peopleIn 42 = .ok (.iconst 0, 1) := by decide +kernel
theorem dX9_peopleIn_20 : decode cX9_peopleIn 20 = .ok (.if_icmp .gt 22, 3) := by decide +kernel
theorem dX9_peopleIn_23 : decode cX9_peopleIn 23 = .ok (.iload_n 1, 1) := by decide +kernel
theorem dX9_peopleIn_24 : decode cX9_peopleIn 24 = .ok (.aload_n 0, 1) := by decide +kernel
theorem dX9_peopleIn_25 : decode cX9_peopleIn 25 = .ok (.getfield 15, 3) := by decide +kernel
theorem dX9_peopleIn_28 : decode cX9_peopleIn 28 = .ok (.iload_n 3, 1) := by decide +kernel
theorem dX9_peopleIn_29 : decode cX9_peopleIn 29 = .ok (.iaload, 1) := by decide +kernel
theorem dX9_peopleIn_30 : decode cX9_peopleIn 30 = .ok (.if_icmp .ge 12, 3) := by decide +kernel
theorem dX9_peopleIn_33 : decode cX9_peopleIn 33 = .ok (.aload_n 0, 1) := by decide +kernel
theorem dX9_peopleIn_34 : decode cX9_peopleIn 34 = .ok (.getfield 18, 3) := by decide +kernel
theorem dX9_peopleIn_37 : decode cX9_peopleIn 37 = .ok (.iload_n 3, 1) := by decide +kernel
theorem dX9_peopleIn_38 : decode cX9_peopleIn 38 = .ok (.iaload, 1) := by decide +kernel
theorem dX9_peopleIn_39 : decode cX9_peopleIn 39 = .ok (.goto 4, 3) := by decide +kernel
theorem dX9_busiestMinute_0 : decode cX9_busiestMinute 0 = .ok (.iconst (-1), 1) := by decide +kernel
theorem dX9_busiestMinute_1 : decode cX9_busiestMinute 1 = .ok (.istore_n 1, 1) := by decide +kernel
theorem dX9_busiestMinute_2 : decode cX9_busiestMinute 2 = .ok (.iconst 0, 1) := by decide +kernel
theorem dX9_busiestMinute_3 : decode cX9_busiestMinute 3 = .ok (.istore_n 2, 1) := by decide +kernel
theorem dX9_busiestMinute_4 : decode cX9_busiestMinute 4 = .ok (.iconst 0, 1) := by decide +kernel
theorem dX9_busiestMinute_5 : decode cX9_busiestMinute 5 = .ok (.istore_n 3, 1) := by decide +kernel
theorem dX9_busiestMinute_6 : decode cX9_busiestMinute 6 = .ok (.iload_n 3, 1) := by decide +kernel
theorem dX9_busiestMinute_7 : decode cX9_busiestMinute 7 = .ok (.aload_n 0, 1) := by decide +kernel
theorem dX9_busiestMinute_8 : decode cX9_busiestMinute 8 = .ok (.getfield 35, 3) := by decide +kernel
theorem dX9_busiestMinute_11 : decode cX9_busiestMinute 11 = .ok (.if_icmp .ge 53, 3) := by decide +kernel
theorem dX9_busiestMinute_64 : decode cX9_busiestMinute 64 = .ok (.iload_n 1, 1) := by decide +kernel
theorem dX9_busiestMinute_65 : decode cX9_busiestMinute 65 = .ok (.ireturn, 1) := by decide +kernel
theorem dX9_busiestMinute_14 : decode cX9_busiestMinute 14 = .ok (.aload_n 0, 1) := by decide +kernel
theorem dX9_busiestMinute_15 : decode cX9_busiestMinute 15 = .ok (.aload_n 0, 1) := by decide +kernel
theorem dX9_busiestMinute_16 : decode cX9_busiestMinute 16 = .ok (.getfield 9, 3) := by decide +kernel
theorem dX9_busiestMinute_19 : decode cX9_busiestMinute 19 = .ok (.iload_n 3, 1) := by decide +kernel
theorem dX9_busiestMinute_20 : decode cX9_busiestMinute 20 = .ok (.iaload, 1) := by decide +kernel
theorem tw_1368 : (Jvm.Cond.methodLink "MarshBells$Stair" (83 : Nat) ({ cls := "MarshBells$Stair", name := "peopleIn", desc := "(I)I" } : Jvm.MethodName)) ∈ lw_tbl := tk_6 (List.mem_of_getElem? (i := 168) rfl)
theorem tw_1337 : (Jvm.Cond.code ({ cls := "MarshBells$Stair", name := "peopleIn", desc := "(I)I" } : Jvm.MethodName) prog_11_method_5_code (4 : Nat) (Option.some Jvm.ClassFile.FieldType.int)) ∈ lw_tbl := tk_6 (List.mem_of_getElem? (i := 137) rfl)
theorem tw_1336 : (Jvm.Cond.instanceMethod ({ cls := "MarshBells$Stair", name := "peopleIn", desc := "(I)I" } : Jvm.MethodName)) ∈ lw_tbl := tk_6 (List.mem_of_getElem? (i := 136) rfl)
theorem se_X9_peopleIn : Cond.selects RX9 yX9_peopleIn yX9_peopleIn ∈ lw_tbl := List.mem_append_left _ (List.mem_of_getElem? (i := 98) rfl)
theorem li_X9_83 : kLV RX9 83 RX9 yX9_peopleIn cX9_peopleIn 4 (some .int) 1 := ⟨tw_1368, tw_1336, se_X9_peopleIn, tw_1337, tw_12, by decide +kernel⟩
theorem dX9_busiestMinute_21 : decode cX9_busiestMinute 21 = .ok (.invokevirtual 83, 3) := by decide +kernel
theorem dX9_busiestMinute_24 : decode cX9_busiestMinute 24 = .ok (.istore 4, 2) := by decide +kernel
theorem dX9_busiestMinute_26 : decode cX9_busiestMinute 26 = .ok (.iload 4, 2) := by decide +kernel
theorem dX9_busiestMinute_28 : decode cX9_busiestMinute 28 = .ok (.iload_n 2, 1) := by decide +kernel
theorem dX9_busiestMinute_58 : decode cX9_busiestMinute 58 = .ok (.iinc 3 1, 3) := by decide +kernel
theorem dX9_busiestMinute_61 : decode cX9_busiestMinute 61 = .ok (.goto (-55), 3) := by decide +kernel
theorem dX9_busiestMinute_48 : decode cX9_busiestMinute 48 = .ok (.iload 4, 2) := by decide +kernel
theorem dX9_busiestMinute_50 : decode cX9_busiestMinute 50 = .ok (.istore_n 2, 1) := by decide +kernel
theorem dX9_busiestMinute_51 : decode cX9_busiestMinute 51 = .ok (.aload_n 0, 1) := by decide +kernel
theorem dX9_busiestMinute_52 : decode cX9_busiestMinute 52 = .ok (.getfield 9, 3) := by decide +kernel
theorem dX9_busiestMinute_55 : decode cX9_busiestMinute 55 = .ok (.iload_n 3, 1) := by decide +kernel
theorem dX9_busiestMinute_56 : decode cX9_busiestMinute 56 = .ok (.iaload, 1) := by decide +kernel
theorem dX9_busiestMinute_57 : decode cX9_busiestMinute 57 = .ok (.istore_n 1, 1) := by decide +kernel
theorem dX9_busiestMinute_29 : decode cX9_busiestMinute 29 = .ok (.if_icmp .gt 19, 3) := by decide +kernel
theorem dX9_busiestMinute_32 : decode cX9_busiestMinute 32 = .ok (.iload 4, 2) := by decide +kernel
theorem dX9_busiestMinute_34 : decode cX9_busiestMinute 34 = .ok (.iload_n 2, 1) := by decide +kernel
theorem dX9_busiestMinute_35 : decode cX9_busiestMinute 35 = .ok (.if_icmp .ne 23, 3) := by decide +kernel
theorem dX9_busiestMinute_38 : decode cX9_busiestMinute 38 = .ok (.aload_n 0, 1) := by decide +kernel
theorem dX9_busiestMinute_39 : decode cX9_busiestMinute 39 = .ok (.getfield 9, 3) := by decide +kernel
theorem dX9_busiestMinute_42 : decode cX9_busiestMinute 42 = .ok (.iload_n 3, 1) := by decide +kernel
theorem dX9_busiestMinute_43 : decode cX9_busiestMinute 43 = .ok (.iaload, 1) := by decide +kernel
theorem dX9_busiestMinute_44 : decode cX9_busiestMinute 44 = .ok (.iload_n 1, 1) := by decide +kernel
theorem dX9_busiestMinute_45 : decode cX9_busiestMinute 45 = .ok (.if_icmp .ge 13, 3) := by decide +kernel
def fX0_findUnsure_11_p104 (fu : Nat) (k17 : Int32 × (Nat → Nat → Int32) × (Nat → Nat → Int64) → Option ((Unit) × zS)) (v1 : Int32) (v2 : Int32) (g : Nat → Nat → Int32) (L : Nat → Nat → Int64) : Option ((Unit) × zS) :=
  k17 ((v2 + 1), g, L)
def fX0_findUnsure_11_s17 (fu : Nat) (v1 : Int32) (k17 : Int32 × (Nat → Nat → Int32) × (Nat → Nat → Int64) → Option ((Unit) × zS)) (v2 : Int32) (g : Nat → Nat → Int32) (L : Nat → Nat → Int64) : Option ((Unit) × zS) :=
  if v1 < (v2 : Int32) then some ((), (g, L))
  else ck v2 12 (ltn (57 + (Int32.toNatClampNeg v2) % 12) (fun q5 =>
  lti (g q5 12) (fun x6 =>
  if x6 = 0 then sti g 11 3 ((g 11 3) ||| ((1 : Int32) <<< ((v2 : Int32) &&& 31) : Int32)) (fun g13 =>
  fX0_findUnsure_11_p104 fu k17 v1 v2 g13 L)
  else if 10 ≤ (x6 : Int32) then fX0_findUnsure_11_p104 fu k17 v1 v2 g L
  else if 8 ≤ (g 11 2) then fX0_findUnsure_11_p104 fu k17 v1 v2 g L
  else ck (g 11 2) 8 (sti g 52 (Int32.toNatClampNeg (g 11 2)) v2 (fun g10 =>
  sti g10 11 2 ((g10 11 2) + 1) (fun g11 =>
  stl L 11 6 ((L 11 6) * 10) (fun L12 =>
  fX0_findUnsure_11_p104 fu k17 v1 v2 g11 L12)))))))
def fX0_findUnsure_11_l17 (fu : Nat) (v1 : Int32) (v2 : Int32) (g : Nat → Nat → Int32) (L : Nat → Nat → Int64) : Option ((Unit) × zS) :=
  whileK (fun k v => fX0_findUnsure_11_s17 fu v1 k v.1 v.2.1 v.2.2) fu (v2, g, L)
def fX0_findUnsure_11 (fu : Nat) (p1 : Int32) (g : Nat → Nat → Int32) (L : Nat → Nat → Int64) : Option ((Unit) × zS) :=
  sti g 11 2 0 (fun g1 =>
  sti g1 11 3 0 (fun g2 =>
  stl L 11 6 1 (fun L3 =>
  fX0_findUnsure_11_l17 fu p1 0 g2 L3)))
set_option maxHeartbeats 4000000 in
set_option maxRecDepth 100000 in
theorem rX0_findUnsure_11 (l : Launch) (G : kG) (sz : Nat) (b : Nat) (a : Nat → Nat) (fu : Nat) (g : Nat → Nat → Int32) (L : Nat → Nat → Int64) (p1 : Int32) (res : Unit) (s9 : zS) (h : fX0_findUnsure_11 fu p1 g L = some (res, s9)) : kM l yX0_findUnsure cX0_findUnsure 4 none { frames := 6, cells := 0, slots := 0, locals := 110 } G [.ref (a 11), .int p1] (zw G (XS b) 105 a g L) sz (kQv G (S := Unit) (fun _ => True) (fun _ => zw G (XS b) 105 a s9.1 s9.2)) := by
  refine kM.of (by decide) (Nat.le_of_ble_eq_true rfl) ?_
  intro p e s m below meth c A ls H C hr hlk hnm hP hD hS hl
  have C : kC G p s m c cX0_findUnsure 4 RX0 A := C
  have hx := C.1
  have hb := C.2.1
  have hl : lv_has ls 4 [(0, .ref (a 11)), (1, .int p1)] := hl
  obtain ⟨locs, hlocs⟩ : ∃ q : List Loc, q = [] := ⟨_, rfl⟩
  rw [← hlocs] at hS
  rw [← hlocs]
  unfold fX0_findUnsure_11 at h
  refine lv_aload_n hx hb dX0_findUnsure_0 rfl (lv_at hl 0 rfl) ?_
  refine lv_iconst (v := 0) hx hb dX0_findUnsure_1 (by decide) ?_
  refine y_puti (Or.inl fl_X0_27) ft_X0_2 C hP hD hS (by decide) xs_11 rfl rfl rfl dX0_findUnsure_2 h (fun g1 H locs h hP hD hS => ?_)
  refine lv_aload_n hx hb dX0_findUnsure_5 rfl (lv_at hl 0 rfl) ?_
  refine lv_iconst (v := 0) hx hb dX0_findUnsure_6 (by decide) ?_
  refine y_puti (Or.inl fl_X0_48) ft_X0_3 C hP hD hS (by decide) xs_11 rfl rfl rfl dX0_findUnsure_7 h (fun g2 H locs h hP hD hS => ?_)
  refine lv_aload_n hx hb dX0_findUnsure_10 rfl (lv_at hl 0 rfl) ?_
  refine lv_lconst (v := 1) hx hb dX0_findUnsure_11 (by decide) ?_
  refine y_putl (Or.inl fl_X0_51) ft_X0_6 C hP hD hS (by decide) xs_11 rfl dX0_findUnsure_12 h (fun L3 H locs h hP hD hS => ?_)
  refine lv_iconst (v := 0) hx hb dX0_findUnsure_15 (by decide) ?_
  refine lv_istore_n (lv' := [(2, .int 0), (0, .ref (a 11)), (1, .int p1)]) hx hb dX0_findUnsure_16 rfl hl (by decide) rfl (fun ls hl => ?_)
  have lp17 : ∀ (v1 : Int32), ∀ (n : Nat) (v : Int32 × (Nat → Nat → Int32) × (Nat → Nat → Int64)), whileK (fun k v => fX0_findUnsure_11_s17 fu v1 k v.1 v.2.1 v.2.2) n v = some (res, s9) → ∀ (H : Heap) (locs : List Loc) (ls : Array Slot), va_P G.1 vwCl (zw G (XS b) 105 a (v.2.1) (v.2.2)) H → va_D A (zw G (XS b) 105 a (v.2.1) (v.2.2)) → va_S A s.heap H locs → lv_has ls 4 [(0, .ref (a 11)), (1, .int v1), (2, .int (v.1))] → W p l e { frames := 6, cells := 0, slots := 0, locals := 110 } s m [.ref (a 11), .int p1].toArray below meth c H locs 0 0 (MQ below ((kQv G (S := Unit) (fun _ => True) (fun _ => zw G (XS b) 105 a s9.1 s9.2)) A) [.ref (a 11), .int p1].toArray s 0 0 A) (F0 m 17 ls []) := by
    intro v1
    refine while_ind (fun k17 ih17 v h => ?_)
    obtain ⟨v2, g, L⟩ := v
    intro H locs ls hP hD hS hl
    have h : fX0_findUnsure_11_s17 fu v1 k17 v2 g L = some (res, s9) := h
    have hP : va_P G.1 vwCl (zw G (XS b) 105 a g L) H := hP
    have hD : va_D A (zw G (XS b) 105 a g L) := hD
    have hl : lv_has ls 4 [(0, .ref (a 11)), (1, .int v1), (2, .int v2)] := hl
    show W p l e { frames := 6, cells := 0, slots := 0, locals := 110 } s m [.ref (a 11), .int p1].toArray below meth c H locs 0 0 (MQ below ((kQv G (S := Unit) (fun _ => True) (fun _ => zw G (XS b) 105 a s9.1 s9.2)) A) [.ref (a 11), .int p1].toArray s 0 0 A) (F0 m 17 ls [])
    unfold fX0_findUnsure_11_s17 at h
    refine lv_iload_n hx hb dX0_findUnsure_17 rfl (lv_at hl 2 rfl) ?_
    refine lv_iload_n hx hb dX0_findUnsure_18 rfl (lv_at hl 1 rfl) ?_
    refine lv_icmp_gt (x := v2) (y := v1) (tgt := 110) hx hb dX0_findUnsure_19 (by decide) (fun c4 => ?_) (fun c4 => ?_)
    ·
      have h := ite_t c4 h
      exact y_vret C hr hlk hP hD hS h (Nat.le_of_ble_eq_true rfl) (Nat.le_of_ble_eq_true rfl) dX0_findUnsure_110
    ·
      have h := ite_e c4 h
      refine lv_aload_n hx hb dX0_findUnsure_22 rfl (lv_at hl 0 rfl) ?_
      refine x_getr (Or.inl fl_X0_15) C hP (by decide) xs_11 rfl dX0_findUnsure_23 ?_
      refine x_getr (Or.inr fl_X0_54) C hP (by decide) xs_8 rfl dX0_findUnsure_26 ?_
      refine x_getr (Or.inr fl_X0_58) C hP (by decide) xs_1 rfl dX0_findUnsure_29 ?_
      refine lv_iload_n hx hb dX0_findUnsure_32 rfl (lv_at hl 2 rfl) ?_
      refine y_aald (t := 57) C hP (by decide) xs_17 dX0_findUnsure_33 h (fun q5 q5l q5h h => ?_)
      refine x_getv (v := .int (g q5 12)) (Or.inr fl_X0_64) C hP (by omega) (xs_les (by omega) (by omega)) rfl dX0_findUnsure_34 ?_
      refine y_let h (fun x6 h => ?_)
      refine lv_istore_n (lv' := [(3, .int x6), (0, .ref (a 11)), (1, .int v1), (2, .int v2)]) hx hb dX0_findUnsure_37 rfl hl (by decide) rfl (fun ls hl => ?_)
      refine lv_iload_n hx hb dX0_findUnsure_38 rfl (lv_at hl 0 rfl) ?_
      have J104 : ∀ (v2 : Int32) (g : Nat → Nat → Int32) (L : Nat → Nat → Int64) (H : Heap) (locs : List Loc) (ls : Array Slot), fX0_findUnsure_11_p104 fu k17 v1 v2 g L = some (res, s9) → va_P G.1 vwCl (zw G (XS b) 105 a g L) H → va_D A (zw G (XS b) 105 a g L) → va_S A s.heap H locs → lv_has ls 4 [(0, .ref (a 11)), (1, .int v1), (2, .int v2)] → W p l e { frames := 6, cells := 0, slots := 0, locals := 110 } s m [.ref (a 11), .int p1].toArray below meth c H locs 0 0 (MQ below ((kQv G (S := Unit) (fun _ => True) (fun _ => zw G (XS b) 105 a s9.1 s9.2)) A) [.ref (a 11), .int p1].toArray s 0 0 A) (F0 m 104 ls []) := by
        intro v2 g L H locs ls h hP hD hS hl
        unfold fX0_findUnsure_11_p104 at h
        refine lv_iinc (v := (v2 + 1)) (lv' := [(2, .int (v2 + 1)), (0, .ref (a 11)), (1, .int v1)]) hx hb dX0_findUnsure_104 hl (k := 2) rfl rfl (by decide) rfl (fun ls hl => ?_)
        refine lv_goto (tgt := 17) hx hb dX0_findUnsure_107 (by decide) ?_
        exact ih17 ((v2 + 1), g, L) h H locs ls hP hD hS (lv_sub hl [1, 2, 0] rfl)
      refine lv_if_ne (x := x6) (tgt := 57) hx hb dX0_findUnsure_39 (by decide) (fun c7 => ?_) (fun c7 => ?_)
      ·
        have h := ite_e c7 h
        refine lv_iload_n hx hb dX0_findUnsure_57 rfl (lv_at hl 0 rfl) ?_
        refine lv_bipush (v := 10) hx hb dX0_findUnsure_58 (by decide) ?_
        refine lv_icmp_ge (x := x6) (y := 10) (tgt := 104) hx hb dX0_findUnsure_60 (by decide) (fun c8 => ?_) (fun c8 => ?_)
        ·
          have h := ite_t c8 h
          exact J104 v2 g L H locs ls h hP hD hS (lv_sub hl [1, 2, 3] rfl)
        ·
          have h := ite_e c8 h
          refine lv_aload_n hx hb dX0_findUnsure_63 rfl (lv_at hl 1 rfl) ?_
          refine x_getv (v := .int (g 11 2)) (Or.inl fl_X0_27) C hP (by decide) xs_11 rfl dX0_findUnsure_64 ?_
          refine lv_bipush (v := 8) hx hb dX0_findUnsure_67 (by decide) ?_
          refine lv_icmp_ge (x := (g 11 2)) (y := 8) (tgt := 104) hx hb dX0_findUnsure_69 (by decide) (fun c9 => ?_) (fun c9 => ?_)
          ·
            have h := ite_t c9 h
            exact J104 v2 g L H locs ls h hP hD hS (lv_sub hl [1, 2, 3] rfl)
          ·
            have h := ite_e c9 h
            refine lv_aload_n hx hb dX0_findUnsure_72 rfl (lv_at hl 1 rfl) ?_
            refine x_getr (Or.inl fl_X0_9) C hP (by decide) xs_11 rfl dX0_findUnsure_73 ?_
            refine lv_aload_n hx hb dX0_findUnsure_76 rfl (lv_at hl 1 rfl) ?_
            refine x_getv (v := .int (g 11 2)) (Or.inl fl_X0_27) C hP (by decide) xs_11 rfl dX0_findUnsure_77 ?_
            refine lv_iload_n hx hb dX0_findUnsure_80 rfl (lv_at hl 3 rfl) ?_
            refine y_ast C hP hD hS (by decide) xs_52 dX0_findUnsure_81 h (fun g10 H locs h hP hD hS => ?_)
            refine lv_aload_n hx hb dX0_findUnsure_82 rfl (lv_at hl 1 rfl) ?_
            refine lv_dup hx hb dX0_findUnsure_83 rfl ?_
            refine x_getv (v := .int (g10 11 2)) (Or.inl fl_X0_27) C hP (by decide) xs_11 rfl dX0_findUnsure_84 ?_
            refine lv_iconst (v := 1) hx hb dX0_findUnsure_87 (by decide) ?_
            refine lv_iadd hx hb dX0_findUnsure_88 ?_
            refine y_puti (Or.inl fl_X0_27) ft_X0_2 C hP hD hS (by decide) xs_11 rfl rfl rfl dX0_findUnsure_89 h (fun g11 H locs h hP hD hS => ?_)
            refine lv_aload_n hx hb dX0_findUnsure_92 rfl (lv_at hl 1 rfl) ?_
            refine lv_dup hx hb dX0_findUnsure_93 rfl ?_
            refine x_getv (v := .long (L 11 6)) (Or.inl fl_X0_51) C hP (by decide) xs_11 rfl dX0_findUnsure_94 ?_
            refine lv_ldc2 (v := 10) hx hb C.2.2.2.1 (C.2.2.2.2.1.w tw_1188 rfl) dX0_findUnsure_97 ?_
            refine lv_lmul hx hb dX0_findUnsure_100 ?_
            refine y_putl (Or.inl fl_X0_51) ft_X0_6 C hP hD hS (by decide) xs_11 rfl dX0_findUnsure_101 h (fun L12 H locs h hP hD hS => ?_)
            exact J104 v2 g11 L12 H locs ls h hP hD hS (lv_sub hl [1, 2, 3] rfl)
      ·
        have h := ite_t c7 h
        refine lv_aload_n hx hb dX0_findUnsure_42 rfl (lv_at hl 1 rfl) ?_
        refine lv_dup hx hb dX0_findUnsure_43 rfl ?_
        refine x_getv (v := .int (g 11 3)) (Or.inl fl_X0_48) C hP (by decide) xs_11 rfl dX0_findUnsure_44 ?_
        refine lv_iconst (v := 1) hx hb dX0_findUnsure_47 (by decide) ?_
        refine lv_iload_n hx hb dX0_findUnsure_48 rfl (lv_at hl 3 rfl) ?_
        refine lv_ishl hx hb dX0_findUnsure_49 ?_
        refine lv_ior hx hb dX0_findUnsure_50 ?_
        refine y_puti (Or.inl fl_X0_48) ft_X0_3 C hP hD hS (by decide) xs_11 rfl rfl rfl dX0_findUnsure_51 h (fun g13 H locs h hP hD hS => ?_)
        refine lv_goto (tgt := 104) hx hb dX0_findUnsure_54 (by decide) ?_
        exact J104 v2 g13 L H locs ls h hP hD hS (lv_sub hl [1, 2, 3] rfl)
  exact lp17 p1 fu (0, g2, L3) h H locs ls hP hD hS (lv_sub hl [1, 2, 0] rfl)
def fX0_reduce_11_p69 (fu : Nat) (g : Nat → Nat → Int32) (L : Nat → Nat → Int64) : Option ((Unit) × zS) :=
  some ((), (g, L))
def fX0_reduce_11_p43 (fu : Nat) (v1 : Int64) (g : Nat → Nat → Int32) (L : Nat → Nat → Int64) : Option ((Unit) × zS) :=
  if (lg_cmp v1 1) ≤ 0 then fX0_reduce_11_p69 fu g L
  else cnzL v1 (
  stl L 11 5 ((L 11 5) / v1) (fun L4 =>
  cnzL v1 (
  stl L4 11 6 ((L4 11 6) / v1) (fun L5 =>
  fX0_reduce_11_p69 fu g L5))))
def fX0_reduce_11_s13 (fu : Nat) (k13 : Int64 × Int64 × Int32 × (Nat → Nat → Int32) × (Nat → Nat → Int64) → Option ((Unit) × zS)) (v1 : Int64) (v3 : Int64) (v5 : Int32) (g : Nat → Nat → Int32) (L : Nat → Nat → Int64) : Option ((Unit) × zS) :=
  if 200 ≤ (v5 : Int32) then fX0_reduce_11_p43 fu v1 g L
  else if (lg_cmp v3 0) = 0 then fX0_reduce_11_p43 fu v1 g L
  else cnzL v3 (
  ltl (v1 - v1 / v3 * v3) (fun y8 =>
  k13 (v3, y8, (v5 + 1), g, L)))
def fX0_reduce_11_l13 (fu : Nat) (v1 : Int64) (v3 : Int64) (v5 : Int32) (g : Nat → Nat → Int32) (L : Nat → Nat → Int64) : Option ((Unit) × zS) :=
  whileK (fun k v => fX0_reduce_11_s13 fu k v.1 v.2.1 v.2.2.1 v.2.2.2.1 v.2.2.2.2) fu (v1, v3, v5, g, L)
def fX0_reduce_11 (fu : Nat) (g : Nat → Nat → Int32) (L : Nat → Nat → Int64) : Option ((Unit) × zS) :=
  ltl (L 11 6) (fun y1 =>
  ltl (L 11 5) (fun y2 =>
  fX0_reduce_11_l13 fu y1 y2 0 g L))
set_option maxHeartbeats 4000000 in
set_option maxRecDepth 100000 in
theorem rX0_reduce_11 (l : Launch) (G : kG) (sz : Nat) (b : Nat) (a : Nat → Nat) (fu : Nat) (g : Nat → Nat → Int32) (L : Nat → Nat → Int64) (res : Unit) (s9 : zS) (h : fX0_reduce_11 fu g L = some (res, s9)) : kM l yX0_reduce cX0_reduce 8 none { frames := 6, cells := 0, slots := 0, locals := 110 } G [.ref (a 11)] (zw G (XS b) 105 a g L) sz (kQv G (S := Unit) (fun _ => True) (fun _ => zw G (XS b) 105 a s9.1 s9.2)) := by
  refine kM.of (by decide) (Nat.le_of_ble_eq_true rfl) ?_
  intro p e s m below meth c A ls H C hr hlk hnm hP hD hS hl
  have C : kC G p s m c cX0_reduce 8 RX0 A := C
  have hx := C.1
  have hb := C.2.1
  have hl : lv_has ls 8 [(0, .ref (a 11))] := hl
  obtain ⟨locs, hlocs⟩ : ∃ q : List Loc, q = [] := ⟨_, rfl⟩
  rw [← hlocs] at hS
  rw [← hlocs]
  unfold fX0_reduce_11 at h
  refine lv_aload_n hx hb dX0_reduce_0 rfl (lv_at hl 0 rfl) ?_
  refine x_getv (v := .long (L 11 6)) (Or.inl fl_X0_51) C hP (by decide) xs_11 rfl dX0_reduce_1 ?_
  refine y_letL h (fun y1 h => ?_)
  refine lv_lstore_n (lv' := [(1, .long y1), (0, .ref (a 11))]) hx hb dX0_reduce_4 rfl hl (by decide) rfl (fun ls hl => ?_)
  refine lv_aload_n hx hb dX0_reduce_5 rfl (lv_at hl 1 rfl) ?_
  refine x_getv (v := .long (L 11 5)) (Or.inl fl_X0_23) C hP (by decide) xs_11 rfl dX0_reduce_6 ?_
  refine y_letL h (fun y2 h => ?_)
  refine lv_lstore_n (lv' := [(3, .long y2), (1, .long y1), (0, .ref (a 11))]) hx hb dX0_reduce_9 rfl hl (by decide) rfl (fun ls hl => ?_)
  refine lv_iconst (v := 0) hx hb dX0_reduce_10 (by decide) ?_
  refine lv_istore (lv' := [(5, .int 0), (3, .long y2), (1, .long y1), (0, .ref (a 11))]) hx hb dX0_reduce_11 hl (by decide) rfl (fun ls hl => ?_)
  have lp13 : ∀ (_ : True), ∀ (n : Nat) (v : Int64 × Int64 × Int32 × (Nat → Nat → Int32) × (Nat → Nat → Int64)), whileK (fun k v => fX0_reduce_11_s13 fu k v.1 v.2.1 v.2.2.1 v.2.2.2.1 v.2.2.2.2) n v = some (res, s9) → ∀ (H : Heap) (locs : List Loc) (ls : Array Slot), va_P G.1 vwCl (zw G (XS b) 105 a (v.2.2.2.1) (v.2.2.2.2)) H → va_D A (zw G (XS b) 105 a (v.2.2.2.1) (v.2.2.2.2)) → va_S A s.heap H locs → lv_has ls 8 [(0, .ref (a 11)), (1, .long (v.1)), (3, .long (v.2.1)), (5, .int (v.2.2.1))] → W p l e { frames := 6, cells := 0, slots := 0, locals := 110 } s m [.ref (a 11)].toArray below meth c H locs 0 0 (MQ below ((kQv G (S := Unit) (fun _ => True) (fun _ => zw G (XS b) 105 a s9.1 s9.2)) A) [.ref (a 11)].toArray s 0 0 A) (F0 m 13 ls []) := by
    intro _
    refine while_ind (fun k13 ih13 v h => ?_)
    obtain ⟨v1, v3, v5, g, L⟩ := v
    intro H locs ls hP hD hS hl
    have h : fX0_reduce_11_s13 fu k13 v1 v3 v5 g L = some (res, s9) := h
    have hP : va_P G.1 vwCl (zw G (XS b) 105 a g L) H := hP
    have hD : va_D A (zw G (XS b) 105 a g L) := hD
    have hl : lv_has ls 8 [(0, .ref (a 11)), (1, .long v1), (3, .long v3), (5, .int v5)] := hl
    show W p l e { frames := 6, cells := 0, slots := 0, locals := 110 } s m [.ref (a 11)].toArray below meth c H locs 0 0 (MQ below ((kQv G (S := Unit) (fun _ => True) (fun _ => zw G (XS b) 105 a s9.1 s9.2)) A) [.ref (a 11)].toArray s 0 0 A) (F0 m 13 ls [])
    unfold fX0_reduce_11_s13 at h
    refine lv_iload hx hb dX0_reduce_13 (lv_at hl 3 rfl) ?_
    refine lv_sipush (v := 200) hx hb dX0_reduce_15 (by decide) ?_
    have J43 : ∀ (v1 : Int64) (g : Nat → Nat → Int32) (L : Nat → Nat → Int64) (H : Heap) (locs : List Loc) (ls : Array Slot), fX0_reduce_11_p43 fu v1 g L = some (res, s9) → va_P G.1 vwCl (zw G (XS b) 105 a g L) H → va_D A (zw G (XS b) 105 a g L) → va_S A s.heap H locs → lv_has ls 8 [(0, .ref (a 11)), (1, .long v1)] → W p l e { frames := 6, cells := 0, slots := 0, locals := 110 } s m [.ref (a 11)].toArray below meth c H locs 0 0 (MQ below ((kQv G (S := Unit) (fun _ => True) (fun _ => zw G (XS b) 105 a s9.1 s9.2)) A) [.ref (a 11)].toArray s 0 0 A) (F0 m 43 ls []) := by
      intro v1 g L H locs ls h hP hD hS hl
      unfold fX0_reduce_11_p43 at h
      refine lv_lload_n hx hb dX0_reduce_43 rfl (lv_at hl 1 rfl) ?_
      refine lv_lconst (v := 1) hx hb dX0_reduce_44 (by decide) ?_
      refine W.lcmp hx hb dX0_reduce_45 ?_
      have J69 : ∀ (g : Nat → Nat → Int32) (L : Nat → Nat → Int64) (H : Heap) (locs : List Loc) (ls : Array Slot), fX0_reduce_11_p69 fu g L = some (res, s9) → va_P G.1 vwCl (zw G (XS b) 105 a g L) H → va_D A (zw G (XS b) 105 a g L) → va_S A s.heap H locs → lv_has ls 8 [] → W p l e { frames := 6, cells := 0, slots := 0, locals := 110 } s m [.ref (a 11)].toArray below meth c H locs 0 0 (MQ below ((kQv G (S := Unit) (fun _ => True) (fun _ => zw G (XS b) 105 a s9.1 s9.2)) A) [.ref (a 11)].toArray s 0 0 A) (F0 m 69 ls []) := by
        intro g L H locs ls h hP hD hS hl
        unfold fX0_reduce_11_p69 at h
        exact y_vret C hr hlk hP hD hS h (Nat.le_of_ble_eq_true rfl) (Nat.le_of_ble_eq_true rfl) dX0_reduce_69
      refine lv_if_le (x := (lg_cmp v1 1)) (tgt := 69) hx hb dX0_reduce_46 (by decide) (fun c3 => ?_) (fun c3 => ?_)
      ·
        have h := ite_t c3 h
        exact J69 g L H locs ls h hP hD hS (lv_sub hl [] rfl)
      ·
        have h := ite_e c3 h
        refine lv_aload_n hx hb dX0_reduce_49 rfl (lv_at hl 0 rfl) ?_
        refine lv_dup hx hb dX0_reduce_50 rfl ?_
        refine x_getv (v := .long (L 11 5)) (Or.inl fl_X0_23) C hP (by decide) xs_11 rfl dX0_reduce_51 ?_
        refine lv_lload_n hx hb dX0_reduce_54 rfl (lv_at hl 1 rfl) ?_
        obtain ⟨nz, h⟩ := cnzL_some h
        refine lv_ldiv hx hb dX0_reduce_55 nz ?_
        refine y_putl (Or.inl fl_X0_23) ft_X0_5 C hP hD hS (by decide) xs_11 rfl dX0_reduce_56 h (fun L4 H locs h hP hD hS => ?_)
        refine lv_aload_n hx hb dX0_reduce_59 rfl (lv_at hl 0 rfl) ?_
        refine lv_dup hx hb dX0_reduce_60 rfl ?_
        refine x_getv (v := .long (L4 11 6)) (Or.inl fl_X0_51) C hP (by decide) xs_11 rfl dX0_reduce_61 ?_
        refine lv_lload_n hx hb dX0_reduce_64 rfl (lv_at hl 1 rfl) ?_
        obtain ⟨nz, h⟩ := cnzL_some h
        refine lv_ldiv hx hb dX0_reduce_65 nz ?_
        refine y_putl (Or.inl fl_X0_51) ft_X0_6 C hP hD hS (by decide) xs_11 rfl dX0_reduce_66 h (fun L5 H locs h hP hD hS => ?_)
        exact J69 g L5 H locs ls h hP hD hS (lv_sub hl [] rfl)
    refine lv_icmp_ge (x := v5) (y := 200) (tgt := 43) hx hb dX0_reduce_18 (by decide) (fun c6 => ?_) (fun c6 => ?_)
    ·
      have h := ite_t c6 h
      exact J43 v1 g L H locs ls h hP hD hS (lv_sub hl [0, 1] rfl)
    ·
      have h := ite_e c6 h
      refine lv_lload_n hx hb dX0_reduce_21 rfl (lv_at hl 2 rfl) ?_
      refine lv_lconst (v := 0) hx hb dX0_reduce_22 (by decide) ?_
      refine W.lcmp hx hb dX0_reduce_23 ?_
      refine lv_if_eq (x := (lg_cmp v3 0)) (tgt := 43) hx hb dX0_reduce_24 (by decide) (fun c7 => ?_) (fun c7 => ?_)
      ·
        have h := ite_t c7 h
        exact J43 v1 g L H locs ls h hP hD hS (lv_sub hl [0, 1] rfl)
      ·
        have h := ite_e c7 h
        refine lv_lload_n hx hb dX0_reduce_27 rfl (lv_at hl 1 rfl) ?_
        refine lv_lload_n hx hb dX0_reduce_28 rfl (lv_at hl 2 rfl) ?_
        obtain ⟨nz, h⟩ := cnzL_some h
        refine lv_lrem hx hb dX0_reduce_29 nz ?_
        refine y_letL h (fun y8 h => ?_)
        refine lv_lstore (lv' := [(6, .long y8), (0, .ref (a 11)), (1, .long v1), (3, .long v3), (5, .int v5)]) hx hb dX0_reduce_30 hl (by decide) rfl (fun ls hl => ?_)
        refine lv_lload_n hx hb dX0_reduce_32 rfl (lv_at hl 3 rfl) ?_
        refine lv_lstore_n (lv' := [(1, .long v3), (6, .long y8), (0, .ref (a 11)), (3, .long v3), (5, .int v5)]) hx hb dX0_reduce_33 rfl hl (by decide) rfl (fun ls hl => ?_)
        refine lv_lload hx hb dX0_reduce_34 (lv_at hl 1 rfl) ?_
        refine lv_lstore_n (lv' := [(3, .long y8), (1, .long v3), (6, .long y8), (0, .ref (a 11)), (5, .int v5)]) hx hb dX0_reduce_36 rfl hl (by decide) rfl (fun ls hl => ?_)
        refine lv_iinc (v := (v5 + 1)) (lv' := [(5, .int (v5 + 1)), (3, .long y8), (1, .long v3), (6, .long y8), (0, .ref (a 11))]) hx hb dX0_reduce_37 hl (k := 4) rfl rfl (by decide) rfl (fun ls hl => ?_)
        refine lv_goto (tgt := 13) hx hb dX0_reduce_40 (by decide) ?_
        exact ih13 (v3, y8, (v5 + 1), g, L) h H locs ls hP hD hS (lv_sub hl [4, 2, 1, 0] rfl)
  exact lp13 trivial fu (y1, y2, 0, g, L) h H locs ls hP hD hS (lv_sub hl [3, 2, 1, 0] rfl)
def fX0_runWith_11_s59 (fu : Nat) (v2 : Int32) (k59 : Int32 × (Nat → Nat → Int32) × (Nat → Nat → Int64) → Option ((Unit) × zS)) (v4 : Int32) (g : Nat → Nat → Int32) (L : Nat → Nat → Int64) : Option ((Unit) × zS) :=
  if v2 < (v4 : Int32) then sti g 8 8 (-1) (fun g5 =>
  some ((), (g5, L)))
  else cb (fX1_runOne_8 fu v4 g L) (fun x6 g7 L8 =>
  k59 ((v4 + 1), g7, L8))
def fX0_runWith_11_l59 (fu : Nat) (v2 : Int32) (v4 : Int32) (g : Nat → Nat → Int32) (L : Nat → Nat → Int64) : Option ((Unit) × zS) :=
  whileK (fun k v => fX0_runWith_11_s59 fu v2 k v.1 v.2.1 v.2.2) fu (v4, g, L)
def fX0_runWith_11_p42 (fu : Nat) (k10 : Int32 × Int32 × (Nat → Nat → Int32) × (Nat → Nat → Int64) → Option ((Unit) × zS)) (v1 : Int32) (v2 : Int32) (v3 : Int32) (v4 : Int32) (g : Nat → Nat → Int32) (L : Nat → Nat → Int64) : Option ((Unit) × zS) :=
  k10 (v3, (v4 + 1), g, L)
def fX0_runWith_11_s10 (fu : Nat) (v1 : Int32) (v2 : Int32) (k10 : Int32 × Int32 × (Nat → Nat → Int32) × (Nat → Nat → Int64) → Option ((Unit) × zS)) (v3 : Int32) (v4 : Int32) (g : Nat → Nat → Int32) (L : Nat → Nat → Int64) : Option ((Unit) × zS) :=
  if (g 11 2) ≤ v4 then sti g 8 8 v3 (fun g3 =>
  fX0_runWith_11_l59 fu v2 0 g3 L)
  else if (((v1 : Int32) >>> ((v4 : Int32) &&& 31) : Int32) &&& 1) = 0 then ck v4 8 (
  lti (v3 &&& (((1 : Int32) <<< (((g 52 (Int32.toNatClampNeg v4)) : Int32) &&& 31) : Int32) ^^^ (-1))) (fun x11 =>
  fX0_runWith_11_p42 fu k10 v1 v2 x11 v4 g L))
  else fX0_runWith_11_p42 fu k10 v1 v2 v3 v4 g L
def fX0_runWith_11_l10 (fu : Nat) (v1 : Int32) (v2 : Int32) (v3 : Int32) (v4 : Int32) (g : Nat → Nat → Int32) (L : Nat → Nat → Int64) : Option ((Unit) × zS) :=
  whileK (fun k v => fX0_runWith_11_s10 fu v1 v2 k v.1 v.2.1 v.2.2.1 v.2.2.2) fu (v3, v4, g, L)
def fX0_runWith_11 (fu : Nat) (p1 : Int32) (p2 : Int32) (g : Nat → Nat → Int32) (L : Nat → Nat → Int64) : Option ((Unit) × zS) :=
  lti ((g 11 3) ^^^ (-1)) (fun x1 =>
  fX0_runWith_11_l10 fu p1 p2 x1 0 g L)
set_option maxHeartbeats 4000000 in
set_option maxRecDepth 100000 in
theorem rX0_runWith_11 (l : Launch) (G : kG) (sz : Nat) (b : Nat) (a : Nat → Nat) (fu : Nat) (g : Nat → Nat → Int32) (L : Nat → Nat → Int64) (p1 : Int32) (p2 : Int32) (res : Unit) (s9 : zS) (h : fX0_runWith_11 fu p1 p2 g L = some (res, s9)) : kM l yX0_runWith cX0_runWith 5 none { frames := 10, cells := 0, slots := 0, locals := 203 } G [.ref (a 11), .int p1, .int p2] (zw G (XS b) 105 a g L) sz (kQv G (S := Unit) (fun _ => True) (fun _ => zw G (XS b) 105 a s9.1 s9.2)) := by
  refine kM.of (by decide) (Nat.le_of_ble_eq_true rfl) ?_
  intro p e s m below meth c A ls H C hr hlk hnm hP hD hS hl
  have C : kC G p s m c cX0_runWith 5 RX0 A := C
  have hx := C.1
  have hb := C.2.1
  have hl : lv_has ls 5 [(0, .ref (a 11)), (1, .int p1), (2, .int p2)] := hl
  obtain ⟨locs, hlocs⟩ : ∃ q : List Loc, q = [] := ⟨_, rfl⟩
  rw [← hlocs] at hS
  rw [← hlocs]
  unfold fX0_runWith_11 at h
  refine lv_aload_n hx hb dX0_runWith_0 rfl (lv_at hl 0 rfl) ?_
  refine x_getv (v := .int (g 11 3)) (Or.inl fl_X0_48) C hP (by decide) xs_11 rfl dX0_runWith_1 ?_
  refine lv_iconst (v := -1) hx hb dX0_runWith_4 (by decide) ?_
  refine lv_ixor hx hb dX0_runWith_5 ?_
  refine y_let h (fun x1 h => ?_)
  refine lv_istore_n (lv' := [(3, .int x1), (0, .ref (a 11)), (1, .int p1), (2, .int p2)]) hx hb dX0_runWith_6 rfl hl (by decide) rfl (fun ls hl => ?_)
  refine lv_iconst (v := 0) hx hb dX0_runWith_7 (by decide) ?_
  refine lv_istore (lv' := [(4, .int 0), (3, .int x1), (0, .ref (a 11)), (1, .int p1), (2, .int p2)]) hx hb dX0_runWith_8 hl (by decide) rfl (fun ls hl => ?_)
  have lp10 : ∀ (v1 : Int32) (v2 : Int32), ∀ (n : Nat) (v : Int32 × Int32 × (Nat → Nat → Int32) × (Nat → Nat → Int64)), whileK (fun k v => fX0_runWith_11_s10 fu v1 v2 k v.1 v.2.1 v.2.2.1 v.2.2.2) n v = some (res, s9) → ∀ (H : Heap) (locs : List Loc) (ls : Array Slot), va_P G.1 vwCl (zw G (XS b) 105 a (v.2.2.1) (v.2.2.2)) H → va_D A (zw G (XS b) 105 a (v.2.2.1) (v.2.2.2)) → va_S A s.heap H locs → lv_has ls 5 [(0, .ref (a 11)), (1, .int v1), (2, .int v2), (3, .int (v.1)), (4, .int (v.2.1))] → W p l e { frames := 10, cells := 0, slots := 0, locals := 203 } s m [.ref (a 11), .int p1, .int p2].toArray below meth c H locs 0 0 (MQ below ((kQv G (S := Unit) (fun _ => True) (fun _ => zw G (XS b) 105 a s9.1 s9.2)) A) [.ref (a 11), .int p1, .int p2].toArray s 0 0 A) (F0 m 10 ls []) := by
    intro v1 v2
    refine while_ind (fun k10 ih10 v h => ?_)
    obtain ⟨v3, v4, g, L⟩ := v
    intro H locs ls hP hD hS hl
    have h : fX0_runWith_11_s10 fu v1 v2 k10 v3 v4 g L = some (res, s9) := h
    have hP : va_P G.1 vwCl (zw G (XS b) 105 a g L) H := hP
    have hD : va_D A (zw G (XS b) 105 a g L) := hD
    have hl : lv_has ls 5 [(0, .ref (a 11)), (1, .int v1), (2, .int v2), (3, .int v3), (4, .int v4)] := hl
    show W p l e { frames := 10, cells := 0, slots := 0, locals := 203 } s m [.ref (a 11), .int p1, .int p2].toArray below meth c H locs 0 0 (MQ below ((kQv G (S := Unit) (fun _ => True) (fun _ => zw G (XS b) 105 a s9.1 s9.2)) A) [.ref (a 11), .int p1, .int p2].toArray s 0 0 A) (F0 m 10 ls [])
    unfold fX0_runWith_11_s10 at h
    refine lv_iload hx hb dX0_runWith_10 (lv_at hl 4 rfl) ?_
    refine lv_aload_n hx hb dX0_runWith_12 rfl (lv_at hl 0 rfl) ?_
    refine x_getv (v := .int (g 11 2)) (Or.inl fl_X0_27) C hP (by decide) xs_11 rfl dX0_runWith_13 ?_
    refine lv_icmp_ge (x := v4) (y := (g 11 2)) (tgt := 48) hx hb dX0_runWith_16 (by decide) (fun c2 => ?_) (fun c2 => ?_)
    ·
      have h := ite_t c2 h
      refine lv_aload_n hx hb dX0_runWith_48 rfl (lv_at hl 0 rfl) ?_
      refine x_getr (Or.inl fl_X0_15) C hP (by decide) xs_11 rfl dX0_runWith_49 ?_
      refine lv_iload_n hx hb dX0_runWith_52 rfl (lv_at hl 3 rfl) ?_
      refine y_puti (Or.inr fl_X0_71) ft_X1_8 C hP hD hS (by decide) xs_8 rfl rfl rfl dX0_runWith_53 h (fun g3 H locs h hP hD hS => ?_)
      refine lv_iconst (v := 0) hx hb dX0_runWith_56 (by decide) ?_
      refine lv_istore (lv' := [(4, .int 0), (0, .ref (a 11)), (1, .int v1), (2, .int v2), (3, .int v3)]) hx hb dX0_runWith_57 hl (by decide) rfl (fun ls hl => ?_)
      have lp59 : ∀ (v2 : Int32), ∀ (n : Nat) (v : Int32 × (Nat → Nat → Int32) × (Nat → Nat → Int64)), whileK (fun k v => fX0_runWith_11_s59 fu v2 k v.1 v.2.1 v.2.2) n v = some (res, s9) → ∀ (H : Heap) (locs : List Loc) (ls : Array Slot), va_P G.1 vwCl (zw G (XS b) 105 a (v.2.1) (v.2.2)) H → va_D A (zw G (XS b) 105 a (v.2.1) (v.2.2)) → va_S A s.heap H locs → lv_has ls 5 [(0, .ref (a 11)), (2, .int v2), (4, .int (v.1))] → W p l e { frames := 10, cells := 0, slots := 0, locals := 203 } s m [.ref (a 11), .int p1, .int p2].toArray below meth c H locs 0 0 (MQ below ((kQv G (S := Unit) (fun _ => True) (fun _ => zw G (XS b) 105 a s9.1 s9.2)) A) [.ref (a 11), .int p1, .int p2].toArray s 0 0 A) (F0 m 59 ls []) := by
        intro v2
        refine while_ind (fun k59 ih59 v h => ?_)
        obtain ⟨v4, g, L⟩ := v
        intro H locs ls hP hD hS hl
        have h : fX0_runWith_11_s59 fu v2 k59 v4 g L = some (res, s9) := h
        have hP : va_P G.1 vwCl (zw G (XS b) 105 a g L) H := hP
        have hD : va_D A (zw G (XS b) 105 a g L) := hD
        have hl : lv_has ls 5 [(0, .ref (a 11)), (2, .int v2), (4, .int v4)] := hl
        show W p l e { frames := 10, cells := 0, slots := 0, locals := 203 } s m [.ref (a 11), .int p1, .int p2].toArray below meth c H locs 0 0 (MQ below ((kQv G (S := Unit) (fun _ => True) (fun _ => zw G (XS b) 105 a s9.1 s9.2)) A) [.ref (a 11), .int p1, .int p2].toArray s 0 0 A) (F0 m 59 ls [])
        unfold fX0_runWith_11_s59 at h
        refine lv_iload hx hb dX0_runWith_59 (lv_at hl 2 rfl) ?_
        refine lv_iload_n hx hb dX0_runWith_61 rfl (lv_at hl 1 rfl) ?_
        refine lv_icmp_gt (x := v4) (y := v2) (tgt := 80) hx hb dX0_runWith_62 (by decide) (fun c4 => ?_) (fun c4 => ?_)
        ·
          have h := ite_t c4 h
          refine lv_aload_n hx hb dX0_runWith_80 rfl (lv_at hl 0 rfl) ?_
          refine x_getr (Or.inl fl_X0_15) C hP (by decide) xs_11 rfl dX0_runWith_81 ?_
          refine lv_iconst (v := -1) hx hb dX0_runWith_84 (by decide) ?_
          refine y_puti (Or.inr fl_X0_71) ft_X1_8 C hP hD hS (by decide) xs_8 rfl rfl rfl dX0_runWith_85 h (fun g5 H locs h hP hD hS => ?_)
          exact y_vret C hr hlk hP hD hS h (Nat.le_of_ble_eq_true rfl) (Nat.le_of_ble_eq_true rfl) dX0_runWith_88
        ·
          have h := ite_e c4 h
          refine lv_aload_n hx hb dX0_runWith_65 rfl (lv_at hl 0 rfl) ?_
          refine x_getr (Or.inl fl_X0_15) C hP (by decide) xs_11 rfl dX0_runWith_66 ?_
          refine lv_iload hx hb dX0_runWith_69 (lv_at hl 2 rfl) ?_
          obtain ⟨z_, g7, L8, hf9, h⟩ := cb_some h
          refine x_callNv (rest := []) li_X0_74 C (rX1_runOne_8 l G H.size b a fu g L v4 z_ (g7, L8) hf9) (kR rfl) hP hD hS 8 1 rfl (zat (by decide) xs_8) rfl hl.1 rfl (Nat.le_of_ble_eq_true rfl) dX0_runWith_71 (fun u_ H locs e_ hP hD hS => ?_)
          have hP : va_P G.1 vwCl (zw G (XS b) 105 a g7 L8) H := hP
          have hD : va_D A (zw G (XS b) 105 a g7 L8) := hD
          refine lv_iinc (v := (v4 + 1)) (lv' := [(4, .int (v4 + 1)), (0, .ref (a 11)), (2, .int v2)]) hx hb dX0_runWith_74 hl (k := 2) rfl rfl (by decide) rfl (fun ls hl => ?_)
          refine lv_goto (tgt := 59) hx hb dX0_runWith_77 (by decide) ?_
          exact ih59 ((v4 + 1), g7, L8) h H locs ls hP hD hS (lv_sub hl [1, 2, 0] rfl)
      exact lp59 v2 fu (0, g3, L) h H locs ls hP hD hS (lv_sub hl [1, 3, 0] rfl)
    ·
      have h := ite_e c2 h
      refine lv_iload_n hx hb dX0_runWith_19 rfl (lv_at hl 1 rfl) ?_
      refine lv_iload hx hb dX0_runWith_20 (lv_at hl 4 rfl) ?_
      refine lv_ishr hx hb dX0_runWith_22 ?_
      refine lv_iconst (v := 1) hx hb dX0_runWith_23 (by decide) ?_
      refine lv_iand hx hb dX0_runWith_24 ?_
      have J42 : ∀ (v3 : Int32) (v4 : Int32) (g : Nat → Nat → Int32) (L : Nat → Nat → Int64) (H : Heap) (locs : List Loc) (ls : Array Slot), fX0_runWith_11_p42 fu k10 v1 v2 v3 v4 g L = some (res, s9) → va_P G.1 vwCl (zw G (XS b) 105 a g L) H → va_D A (zw G (XS b) 105 a g L) → va_S A s.heap H locs → lv_has ls 5 [(0, .ref (a 11)), (1, .int v1), (2, .int v2), (3, .int v3), (4, .int v4)] → W p l e { frames := 10, cells := 0, slots := 0, locals := 203 } s m [.ref (a 11), .int p1, .int p2].toArray below meth c H locs 0 0 (MQ below ((kQv G (S := Unit) (fun _ => True) (fun _ => zw G (XS b) 105 a s9.1 s9.2)) A) [.ref (a 11), .int p1, .int p2].toArray s 0 0 A) (F0 m 42 ls []) := by
        intro v3 v4 g L H locs ls h hP hD hS hl
        unfold fX0_runWith_11_p42 at h
        refine lv_iinc (v := (v4 + 1)) (lv' := [(4, .int (v4 + 1)), (0, .ref (a 11)), (1, .int v1), (2, .int v2), (3, .int v3)]) hx hb dX0_runWith_42 hl (k := 4) rfl rfl (by decide) rfl (fun ls hl => ?_)
        refine lv_goto (tgt := 10) hx hb dX0_runWith_45 (by decide) ?_
        exact ih10 (v3, (v4 + 1), g, L) h H locs ls hP hD hS (lv_sub hl [1, 2, 3, 4, 0] rfl)
      refine lv_if_ne (x := (((v1 : Int32) >>> ((v4 : Int32) &&& 31) : Int32) &&& 1)) (tgt := 42) hx hb dX0_runWith_25 (by decide) (fun c10 => ?_) (fun c10 => ?_)
      ·
        have h := ite_e c10 h
        exact J42 v3 v4 g L H locs ls h hP hD hS (lv_sub hl [0, 1, 2, 3, 4] rfl)
      ·
        have h := ite_t c10 h
        refine lv_iload_n hx hb dX0_runWith_28 rfl (lv_at hl 3 rfl) ?_
        refine lv_iconst (v := 1) hx hb dX0_runWith_29 (by decide) ?_
        refine lv_aload_n hx hb dX0_runWith_30 rfl (lv_at hl 0 rfl) ?_
        refine x_getr (Or.inl fl_X0_9) C hP (by decide) xs_11 rfl dX0_runWith_31 ?_
        refine lv_iload hx hb dX0_runWith_34 (lv_at hl 4 rfl) ?_
        refine y_ald C hP (by decide) xs_52 dX0_runWith_36 h (fun h => ?_)
        refine lv_ishl hx hb dX0_runWith_37 ?_
        refine lv_iconst (v := -1) hx hb dX0_runWith_38 (by decide) ?_
        refine lv_ixor hx hb dX0_runWith_39 ?_
        refine lv_iand hx hb dX0_runWith_40 ?_
        refine y_let h (fun x11 h => ?_)
        refine lv_istore_n (lv' := [(3, .int x11), (0, .ref (a 11)), (1, .int v1), (2, .int v2), (4, .int v4)]) hx hb dX0_runWith_41 rfl hl (by decide) rfl (fun ls hl => ?_)
        exact J42 x11 v4 g L H locs ls h hP hD hS (lv_sub hl [1, 2, 3, 0, 4] rfl)
  exact lp10 p1 p2 fu (x1, 0, g, L) h H locs ls hP hD hS (lv_sub hl [2, 3, 4, 1, 0] rfl)
def fX0_weight_11_p59 (fu : Nat) (k5 : Int64 × Int32 × (Nat → Nat → Int32) × (Nat → Nat → Int64) → Option ((Int64) × zS)) (v1 : Int32) (v4 : Int32) (t0 : Int64) (t1 : Int64) (g : Nat → Nat → Int32) (L : Nat → Nat → Int64) : Option ((Int64) × zS) :=
  ltl (t1 * t0) (fun y4 =>
  k5 (y4, (v4 + 1), g, L))
def fX0_weight_11_s5 (fu : Nat) (v1 : Int32) (k5 : Int64 × Int32 × (Nat → Nat → Int32) × (Nat → Nat → Int64) → Option ((Int64) × zS)) (v2 : Int64) (v4 : Int32) (g : Nat → Nat → Int32) (L : Nat → Nat → Int64) : Option ((Int64) × zS) :=
  if (g 11 2) ≤ v4 then some (v2, (g, L))
  else ck v4 8 (
  ck (g 52 (Int32.toNatClampNeg v4)) 12 (ltn (57 + (Int32.toNatClampNeg (g 52 (Int32.toNatClampNeg v4))) % 12) (fun q2 =>
  lti (g q2 12) (fun x3 =>
  if (((v1 : Int32) >>> ((v4 : Int32) &&& 31) : Int32) &&& 1) = 0 then fX0_weight_11_p59 fu k5 v1 v4 (Int32.toInt64 (10 - x3)) v2 g L
  else fX0_weight_11_p59 fu k5 v1 v4 (Int32.toInt64 x3) v2 g L))))
def fX0_weight_11_l5 (fu : Nat) (v1 : Int32) (v2 : Int64) (v4 : Int32) (g : Nat → Nat → Int32) (L : Nat → Nat → Int64) : Option ((Int64) × zS) :=
  whileK (fun k v => fX0_weight_11_s5 fu v1 k v.1 v.2.1 v.2.2.1 v.2.2.2) fu (v2, v4, g, L)
def fX0_weight_11 (fu : Nat) (p1 : Int32) (g : Nat → Nat → Int32) (L : Nat → Nat → Int64) : Option ((Int64) × zS) :=
  fX0_weight_11_l5 fu p1 1 0 g L
set_option maxHeartbeats 4000000 in
set_option maxRecDepth 100000 in
theorem rX0_weight_11 (l : Launch) (G : kG) (sz : Nat) (b : Nat) (a : Nat → Nat) (fu : Nat) (g : Nat → Nat → Int32) (L : Nat → Nat → Int64) (p1 : Int32) (res : Int64) (s9 : zS) (h : fX0_weight_11 fu p1 g L = some (res, s9)) : kM l yX0_weight cX0_weight 6 (some .long) { frames := 6, cells := 0, slots := 0, locals := 110 } G [.ref (a 11), .int p1] (zw G (XS b) 105 a g L) sz (kQl G (S := Unit) (fun r' _ => r' = res) (fun _ => zw G (XS b) 105 a s9.1 s9.2)) := by
  refine kM.of (by decide) (Nat.le_of_ble_eq_true rfl) ?_
  intro p e s m below meth c A ls H C hr hlk hnm hP hD hS hl
  have C : kC G p s m c cX0_weight 6 RX0 A := C
  have hx := C.1
  have hb := C.2.1
  have hl : lv_has ls 6 [(0, .ref (a 11)), (1, .int p1)] := hl
  obtain ⟨locs, hlocs⟩ : ∃ q : List Loc, q = [] := ⟨_, rfl⟩
  rw [← hlocs] at hS
  rw [← hlocs]
  unfold fX0_weight_11 at h
  refine lv_lconst (v := 1) hx hb dX0_weight_0 (by decide) ?_
  refine lv_lstore_n (lv' := [(2, .long 1), (0, .ref (a 11)), (1, .int p1)]) hx hb dX0_weight_1 rfl hl (by decide) rfl (fun ls hl => ?_)
  refine lv_iconst (v := 0) hx hb dX0_weight_2 (by decide) ?_
  refine lv_istore (lv' := [(4, .int 0), (2, .long 1), (0, .ref (a 11)), (1, .int p1)]) hx hb dX0_weight_3 hl (by decide) rfl (fun ls hl => ?_)
  have lp5 : ∀ (v1 : Int32), ∀ (n : Nat) (v : Int64 × Int32 × (Nat → Nat → Int32) × (Nat → Nat → Int64)), whileK (fun k v => fX0_weight_11_s5 fu v1 k v.1 v.2.1 v.2.2.1 v.2.2.2) n v = some (res, s9) → ∀ (H : Heap) (locs : List Loc) (ls : Array Slot), va_P G.1 vwCl (zw G (XS b) 105 a (v.2.2.1) (v.2.2.2)) H → va_D A (zw G (XS b) 105 a (v.2.2.1) (v.2.2.2)) → va_S A s.heap H locs → lv_has ls 6 [(0, .ref (a 11)), (1, .int v1), (2, .long (v.1)), (4, .int (v.2.1))] → W p l e { frames := 6, cells := 0, slots := 0, locals := 110 } s m [.ref (a 11), .int p1].toArray below meth c H locs 0 0 (MQ below ((kQl G (S := Unit) (fun r' _ => r' = res) (fun _ => zw G (XS b) 105 a s9.1 s9.2)) A) [.ref (a 11), .int p1].toArray s 0 0 A) (F0 m 5 ls []) := by
    intro v1
    refine while_ind (fun k5 ih5 v h => ?_)
    obtain ⟨v2, v4, g, L⟩ := v
    intro H locs ls hP hD hS hl
    have h : fX0_weight_11_s5 fu v1 k5 v2 v4 g L = some (res, s9) := h
    have hP : va_P G.1 vwCl (zw G (XS b) 105 a g L) H := hP
    have hD : va_D A (zw G (XS b) 105 a g L) := hD
    have hl : lv_has ls 6 [(0, .ref (a 11)), (1, .int v1), (2, .long v2), (4, .int v4)] := hl
    show W p l e { frames := 6, cells := 0, slots := 0, locals := 110 } s m [.ref (a 11), .int p1].toArray below meth c H locs 0 0 (MQ below ((kQl G (S := Unit) (fun r' _ => r' = res) (fun _ => zw G (XS b) 105 a s9.1 s9.2)) A) [.ref (a 11), .int p1].toArray s 0 0 A) (F0 m 5 ls [])
    unfold fX0_weight_11_s5 at h
    refine lv_iload hx hb dX0_weight_5 (lv_at hl 3 rfl) ?_
    refine lv_aload_n hx hb dX0_weight_7 rfl (lv_at hl 0 rfl) ?_
    refine x_getv (v := .int (g 11 2)) (Or.inl fl_X0_27) C hP (by decide) xs_11 rfl dX0_weight_8 ?_
    refine lv_icmp_ge (x := v4) (y := (g 11 2)) (tgt := 67) hx hb dX0_weight_11 (by decide) (fun c1 => ?_) (fun c1 => ?_)
    ·
      have h := ite_t c1 h
      refine lv_lload_n hx hb dX0_weight_67 rfl (lv_at hl 2 rfl) ?_
      exact y_lret C hr hlk hP hD hS h (Nat.le_of_ble_eq_true rfl) (Nat.le_of_ble_eq_true rfl) dX0_weight_68
    ·
      have h := ite_e c1 h
      refine lv_aload_n hx hb dX0_weight_14 rfl (lv_at hl 0 rfl) ?_
      refine x_getr (Or.inl fl_X0_15) C hP (by decide) xs_11 rfl dX0_weight_15 ?_
      refine x_getr (Or.inr fl_X0_54) C hP (by decide) xs_8 rfl dX0_weight_18 ?_
      refine x_getr (Or.inr fl_X0_58) C hP (by decide) xs_1 rfl dX0_weight_21 ?_
      refine lv_aload_n hx hb dX0_weight_24 rfl (lv_at hl 0 rfl) ?_
      refine x_getr (Or.inl fl_X0_9) C hP (by decide) xs_11 rfl dX0_weight_25 ?_
      refine lv_iload hx hb dX0_weight_28 (lv_at hl 3 rfl) ?_
      refine y_ald C hP (by decide) xs_52 dX0_weight_30 h (fun h => ?_)
      refine y_aald (t := 57) C hP (by decide) xs_17 dX0_weight_31 h (fun q2 q2l q2h h => ?_)
      refine x_getv (v := .int (g q2 12)) (Or.inr fl_X0_64) C hP (by omega) (xs_les (by omega) (by omega)) rfl dX0_weight_32 ?_
      refine y_let h (fun x3 h => ?_)
      refine lv_istore (lv' := [(5, .int x3), (0, .ref (a 11)), (1, .int v1), (2, .long v2), (4, .int v4)]) hx hb dX0_weight_35 hl (by decide) rfl (fun ls hl => ?_)
      refine lv_lload_n hx hb dX0_weight_37 rfl (lv_at hl 3 rfl) ?_
      refine lv_iload_n hx hb dX0_weight_38 rfl (lv_at hl 2 rfl) ?_
      refine lv_iload hx hb dX0_weight_39 (lv_at hl 4 rfl) ?_
      refine lv_ishr hx hb dX0_weight_41 ?_
      refine lv_iconst (v := 1) hx hb dX0_weight_42 (by decide) ?_
      refine lv_iand hx hb dX0_weight_43 ?_
      have J59 : ∀ (v4 : Int32) (t0 : Int64) (t1 : Int64) (g : Nat → Nat → Int32) (L : Nat → Nat → Int64) (H : Heap) (locs : List Loc) (ls : Array Slot), fX0_weight_11_p59 fu k5 v1 v4 t0 t1 g L = some (res, s9) → va_P G.1 vwCl (zw G (XS b) 105 a g L) H → va_D A (zw G (XS b) 105 a g L) → va_S A s.heap H locs → lv_has ls 6 [(0, .ref (a 11)), (1, .int v1), (4, .int v4)] → W p l e { frames := 6, cells := 0, slots := 0, locals := 110 } s m [.ref (a 11), .int p1].toArray below meth c H locs 0 0 (MQ below ((kQl G (S := Unit) (fun r' _ => r' = res) (fun _ => zw G (XS b) 105 a s9.1 s9.2)) A) [.ref (a 11), .int p1].toArray s 0 0 A) (F0 m 59 ls [.long t0, .long t1]) := by
        intro v4 t0 t1 g L H locs ls h hP hD hS hl
        unfold fX0_weight_11_p59 at h
        refine lv_lmul hx hb dX0_weight_59 ?_
        refine y_letL h (fun y4 h => ?_)
        refine lv_lstore_n (lv' := [(2, .long y4), (0, .ref (a 11)), (1, .int v1), (4, .int v4)]) hx hb dX0_weight_60 rfl hl (by decide) rfl (fun ls hl => ?_)
        refine lv_iinc (v := (v4 + 1)) (lv' := [(4, .int (v4 + 1)), (2, .long y4), (0, .ref (a 11)), (1, .int v1)]) hx hb dX0_weight_61 hl (k := 3) rfl rfl (by decide) rfl (fun ls hl => ?_)
        refine lv_goto (tgt := 5) hx hb dX0_weight_64 (by decide) ?_
        exact ih5 (y4, (v4 + 1), g, L) h H locs ls hP hD hS (lv_sub hl [2, 3, 1, 0] rfl)
      refine lv_if_eq (x := (((v1 : Int32) >>> ((v4 : Int32) &&& 31) : Int32) &&& 1)) (tgt := 53) hx hb dX0_weight_44 (by decide) (fun c5 => ?_) (fun c5 => ?_)
      ·
        have h := ite_t c5 h
        refine lv_bipush (v := 10) hx hb dX0_weight_53 (by decide) ?_
        refine lv_iload hx hb dX0_weight_55 (lv_at hl 0 rfl) ?_
        refine lv_isub hx hb dX0_weight_57 ?_
        refine lv_i2l hx hb dX0_weight_58 rfl ?_
        exact J59 v4 (Int32.toInt64 (10 - x3)) v2 g L H locs ls h hP hD hS (lv_sub hl [1, 2, 4] rfl)
      ·
        have h := ite_e c5 h
        refine lv_iload hx hb dX0_weight_47 (lv_at hl 0 rfl) ?_
        refine lv_i2l hx hb dX0_weight_49 rfl ?_
        refine lv_goto (tgt := 59) hx hb dX0_weight_50 (by decide) ?_
        exact J59 v4 (Int32.toInt64 x3) v2 g L H locs ls h hP hD hS (lv_sub hl [1, 2, 4] rfl)
  exact lp5 p1 fu (1, 0, g, L) h H locs ls hP hD hS (lv_sub hl [2, 3, 1, 0] rfl)
def fX0_ofLate_11_p54 (fu : Nat) (k12 : Int32 × (Nat → Nat → Int32) × (Nat → Nat → Int64) → Option ((Unit) × zS)) (v1 : Int32) (v2 : Int32) (v3 : Int32) (g : Nat → Nat → Int32) (L : Nat → Nat → Int64) : Option ((Unit) × zS) :=
  k12 ((v3 + 1), g, L)
def fX0_ofLate_11_s12 (fu : Nat) (v1 : Int32) (v2 : Int32) (k12 : Int32 × (Nat → Nat → Int32) × (Nat → Nat → Int64) → Option ((Unit) × zS)) (v3 : Int32) (g : Nat → Nat → Int32) (L : Nat → Nat → Int64) : Option ((Unit) × zS) :=
  if ((1 : Int32) <<< (((g 11 2) : Int32) &&& 31) : Int32) ≤ v3 then cb (fX0_reduce_11 fu g L) (fun x7 g8 L9 =>
  some ((), (g8, L9)))
  else cb (fX0_runWith_11 fu v3 v1 g L) (fun x11 g12 L13 =>
  cb (fX1_late_8 fu v1 g12 L13) (fun x15 g16 L17 =>
  if (x15 : Int32) ≤ v2 then fX0_ofLate_11_p54 fu k12 v1 v2 v3 g16 L17
  else cb (fX0_weight_11 fu v3 g16 L17) (fun x20 g21 L22 =>
  stl L22 11 5 ((L17 11 5) + x20) (fun L24 =>
  fX0_ofLate_11_p54 fu k12 v1 v2 v3 g21 L24))))
def fX0_ofLate_11_l12 (fu : Nat) (v1 : Int32) (v2 : Int32) (v3 : Int32) (g : Nat → Nat → Int32) (L : Nat → Nat → Int64) : Option ((Unit) × zS) :=
  whileK (fun k v => fX0_ofLate_11_s12 fu v1 v2 k v.1 v.2.1 v.2.2) fu (v3, g, L)
def fX0_ofLate_11 (fu : Nat) (p1 : Int32) (p2 : Int32) (g : Nat → Nat → Int32) (L : Nat → Nat → Int64) : Option ((Unit) × zS) :=
  cb (fX0_findUnsure_11 fu p1 g L) (fun x1 g2 L3 =>
  stl L3 11 5 0 (fun L5 =>
  fX0_ofLate_11_l12 fu p1 p2 0 g2 L5))
set_option maxHeartbeats 4000000 in
set_option maxRecDepth 100000 in
theorem rX0_ofLate_11 (l : Launch) (G : kG) (sz : Nat) (b : Nat) (a : Nat → Nat) (fu : Nat) (g : Nat → Nat → Int32) (L : Nat → Nat → Int64) (p1 : Int32) (p2 : Int32) (res : Unit) (s9 : zS) (h : fX0_ofLate_11 fu p1 p2 g L = some (res, s9)) : kM l yX0_ofLate cX0_ofLate 4 none { frames := 11, cells := 0, slots := 0, locals := 227 } G [.ref (a 11), .int p1, .int p2] (zw G (XS b) 105 a g L) sz (kQv G (S := Unit) (fun _ => True) (fun _ => zw G (XS b) 105 a s9.1 s9.2)) := by
  refine kM.of (by decide) (Nat.le_of_ble_eq_true rfl) ?_
  intro p e s m below meth c A ls H C hr hlk hnm hP hD hS hl
  have C : kC G p s m c cX0_ofLate 4 RX0 A := C
  have hx := C.1
  have hb := C.2.1
  have hl : lv_has ls 4 [(0, .ref (a 11)), (1, .int p1), (2, .int p2)] := hl
  obtain ⟨locs, hlocs⟩ : ∃ q : List Loc, q = [] := ⟨_, rfl⟩
  rw [← hlocs] at hS
  rw [← hlocs]
  unfold fX0_ofLate_11 at h
  refine lv_aload_n hx hb dX0_ofLate_0 rfl (lv_at hl 0 rfl) ?_
  refine lv_iload_n hx hb dX0_ofLate_1 rfl (lv_at hl 1 rfl) ?_
  obtain ⟨z_, g2, L3, hf4, h⟩ := cb_some h
  refine x_callVv (rest := []) li_X0_19 C (rX0_findUnsure_11 l G H.size b a fu g L p1 z_ (g2, L3) hf4) (kR rfl) hP hD hS 11 0 rfl (zat (by decide) xs_11) rfl hl.1 rfl (Nat.le_of_ble_eq_true rfl) dX0_ofLate_2 (fun u_ H locs e_ hP hD hS => ?_)
  have hP : va_P G.1 vwCl (zw G (XS b) 105 a g2 L3) H := hP
  have hD : va_D A (zw G (XS b) 105 a g2 L3) := hD
  refine lv_aload_n hx hb dX0_ofLate_5 rfl (lv_at hl 0 rfl) ?_
  refine lv_lconst (v := 0) hx hb dX0_ofLate_6 (by decide) ?_
  refine y_putl (Or.inl fl_X0_23) ft_X0_5 C hP hD hS (by decide) xs_11 rfl dX0_ofLate_7 h (fun L5 H locs h hP hD hS => ?_)
  refine lv_iconst (v := 0) hx hb dX0_ofLate_10 (by decide) ?_
  refine lv_istore_n (lv' := [(3, .int 0), (0, .ref (a 11)), (1, .int p1), (2, .int p2)]) hx hb dX0_ofLate_11 rfl hl (by decide) rfl (fun ls hl => ?_)
  have lp12 : ∀ (v1 : Int32) (v2 : Int32), ∀ (n : Nat) (v : Int32 × (Nat → Nat → Int32) × (Nat → Nat → Int64)), whileK (fun k v => fX0_ofLate_11_s12 fu v1 v2 k v.1 v.2.1 v.2.2) n v = some (res, s9) → ∀ (H : Heap) (locs : List Loc) (ls : Array Slot), va_P G.1 vwCl (zw G (XS b) 105 a (v.2.1) (v.2.2)) H → va_D A (zw G (XS b) 105 a (v.2.1) (v.2.2)) → va_S A s.heap H locs → lv_has ls 4 [(0, .ref (a 11)), (1, .int v1), (2, .int v2), (3, .int (v.1))] → W p l e { frames := 11, cells := 0, slots := 0, locals := 227 } s m [.ref (a 11), .int p1, .int p2].toArray below meth c H locs 0 0 (MQ below ((kQv G (S := Unit) (fun _ => True) (fun _ => zw G (XS b) 105 a s9.1 s9.2)) A) [.ref (a 11), .int p1, .int p2].toArray s 0 0 A) (F0 m 12 ls []) := by
    intro v1 v2
    refine while_ind (fun k12 ih12 v h => ?_)
    obtain ⟨v3, g, L⟩ := v
    intro H locs ls hP hD hS hl
    have h : fX0_ofLate_11_s12 fu v1 v2 k12 v3 g L = some (res, s9) := h
    have hP : va_P G.1 vwCl (zw G (XS b) 105 a g L) H := hP
    have hD : va_D A (zw G (XS b) 105 a g L) := hD
    have hl : lv_has ls 4 [(0, .ref (a 11)), (1, .int v1), (2, .int v2), (3, .int v3)] := hl
    show W p l e { frames := 11, cells := 0, slots := 0, locals := 227 } s m [.ref (a 11), .int p1, .int p2].toArray below meth c H locs 0 0 (MQ below ((kQv G (S := Unit) (fun _ => True) (fun _ => zw G (XS b) 105 a s9.1 s9.2)) A) [.ref (a 11), .int p1, .int p2].toArray s 0 0 A) (F0 m 12 ls [])
    unfold fX0_ofLate_11_s12 at h
    refine lv_iload_n hx hb dX0_ofLate_12 rfl (lv_at hl 3 rfl) ?_
    refine lv_iconst (v := 1) hx hb dX0_ofLate_13 (by decide) ?_
    refine lv_aload_n hx hb dX0_ofLate_14 rfl (lv_at hl 0 rfl) ?_
    refine x_getv (v := .int (g 11 2)) (Or.inl fl_X0_27) C hP (by decide) xs_11 rfl dX0_ofLate_15 ?_
    refine lv_ishl hx hb dX0_ofLate_18 ?_
    refine lv_icmp_ge (x := v3) (y := ((1 : Int32) <<< (((g 11 2) : Int32) &&& 31) : Int32)) (tgt := 60) hx hb dX0_ofLate_19 (by decide) (fun c6 => ?_) (fun c6 => ?_)
    ·
      have h := ite_t c6 h
      refine lv_aload_n hx hb dX0_ofLate_60 rfl (lv_at hl 0 rfl) ?_
      obtain ⟨z_, g8, L9, hf10, h⟩ := cb_some h
      refine x_callVv (rest := []) li_X0_45 C (rX0_reduce_11 l G H.size b a fu g L z_ (g8, L9) hf10) (kR rfl) hP hD hS 11 0 rfl (zat (by decide) xs_11) rfl hl.1 rfl (Nat.le_of_ble_eq_true rfl) dX0_ofLate_61 (fun u_ H locs e_ hP hD hS => ?_)
      have hP : va_P G.1 vwCl (zw G (XS b) 105 a g8 L9) H := hP
      have hD : va_D A (zw G (XS b) 105 a g8 L9) := hD
      exact y_vret C hr hlk hP hD hS h (Nat.le_of_ble_eq_true rfl) (Nat.le_of_ble_eq_true rfl) dX0_ofLate_64
    ·
      have h := ite_e c6 h
      refine lv_aload_n hx hb dX0_ofLate_22 rfl (lv_at hl 0 rfl) ?_
      refine lv_iload_n hx hb dX0_ofLate_23 rfl (lv_at hl 3 rfl) ?_
      refine lv_iload_n hx hb dX0_ofLate_24 rfl (lv_at hl 1 rfl) ?_
      obtain ⟨z_, g12, L13, hf14, h⟩ := cb_some h
      refine x_callVv (rest := []) li_X0_31 C (rX0_runWith_11 l G H.size b a fu g L v3 v1 z_ (g12, L13) hf14) (kR rfl) hP hD hS 11 0 rfl (zat (by decide) xs_11) rfl hl.1 rfl (Nat.le_of_ble_eq_true rfl) dX0_ofLate_25 (fun u_ H locs e_ hP hD hS => ?_)
      have hP : va_P G.1 vwCl (zw G (XS b) 105 a g12 L13) H := hP
      have hD : va_D A (zw G (XS b) 105 a g12 L13) := hD
      refine lv_aload_n hx hb dX0_ofLate_28 rfl (lv_at hl 0 rfl) ?_
      refine x_getr (Or.inl fl_X0_15) C hP (by decide) xs_11 rfl dX0_ofLate_29 ?_
      refine lv_iload_n hx hb dX0_ofLate_32 rfl (lv_at hl 1 rfl) ?_
      obtain ⟨z_, g16, L17, hf18, h⟩ := cb_some h
      refine x_callNi (rest := []) li_X0_35 C (rX1_late_8 l G H.size b a fu g12 L13 v1 z_ (g16, L17) hf18) (kR rfl) hP hD hS 8 1 rfl (zat (by decide) xs_8) rfl hl.1 rfl (Nat.le_of_ble_eq_true rfl) dX0_ofLate_33 (fun x15 u_ H locs e_ hP hD hS => ?_)
      have e_ : x15 = z_ := e_
      subst e_
      have hP : va_P G.1 vwCl (zw G (XS b) 105 a g16 L17) H := hP
      have hD : va_D A (zw G (XS b) 105 a g16 L17) := hD
      refine lv_iload_n hx hb dX0_ofLate_36 rfl (lv_at hl 2 rfl) ?_
      have J54 : ∀ (v3 : Int32) (g : Nat → Nat → Int32) (L : Nat → Nat → Int64) (H : Heap) (locs : List Loc) (ls : Array Slot), fX0_ofLate_11_p54 fu k12 v1 v2 v3 g L = some (res, s9) → va_P G.1 vwCl (zw G (XS b) 105 a g L) H → va_D A (zw G (XS b) 105 a g L) → va_S A s.heap H locs → lv_has ls 4 [(0, .ref (a 11)), (1, .int v1), (2, .int v2), (3, .int v3)] → W p l e { frames := 11, cells := 0, slots := 0, locals := 227 } s m [.ref (a 11), .int p1, .int p2].toArray below meth c H locs 0 0 (MQ below ((kQv G (S := Unit) (fun _ => True) (fun _ => zw G (XS b) 105 a s9.1 s9.2)) A) [.ref (a 11), .int p1, .int p2].toArray s 0 0 A) (F0 m 54 ls []) := by
        intro v3 g L H locs ls h hP hD hS hl
        unfold fX0_ofLate_11_p54 at h
        refine lv_iinc (v := (v3 + 1)) (lv' := [(3, .int (v3 + 1)), (0, .ref (a 11)), (1, .int v1), (2, .int v2)]) hx hb dX0_ofLate_54 hl (k := 3) rfl rfl (by decide) rfl (fun ls hl => ?_)
        refine lv_goto (tgt := 12) hx hb dX0_ofLate_57 (by decide) ?_
        exact ih12 ((v3 + 1), g, L) h H locs ls hP hD hS (lv_sub hl [1, 2, 3, 0] rfl)
      refine lv_icmp_le (x := x15) (y := v2) (tgt := 54) hx hb dX0_ofLate_37 (by decide) (fun c19 => ?_) (fun c19 => ?_)
      ·
        have h := ite_t c19 h
        exact J54 v3 g16 L17 H locs ls h hP hD hS (lv_sub hl [0, 1, 2, 3] rfl)
      ·
        have h := ite_e c19 h
        refine lv_aload_n hx hb dX0_ofLate_40 rfl (lv_at hl 0 rfl) ?_
        refine lv_dup hx hb dX0_ofLate_41 rfl ?_
        refine x_getv (v := .long (L17 11 5)) (Or.inl fl_X0_23) C hP (by decide) xs_11 rfl dX0_ofLate_42 ?_
        refine lv_aload_n hx hb dX0_ofLate_45 rfl (lv_at hl 0 rfl) ?_
        refine lv_iload_n hx hb dX0_ofLate_46 rfl (lv_at hl 3 rfl) ?_
        obtain ⟨z_, g21, L22, hf23, h⟩ := cb_some h
        refine x_callVl (rest := [.long (L17 11 5), .ref (a 11)]) li_X0_41 C (rX0_weight_11 l G H.size b a fu g16 L17 v3 z_ (g21, L22) hf23) (kR rfl) hP hD hS 11 0 rfl (zat (by decide) xs_11) rfl hl.1 rfl (Nat.le_of_ble_eq_true rfl) dX0_ofLate_47 (fun x20 u_ H locs e_ hP hD hS => ?_)
        have e_ : x20 = z_ := e_
        subst e_
        have hP : va_P G.1 vwCl (zw G (XS b) 105 a g21 L22) H := hP
        have hD : va_D A (zw G (XS b) 105 a g21 L22) := hD
        refine lv_ladd hx hb dX0_ofLate_50 ?_
        refine y_putl (Or.inl fl_X0_23) ft_X0_5 C hP hD hS (by decide) xs_11 rfl dX0_ofLate_51 h (fun L24 H locs h hP hD hS => ?_)
        exact J54 v3 g21 L24 H locs ls h hP hD hS (lv_sub hl [0, 1, 2, 3] rfl)
  exact lp12 p1 p2 fu (0, g2, L5) h H locs ls hP hD hS (lv_sub hl [1, 2, 3, 0] rfl)
def fX0_meanLate_11_s12 (fu : Nat) (v1 : Int32) (k12 : Int32 × (Nat → Nat → Int32) × (Nat → Nat → Int64) → Option ((Unit) × zS)) (v2 : Int32) (g : Nat → Nat → Int32) (L : Nat → Nat → Int64) : Option ((Unit) × zS) :=
  if ((1 : Int32) <<< (((g 11 2) : Int32) &&& 31) : Int32) ≤ v2 then cb (fX0_reduce_11 fu g L) (fun x7 g8 L9 =>
  some ((), (g8, L9)))
  else cb (fX0_runWith_11 fu v2 v1 g L) (fun x11 g12 L13 =>
  cb (fX0_weight_11 fu v2 g12 L13) (fun x15 g16 L17 =>
  cb (fX1_late_8 fu v1 g16 L17) (fun x19 g20 L21 =>
  stl L21 11 5 ((L13 11 5) + (x15 * (Int32.toInt64 x19))) (fun L23 =>
  k12 ((v2 + 1), g20, L23)))))
def fX0_meanLate_11_l12 (fu : Nat) (v1 : Int32) (v2 : Int32) (g : Nat → Nat → Int32) (L : Nat → Nat → Int64) : Option ((Unit) × zS) :=
  whileK (fun k v => fX0_meanLate_11_s12 fu v1 k v.1 v.2.1 v.2.2) fu (v2, g, L)
def fX0_meanLate_11 (fu : Nat) (p1 : Int32) (g : Nat → Nat → Int32) (L : Nat → Nat → Int64) : Option ((Unit) × zS) :=
  cb (fX0_findUnsure_11 fu p1 g L) (fun x1 g2 L3 =>
  stl L3 11 5 0 (fun L5 =>
  fX0_meanLate_11_l12 fu p1 0 g2 L5))
set_option maxHeartbeats 4000000 in
set_option maxRecDepth 100000 in
theorem rX0_meanLate_11 (l : Launch) (G : kG) (sz : Nat) (b : Nat) (a : Nat → Nat) (fu : Nat) (g : Nat → Nat → Int32) (L : Nat → Nat → Int64) (p1 : Int32) (res : Unit) (s9 : zS) (h : fX0_meanLate_11 fu p1 g L = some (res, s9)) : kM l yX0_meanLate cX0_meanLate 3 none { frames := 11, cells := 0, slots := 0, locals := 227 } G [.ref (a 11), .int p1] (zw G (XS b) 105 a g L) sz (kQv G (S := Unit) (fun _ => True) (fun _ => zw G (XS b) 105 a s9.1 s9.2)) := by
  refine kM.of (by decide) (Nat.le_of_ble_eq_true rfl) ?_
  intro p e s m below meth c A ls H C hr hlk hnm hP hD hS hl
  have C : kC G p s m c cX0_meanLate 3 RX0 A := C
  have hx := C.1
  have hb := C.2.1
  have hl : lv_has ls 3 [(0, .ref (a 11)), (1, .int p1)] := hl
  obtain ⟨locs, hlocs⟩ : ∃ q : List Loc, q = [] := ⟨_, rfl⟩
  rw [← hlocs] at hS
  rw [← hlocs]
  unfold fX0_meanLate_11 at h
  refine lv_aload_n hx hb dX0_meanLate_0 rfl (lv_at hl 0 rfl) ?_
  refine lv_iload_n hx hb dX0_meanLate_1 rfl (lv_at hl 1 rfl) ?_
  obtain ⟨z_, g2, L3, hf4, h⟩ := cb_some h
  refine x_callVv (rest := []) li_X0_19 C (rX0_findUnsure_11 l G H.size b a fu g L p1 z_ (g2, L3) hf4) (kR rfl) hP hD hS 11 0 rfl (zat (by decide) xs_11) rfl hl.1 rfl (Nat.le_of_ble_eq_true rfl) dX0_meanLate_2 (fun u_ H locs e_ hP hD hS => ?_)
  have hP : va_P G.1 vwCl (zw G (XS b) 105 a g2 L3) H := hP
  have hD : va_D A (zw G (XS b) 105 a g2 L3) := hD
  refine lv_aload_n hx hb dX0_meanLate_5 rfl (lv_at hl 0 rfl) ?_
  refine lv_lconst (v := 0) hx hb dX0_meanLate_6 (by decide) ?_
  refine y_putl (Or.inl fl_X0_23) ft_X0_5 C hP hD hS (by decide) xs_11 rfl dX0_meanLate_7 h (fun L5 H locs h hP hD hS => ?_)
  refine lv_iconst (v := 0) hx hb dX0_meanLate_10 (by decide) ?_
  refine lv_istore_n (lv' := [(2, .int 0), (0, .ref (a 11)), (1, .int p1)]) hx hb dX0_meanLate_11 rfl hl (by decide) rfl (fun ls hl => ?_)
  have lp12 : ∀ (v1 : Int32), ∀ (n : Nat) (v : Int32 × (Nat → Nat → Int32) × (Nat → Nat → Int64)), whileK (fun k v => fX0_meanLate_11_s12 fu v1 k v.1 v.2.1 v.2.2) n v = some (res, s9) → ∀ (H : Heap) (locs : List Loc) (ls : Array Slot), va_P G.1 vwCl (zw G (XS b) 105 a (v.2.1) (v.2.2)) H → va_D A (zw G (XS b) 105 a (v.2.1) (v.2.2)) → va_S A s.heap H locs → lv_has ls 3 [(0, .ref (a 11)), (1, .int v1), (2, .int (v.1))] → W p l e { frames := 11, cells := 0, slots := 0, locals := 227 } s m [.ref (a 11), .int p1].toArray below meth c H locs 0 0 (MQ below ((kQv G (S := Unit) (fun _ => True) (fun _ => zw G (XS b) 105 a s9.1 s9.2)) A) [.ref (a 11), .int p1].toArray s 0 0 A) (F0 m 12 ls []) := by
    intro v1
    refine while_ind (fun k12 ih12 v h => ?_)
    obtain ⟨v2, g, L⟩ := v
    intro H locs ls hP hD hS hl
    have h : fX0_meanLate_11_s12 fu v1 k12 v2 g L = some (res, s9) := h
    have hP : va_P G.1 vwCl (zw G (XS b) 105 a g L) H := hP
    have hD : va_D A (zw G (XS b) 105 a g L) := hD
    have hl : lv_has ls 3 [(0, .ref (a 11)), (1, .int v1), (2, .int v2)] := hl
    show W p l e { frames := 11, cells := 0, slots := 0, locals := 227 } s m [.ref (a 11), .int p1].toArray below meth c H locs 0 0 (MQ below ((kQv G (S := Unit) (fun _ => True) (fun _ => zw G (XS b) 105 a s9.1 s9.2)) A) [.ref (a 11), .int p1].toArray s 0 0 A) (F0 m 12 ls [])
    unfold fX0_meanLate_11_s12 at h
    refine lv_iload_n hx hb dX0_meanLate_12 rfl (lv_at hl 2 rfl) ?_
    refine lv_iconst (v := 1) hx hb dX0_meanLate_13 (by decide) ?_
    refine lv_aload_n hx hb dX0_meanLate_14 rfl (lv_at hl 0 rfl) ?_
    refine x_getv (v := .int (g 11 2)) (Or.inl fl_X0_27) C hP (by decide) xs_11 rfl dX0_meanLate_15 ?_
    refine lv_ishl hx hb dX0_meanLate_18 ?_
    refine lv_icmp_ge (x := v2) (y := ((1 : Int32) <<< (((g 11 2) : Int32) &&& 31) : Int32)) (tgt := 58) hx hb dX0_meanLate_19 (by decide) (fun c6 => ?_) (fun c6 => ?_)
    ·
      have h := ite_t c6 h
      refine lv_aload_n hx hb dX0_meanLate_58 rfl (lv_at hl 0 rfl) ?_
      obtain ⟨z_, g8, L9, hf10, h⟩ := cb_some h
      refine x_callVv (rest := []) li_X0_45 C (rX0_reduce_11 l G H.size b a fu g L z_ (g8, L9) hf10) (kR rfl) hP hD hS 11 0 rfl (zat (by decide) xs_11) rfl hl.1 rfl (Nat.le_of_ble_eq_true rfl) dX0_meanLate_59 (fun u_ H locs e_ hP hD hS => ?_)
      have hP : va_P G.1 vwCl (zw G (XS b) 105 a g8 L9) H := hP
      have hD : va_D A (zw G (XS b) 105 a g8 L9) := hD
      exact y_vret C hr hlk hP hD hS h (Nat.le_of_ble_eq_true rfl) (Nat.le_of_ble_eq_true rfl) dX0_meanLate_62
    ·
      have h := ite_e c6 h
      refine lv_aload_n hx hb dX0_meanLate_22 rfl (lv_at hl 0 rfl) ?_
      refine lv_iload_n hx hb dX0_meanLate_23 rfl (lv_at hl 2 rfl) ?_
      refine lv_iload_n hx hb dX0_meanLate_24 rfl (lv_at hl 1 rfl) ?_
      obtain ⟨z_, g12, L13, hf14, h⟩ := cb_some h
      refine x_callVv (rest := []) li_X0_31 C (rX0_runWith_11 l G H.size b a fu g L v2 v1 z_ (g12, L13) hf14) (kR rfl) hP hD hS 11 0 rfl (zat (by decide) xs_11) rfl hl.1 rfl (Nat.le_of_ble_eq_true rfl) dX0_meanLate_25 (fun u_ H locs e_ hP hD hS => ?_)
      have hP : va_P G.1 vwCl (zw G (XS b) 105 a g12 L13) H := hP
      have hD : va_D A (zw G (XS b) 105 a g12 L13) := hD
      refine lv_aload_n hx hb dX0_meanLate_28 rfl (lv_at hl 0 rfl) ?_
      refine lv_dup hx hb dX0_meanLate_29 rfl ?_
      refine x_getv (v := .long (L13 11 5)) (Or.inl fl_X0_23) C hP (by decide) xs_11 rfl dX0_meanLate_30 ?_
      refine lv_aload_n hx hb dX0_meanLate_33 rfl (lv_at hl 0 rfl) ?_
      refine lv_iload_n hx hb dX0_meanLate_34 rfl (lv_at hl 2 rfl) ?_
      obtain ⟨z_, g16, L17, hf18, h⟩ := cb_some h
      refine x_callVl (rest := [.long (L13 11 5), .ref (a 11)]) li_X0_41 C (rX0_weight_11 l G H.size b a fu g12 L13 v2 z_ (g16, L17) hf18) (kR rfl) hP hD hS 11 0 rfl (zat (by decide) xs_11) rfl hl.1 rfl (Nat.le_of_ble_eq_true rfl) dX0_meanLate_35 (fun x15 u_ H locs e_ hP hD hS => ?_)
      have e_ : x15 = z_ := e_
      subst e_
      have hP : va_P G.1 vwCl (zw G (XS b) 105 a g16 L17) H := hP
      have hD : va_D A (zw G (XS b) 105 a g16 L17) := hD
      refine lv_aload_n hx hb dX0_meanLate_38 rfl (lv_at hl 0 rfl) ?_
      refine x_getr (Or.inl fl_X0_15) C hP (by decide) xs_11 rfl dX0_meanLate_39 ?_
      refine lv_iload_n hx hb dX0_meanLate_42 rfl (lv_at hl 1 rfl) ?_
      obtain ⟨z_, g20, L21, hf22, h⟩ := cb_some h
      refine x_callNi (rest := [.long x15, .long (L13 11 5), .ref (a 11)]) li_X0_35 C (rX1_late_8 l G H.size b a fu g16 L17 v1 z_ (g20, L21) hf22) (kR rfl) hP hD hS 8 1 rfl (zat (by decide) xs_8) rfl hl.1 rfl (Nat.le_of_ble_eq_true rfl) dX0_meanLate_43 (fun x19 u_ H locs e_ hP hD hS => ?_)
      have e_ : x19 = z_ := e_
      subst e_
      have hP : va_P G.1 vwCl (zw G (XS b) 105 a g20 L21) H := hP
      have hD : va_D A (zw G (XS b) 105 a g20 L21) := hD
      refine lv_i2l hx hb dX0_meanLate_46 rfl ?_
      refine lv_lmul hx hb dX0_meanLate_47 ?_
      refine lv_ladd hx hb dX0_meanLate_48 ?_
      refine y_putl (Or.inl fl_X0_23) ft_X0_5 C hP hD hS (by decide) xs_11 rfl dX0_meanLate_49 h (fun L23 H locs h hP hD hS => ?_)
      refine lv_iinc (v := (v2 + 1)) (lv' := [(2, .int (v2 + 1)), (0, .ref (a 11)), (1, .int v1)]) hx hb dX0_meanLate_52 hl (k := 2) rfl rfl (by decide) rfl (fun ls hl => ?_)
      refine lv_goto (tgt := 12) hx hb dX0_meanLate_55 (by decide) ?_
      exact ih12 ((v2 + 1), g20, L23) h H locs ls hP hD hS (lv_sub hl [1, 2, 0] rfl)
  exact lp12 p1 fu (0, g2, L5) h H locs ls hP hD hS (lv_sub hl [1, 2, 0] rfl)
def fX0_drawOfTen_11 (fu : Nat) (g : Nat → Nat → Int32) (L : Nat → Nat → Int64) : Option ((Int32) × zS) :=
  sti g 11 4 (((g 11 4) * 1103515245) + 12345) (fun g1 =>
  cnz 10 (
  some ((((Int32.toUInt32 (g1 11 4) >>> (Int32.toUInt32 16 &&& Int32.toUInt32 31)).toInt32 &&& 32767) - ((Int32.toUInt32 (g1 11 4) >>> (Int32.toUInt32 16 &&& Int32.toUInt32 31)).toInt32 &&& 32767) / 10 * 10), (g1, L))))
set_option maxHeartbeats 4000000 in
set_option maxRecDepth 100000 in
theorem rX0_drawOfTen_11 (l : Launch) (G : kG) (sz : Nat) (b : Nat) (a : Nat → Nat) (fu : Nat) (g : Nat → Nat → Int32) (L : Nat → Nat → Int64) (res : Int32) (s9 : zS) (h : fX0_drawOfTen_11 fu g L = some (res, s9)) : kM l yX0_drawOfTen cX0_drawOfTen 1 (some .int) { frames := 6, cells := 0, slots := 0, locals := 110 } G [.ref (a 11)] (zw G (XS b) 105 a g L) sz (kQi G (S := Unit) (fun r' _ => r' = res) (fun _ => zw G (XS b) 105 a s9.1 s9.2)) := by
  refine kM.of (by decide) (Nat.le_of_ble_eq_true rfl) ?_
  intro p e s m below meth c A ls H C hr hlk hnm hP hD hS hl
  have C : kC G p s m c cX0_drawOfTen 1 RX0 A := C
  have hx := C.1
  have hb := C.2.1
  have hl : lv_has ls 1 [(0, .ref (a 11))] := hl
  obtain ⟨locs, hlocs⟩ : ∃ q : List Loc, q = [] := ⟨_, rfl⟩
  rw [← hlocs] at hS
  rw [← hlocs]
  unfold fX0_drawOfTen_11 at h
  refine lv_aload_n hx hb dX0_drawOfTen_0 rfl (lv_at hl 0 rfl) ?_
  refine lv_aload_n hx hb dX0_drawOfTen_1 rfl (lv_at hl 0 rfl) ?_
  refine x_getv (v := .int (g 11 4)) (Or.inl fl_X0_77) C hP (by decide) xs_11 rfl dX0_drawOfTen_2 ?_
  refine lv_ldc (v := 1103515245) hx hb C.2.2.2.1 (C.2.2.2.2.1.w tw_1320 rfl) dX0_drawOfTen_5 ?_
  refine lv_imul hx hb dX0_drawOfTen_7 ?_
  refine lv_sipush (v := 12345) hx hb dX0_drawOfTen_8 (by decide) ?_
  refine lv_iadd hx hb dX0_drawOfTen_11 ?_
  refine y_puti (Or.inl fl_X0_77) ft_X0_4 C hP hD hS (by decide) xs_11 rfl rfl rfl dX0_drawOfTen_12 h (fun g1 H locs h hP hD hS => ?_)
  refine lv_aload_n hx hb dX0_drawOfTen_15 rfl (lv_at hl 0 rfl) ?_
  refine x_getv (v := .int (g1 11 4)) (Or.inl fl_X0_77) C hP (by decide) xs_11 rfl dX0_drawOfTen_16 ?_
  refine lv_bipush (v := 16) hx hb dX0_drawOfTen_19 (by decide) ?_
  refine lv_iushr hx hb dX0_drawOfTen_21 rfl ?_
  refine lv_sipush (v := 32767) hx hb dX0_drawOfTen_22 (by decide) ?_
  refine lv_iand hx hb dX0_drawOfTen_25 ?_
  refine lv_bipush (v := 10) hx hb dX0_drawOfTen_26 (by decide) ?_
  obtain ⟨nz, h⟩ := cnz_some h
  refine lv_irem hx hb dX0_drawOfTen_28 nz ?_
  exact y_iret C hr hlk hP hD hS h (Nat.le_of_ble_eq_true rfl) (Nat.le_of_ble_eq_true rfl) dX0_drawOfTen_29
def fX0_drawRunning_11_p54 (fu : Nat) (k4 : Int32 × Int32 × (Nat → Nat → Int32) × (Nat → Nat → Int64) → Option ((Int32) × zS)) (v1 : Int32) (v2 : Int32) (g : Nat → Nat → Int32) (L : Nat → Nat → Int64) : Option ((Int32) × zS) :=
  k4 (v1, (v2 + 1), g, L)
def fX0_drawRunning_11_p48 (fu : Nat) (k4 : Int32 × Int32 × (Nat → Nat → Int32) × (Nat → Nat → Int64) → Option ((Int32) × zS)) (v1 : Int32) (v2 : Int32) (g : Nat → Nat → Int32) (L : Nat → Nat → Int64) : Option ((Int32) × zS) :=
  lti (v1 ||| ((1 : Int32) <<< ((v2 : Int32) &&& 31) : Int32)) (fun x4 =>
  fX0_drawRunning_11_p54 fu k4 x4 v2 g L)
def fX0_drawRunning_11_s4 (fu : Nat) (k4 : Int32 × Int32 × (Nat → Nat → Int32) × (Nat → Nat → Int64) → Option ((Int32) × zS)) (v1 : Int32) (v2 : Int32) (g : Nat → Nat → Int32) (L : Nat → Nat → Int64) : Option ((Int32) × zS) :=
  if (g 1 2) ≤ v2 then some (v1, (g, L))
  else ck v2 12 (ltn (57 + (Int32.toNatClampNeg v2) % 12) (fun q2 =>
  lti (g q2 12) (fun x3 =>
  if (x3 : Int32) = 10 then fX0_drawRunning_11_p48 fu k4 v1 v2 g L
  else cb (fX0_drawOfTen_11 fu g L) (fun x6 g7 L8 =>
  if x3 ≤ (x6 : Int32) then fX0_drawRunning_11_p54 fu k4 v1 v2 g7 L8
  else fX0_drawRunning_11_p48 fu k4 v1 v2 g7 L8))))
def fX0_drawRunning_11_l4 (fu : Nat) (v1 : Int32) (v2 : Int32) (g : Nat → Nat → Int32) (L : Nat → Nat → Int64) : Option ((Int32) × zS) :=
  whileK (fun k v => fX0_drawRunning_11_s4 fu k v.1 v.2.1 v.2.2.1 v.2.2.2) fu (v1, v2, g, L)
def fX0_drawRunning_11 (fu : Nat) (g : Nat → Nat → Int32) (L : Nat → Nat → Int64) : Option ((Int32) × zS) :=
  fX0_drawRunning_11_l4 fu 0 0 g L
set_option maxHeartbeats 4000000 in
set_option maxRecDepth 100000 in
theorem rX0_drawRunning_11 (l : Launch) (G : kG) (sz : Nat) (b : Nat) (a : Nat → Nat) (fu : Nat) (g : Nat → Nat → Int32) (L : Nat → Nat → Int64) (res : Int32) (s9 : zS) (h : fX0_drawRunning_11 fu g L = some (res, s9)) : kM l yX0_drawRunning cX0_drawRunning 4 (some .int) { frames := 7, cells := 0, slots := 0, locals := 130 } G [.ref (a 11)] (zw G (XS b) 105 a g L) sz (kQi G (S := Unit) (fun r' _ => r' = res) (fun _ => zw G (XS b) 105 a s9.1 s9.2)) := by
  refine kM.of (by decide) (Nat.le_of_ble_eq_true rfl) ?_
  intro p e s m below meth c A ls H C hr hlk hnm hP hD hS hl
  have C : kC G p s m c cX0_drawRunning 4 RX0 A := C
  have hx := C.1
  have hb := C.2.1
  have hl : lv_has ls 4 [(0, .ref (a 11))] := hl
  obtain ⟨locs, hlocs⟩ : ∃ q : List Loc, q = [] := ⟨_, rfl⟩
  rw [← hlocs] at hS
  rw [← hlocs]
  unfold fX0_drawRunning_11 at h
  refine lv_iconst (v := 0) hx hb dX0_drawRunning_0 (by decide) ?_
  refine lv_istore_n (lv' := [(1, .int 0), (0, .ref (a 11))]) hx hb dX0_drawRunning_1 rfl hl (by decide) rfl (fun ls hl => ?_)
  refine lv_iconst (v := 0) hx hb dX0_drawRunning_2 (by decide) ?_
  refine lv_istore_n (lv' := [(2, .int 0), (1, .int 0), (0, .ref (a 11))]) hx hb dX0_drawRunning_3 rfl hl (by decide) rfl (fun ls hl => ?_)
  have lp4 : ∀ (_ : True), ∀ (n : Nat) (v : Int32 × Int32 × (Nat → Nat → Int32) × (Nat → Nat → Int64)), whileK (fun k v => fX0_drawRunning_11_s4 fu k v.1 v.2.1 v.2.2.1 v.2.2.2) n v = some (res, s9) → ∀ (H : Heap) (locs : List Loc) (ls : Array Slot), va_P G.1 vwCl (zw G (XS b) 105 a (v.2.2.1) (v.2.2.2)) H → va_D A (zw G (XS b) 105 a (v.2.2.1) (v.2.2.2)) → va_S A s.heap H locs → lv_has ls 4 [(0, .ref (a 11)), (1, .int (v.1)), (2, .int (v.2.1))] → W p l e { frames := 7, cells := 0, slots := 0, locals := 130 } s m [.ref (a 11)].toArray below meth c H locs 0 0 (MQ below ((kQi G (S := Unit) (fun r' _ => r' = res) (fun _ => zw G (XS b) 105 a s9.1 s9.2)) A) [.ref (a 11)].toArray s 0 0 A) (F0 m 4 ls []) := by
    intro _
    refine while_ind (fun k4 ih4 v h => ?_)
    obtain ⟨v1, v2, g, L⟩ := v
    intro H locs ls hP hD hS hl
    have h : fX0_drawRunning_11_s4 fu k4 v1 v2 g L = some (res, s9) := h
    have hP : va_P G.1 vwCl (zw G (XS b) 105 a g L) H := hP
    have hD : va_D A (zw G (XS b) 105 a g L) := hD
    have hl : lv_has ls 4 [(0, .ref (a 11)), (1, .int v1), (2, .int v2)] := hl
    show W p l e { frames := 7, cells := 0, slots := 0, locals := 130 } s m [.ref (a 11)].toArray below meth c H locs 0 0 (MQ below ((kQi G (S := Unit) (fun r' _ => r' = res) (fun _ => zw G (XS b) 105 a s9.1 s9.2)) A) [.ref (a 11)].toArray s 0 0 A) (F0 m 4 ls [])
    unfold fX0_drawRunning_11_s4 at h
    refine lv_iload_n hx hb dX0_drawRunning_4 rfl (lv_at hl 2 rfl) ?_
    refine lv_aload_n hx hb dX0_drawRunning_5 rfl (lv_at hl 0 rfl) ?_
    refine x_getr (Or.inl fl_X0_15) C hP (by decide) xs_11 rfl dX0_drawRunning_6 ?_
    refine x_getr (Or.inr fl_X0_54) C hP (by decide) xs_8 rfl dX0_drawRunning_9 ?_
    refine x_getv (v := .int (g 1 2)) (Or.inr fl_X0_93) C hP (by decide) xs_1 rfl dX0_drawRunning_12 ?_
    refine lv_icmp_ge (x := v2) (y := (g 1 2)) (tgt := 60) hx hb dX0_drawRunning_15 (by decide) (fun c1 => ?_) (fun c1 => ?_)
    ·
      have h := ite_t c1 h
      refine lv_iload_n hx hb dX0_drawRunning_60 rfl (lv_at hl 1 rfl) ?_
      exact y_iret C hr hlk hP hD hS h (Nat.le_of_ble_eq_true rfl) (Nat.le_of_ble_eq_true rfl) dX0_drawRunning_61
    ·
      have h := ite_e c1 h
      refine lv_aload_n hx hb dX0_drawRunning_18 rfl (lv_at hl 0 rfl) ?_
      refine x_getr (Or.inl fl_X0_15) C hP (by decide) xs_11 rfl dX0_drawRunning_19 ?_
      refine x_getr (Or.inr fl_X0_54) C hP (by decide) xs_8 rfl dX0_drawRunning_22 ?_
      refine x_getr (Or.inr fl_X0_58) C hP (by decide) xs_1 rfl dX0_drawRunning_25 ?_
      refine lv_iload_n hx hb dX0_drawRunning_28 rfl (lv_at hl 2 rfl) ?_
      refine y_aald (t := 57) C hP (by decide) xs_17 dX0_drawRunning_29 h (fun q2 q2l q2h h => ?_)
      refine x_getv (v := .int (g q2 12)) (Or.inr fl_X0_64) C hP (by omega) (xs_les (by omega) (by omega)) rfl dX0_drawRunning_30 ?_
      refine y_let h (fun x3 h => ?_)
      refine lv_istore_n (lv' := [(3, .int x3), (0, .ref (a 11)), (1, .int v1), (2, .int v2)]) hx hb dX0_drawRunning_33 rfl hl (by decide) rfl (fun ls hl => ?_)
      refine lv_iload_n hx hb dX0_drawRunning_34 rfl (lv_at hl 0 rfl) ?_
      refine lv_bipush (v := 10) hx hb dX0_drawRunning_35 (by decide) ?_
      have J54 : ∀ (v1 : Int32) (v2 : Int32) (g : Nat → Nat → Int32) (L : Nat → Nat → Int64) (H : Heap) (locs : List Loc) (ls : Array Slot), fX0_drawRunning_11_p54 fu k4 v1 v2 g L = some (res, s9) → va_P G.1 vwCl (zw G (XS b) 105 a g L) H → va_D A (zw G (XS b) 105 a g L) → va_S A s.heap H locs → lv_has ls 4 [(0, .ref (a 11)), (1, .int v1), (2, .int v2)] → W p l e { frames := 7, cells := 0, slots := 0, locals := 130 } s m [.ref (a 11)].toArray below meth c H locs 0 0 (MQ below ((kQi G (S := Unit) (fun r' _ => r' = res) (fun _ => zw G (XS b) 105 a s9.1 s9.2)) A) [.ref (a 11)].toArray s 0 0 A) (F0 m 54 ls []) := by
        intro v1 v2 g L H locs ls h hP hD hS hl
        unfold fX0_drawRunning_11_p54 at h
        refine lv_iinc (v := (v2 + 1)) (lv' := [(2, .int (v2 + 1)), (0, .ref (a 11)), (1, .int v1)]) hx hb dX0_drawRunning_54 hl (k := 2) rfl rfl (by decide) rfl (fun ls hl => ?_)
        refine lv_goto (tgt := 4) hx hb dX0_drawRunning_57 (by decide) ?_
        exact ih4 (v1, (v2 + 1), g, L) h H locs ls hP hD hS (lv_sub hl [1, 2, 0] rfl)
      have J48 : ∀ (v1 : Int32) (v2 : Int32) (g : Nat → Nat → Int32) (L : Nat → Nat → Int64) (H : Heap) (locs : List Loc) (ls : Array Slot), fX0_drawRunning_11_p48 fu k4 v1 v2 g L = some (res, s9) → va_P G.1 vwCl (zw G (XS b) 105 a g L) H → va_D A (zw G (XS b) 105 a g L) → va_S A s.heap H locs → lv_has ls 4 [(0, .ref (a 11)), (1, .int v1), (2, .int v2)] → W p l e { frames := 7, cells := 0, slots := 0, locals := 130 } s m [.ref (a 11)].toArray below meth c H locs 0 0 (MQ below ((kQi G (S := Unit) (fun r' _ => r' = res) (fun _ => zw G (XS b) 105 a s9.1 s9.2)) A) [.ref (a 11)].toArray s 0 0 A) (F0 m 48 ls []) := by
        intro v1 v2 g L H locs ls h hP hD hS hl
        unfold fX0_drawRunning_11_p48 at h
        refine lv_iload_n hx hb dX0_drawRunning_48 rfl (lv_at hl 1 rfl) ?_
        refine lv_iconst (v := 1) hx hb dX0_drawRunning_49 (by decide) ?_
        refine lv_iload_n hx hb dX0_drawRunning_50 rfl (lv_at hl 2 rfl) ?_
        refine lv_ishl hx hb dX0_drawRunning_51 ?_
        refine lv_ior hx hb dX0_drawRunning_52 ?_
        refine y_let h (fun x4 h => ?_)
        refine lv_istore_n (lv' := [(1, .int x4), (0, .ref (a 11)), (2, .int v2)]) hx hb dX0_drawRunning_53 rfl hl (by decide) rfl (fun ls hl => ?_)
        exact J54 x4 v2 g L H locs ls h hP hD hS (lv_sub hl [1, 0, 2] rfl)
      refine lv_icmp_eq (x := x3) (y := 10) (tgt := 48) hx hb dX0_drawRunning_37 (by decide) (fun c5 => ?_) (fun c5 => ?_)
      ·
        have h := ite_t c5 h
        exact J48 v1 v2 g L H locs ls h hP hD hS (lv_sub hl [1, 2, 3] rfl)
      ·
        have h := ite_e c5 h
        refine lv_aload_n hx hb dX0_drawRunning_40 rfl (lv_at hl 1 rfl) ?_
        obtain ⟨z_, g7, L8, hf9, h⟩ := cb_some h
        refine x_callVi (rest := []) li_X0_96 C (rX0_drawOfTen_11 l G H.size b a fu g L z_ (g7, L8) hf9) (kR rfl) hP hD hS 11 0 rfl (zat (by decide) xs_11) rfl hl.1 rfl (Nat.le_of_ble_eq_true rfl) dX0_drawRunning_41 (fun x6 u_ H locs e_ hP hD hS => ?_)
        have e_ : x6 = z_ := e_
        subst e_
        have hP : va_P G.1 vwCl (zw G (XS b) 105 a g7 L8) H := hP
        have hD : va_D A (zw G (XS b) 105 a g7 L8) := hD
        refine lv_iload_n hx hb dX0_drawRunning_44 rfl (lv_at hl 0 rfl) ?_
        refine lv_icmp_ge (x := x6) (y := x3) (tgt := 54) hx hb dX0_drawRunning_45 (by decide) (fun c10 => ?_) (fun c10 => ?_)
        ·
          have h := ite_t c10 h
          exact J54 v1 v2 g7 L8 H locs ls h hP hD hS (lv_sub hl [1, 2, 3] rfl)
        ·
          have h := ite_e c10 h
          exact J48 v1 v2 g7 L8 H locs ls h hP hD hS (lv_sub hl [1, 2, 3] rfl)
  exact lp4 trivial fu (0, 0, g, L) h H locs ls hP hD hS (lv_sub hl [2, 1, 0] rfl)
def fX0_ofTerm_11_p116 (fu : Nat) (t0 : Int32) (g : Nat → Nat → Int32) (L : Nat → Nat → Int64) : Option ((Int32) × zS) :=
  some (t0, (g, L))
def fX0_ofTerm_11_p78 (fu : Nat) (k17 : Int32 × Int32 × Int32 × Int32 × (Nat → Nat → Int32) × (Nat → Nat → Int64) → Option ((Int32) × zS)) (v2 : Int32) (v3 : Int32) (v4 : Int32) (v5 : Int32) (v6 : Int32) (v8 : Int32) (t0 : Int32) (t1 : Int32) (g : Nat → Nat → Int32) (L : Nat → Nat → Int64) : Option ((Int32) × zS) :=
  lti (t1 + t0) (fun x21 =>
  k17 (v5, v6, x21, (v8 + 1), g, L))
def fX0_ofTerm_11_s17 (fu : Nat) (v2 : Int32) (v3 : Int32) (v4 : Int32) (k17 : Int32 × Int32 × Int32 × Int32 × (Nat → Nat → Int32) × (Nat → Nat → Int64) → Option ((Int32) × zS)) (v5 : Int32) (v6 : Int32) (v7 : Int32) (v8 : Int32) (g : Nat → Nat → Int32) (L : Nat → Nat → Int64) : Option ((Int32) × zS) :=
  if v2 ≤ (v8 : Int32) then sti g 8 8 (-1) (fun g3 =>
  if v4 = 0 then some (v5, (g3, L))
  else if (v4 : Int32) = 1 then fX0_ofTerm_11_p116 fu v6 g3 L
  else fX0_ofTerm_11_p116 fu v7 g3 L)
  else cb (fX0_drawRunning_11 fu g L) (fun x6 g7 L8 =>
  sti g7 8 8 x6 (fun g10 =>
  cb (fX1_lostFrom_8 fu 0 g10 L8) (fun x11 g12 L13 =>
  lti (v5 + x11) (fun x15 =>
  lti (if v6 < x11 then x11 else v6) (fun x16 =>
  cb (fX1_late_8 fu v3 g12 L13) (fun x17 g18 L19 =>
  if x17 ≤ 0 then fX0_ofTerm_11_p78 fu k17 v2 v3 v4 x15 x16 v8 0 v7 g18 L19
  else fX0_ofTerm_11_p78 fu k17 v2 v3 v4 x15 x16 v8 1 v7 g18 L19))))))
def fX0_ofTerm_11_l17 (fu : Nat) (v2 : Int32) (v3 : Int32) (v4 : Int32) (v5 : Int32) (v6 : Int32) (v7 : Int32) (v8 : Int32) (g : Nat → Nat → Int32) (L : Nat → Nat → Int64) : Option ((Int32) × zS) :=
  whileK (fun k v => fX0_ofTerm_11_s17 fu v2 v3 v4 k v.1 v.2.1 v.2.2.1 v.2.2.2.1 v.2.2.2.2.1 v.2.2.2.2.2) fu (v5, v6, v7, v8, g, L)
def fX0_ofTerm_11 (fu : Nat) (p1 : Int32) (p2 : Int32) (p3 : Int32) (p4 : Int32) (g : Nat → Nat → Int32) (L : Nat → Nat → Int64) : Option ((Int32) × zS) :=
  sti g 11 4 p1 (fun g1 =>
  fX0_ofTerm_11_l17 fu p2 p3 p4 0 0 0 0 g1 L)
set_option maxHeartbeats 4000000 in
set_option maxRecDepth 100000 in
theorem rX0_ofTerm_11 (l : Launch) (G : kG) (sz : Nat) (b : Nat) (a : Nat → Nat) (fu : Nat) (g : Nat → Nat → Int32) (L : Nat → Nat → Int64) (p1 : Int32) (p2 : Int32) (p3 : Int32) (p4 : Int32) (res : Int32) (s9 : zS) (h : fX0_ofTerm_11 fu p1 p2 p3 p4 g L = some (res, s9)) : kM l yX0_ofTerm cX0_ofTerm 10 (some .int) { frames := 11, cells := 0, slots := 0, locals := 225 } G [.ref (a 11), .int p1, .int p2, .int p3, .int p4] (zw G (XS b) 105 a g L) sz (kQi G (S := Unit) (fun r' _ => r' = res) (fun _ => zw G (XS b) 105 a s9.1 s9.2)) := by
  refine kM.of (by decide) (Nat.le_of_ble_eq_true rfl) ?_
  intro p e s m below meth c A ls H C hr hlk hnm hP hD hS hl
  have C : kC G p s m c cX0_ofTerm 10 RX0 A := C
  have hx := C.1
  have hb := C.2.1
  have hl : lv_has ls 10 [(0, .ref (a 11)), (1, .int p1), (2, .int p2), (3, .int p3), (4, .int p4)] := hl
  obtain ⟨locs, hlocs⟩ : ∃ q : List Loc, q = [] := ⟨_, rfl⟩
  rw [← hlocs] at hS
  rw [← hlocs]
  unfold fX0_ofTerm_11 at h
  refine lv_aload_n hx hb dX0_ofTerm_0 rfl (lv_at hl 0 rfl) ?_
  refine lv_iload_n hx hb dX0_ofTerm_1 rfl (lv_at hl 1 rfl) ?_
  refine y_puti (Or.inl fl_X0_77) ft_X0_4 C hP hD hS (by decide) xs_11 rfl rfl rfl dX0_ofTerm_2 h (fun g1 H locs h hP hD hS => ?_)
  refine lv_iconst (v := 0) hx hb dX0_ofTerm_5 (by decide) ?_
  refine lv_istore (lv' := [(5, .int 0), (0, .ref (a 11)), (1, .int p1), (2, .int p2), (3, .int p3), (4, .int p4)]) hx hb dX0_ofTerm_6 hl (by decide) rfl (fun ls hl => ?_)
  refine lv_iconst (v := 0) hx hb dX0_ofTerm_8 (by decide) ?_
  refine lv_istore (lv' := [(6, .int 0), (5, .int 0), (0, .ref (a 11)), (1, .int p1), (2, .int p2), (3, .int p3), (4, .int p4)]) hx hb dX0_ofTerm_9 hl (by decide) rfl (fun ls hl => ?_)
  refine lv_iconst (v := 0) hx hb dX0_ofTerm_11 (by decide) ?_
  refine lv_istore (lv' := [(7, .int 0), (6, .int 0), (5, .int 0), (0, .ref (a 11)), (1, .int p1), (2, .int p2), (3, .int p3), (4, .int p4)]) hx hb dX0_ofTerm_12 hl (by decide) rfl (fun ls hl => ?_)
  refine lv_iconst (v := 0) hx hb dX0_ofTerm_14 (by decide) ?_
  refine lv_istore (lv' := [(8, .int 0), (7, .int 0), (6, .int 0), (5, .int 0), (0, .ref (a 11)), (1, .int p1), (2, .int p2), (3, .int p3), (4, .int p4)]) hx hb dX0_ofTerm_15 hl (by decide) rfl (fun ls hl => ?_)
  have lp17 : ∀ (v2 : Int32) (v3 : Int32) (v4 : Int32), ∀ (n : Nat) (v : Int32 × Int32 × Int32 × Int32 × (Nat → Nat → Int32) × (Nat → Nat → Int64)), whileK (fun k v => fX0_ofTerm_11_s17 fu v2 v3 v4 k v.1 v.2.1 v.2.2.1 v.2.2.2.1 v.2.2.2.2.1 v.2.2.2.2.2) n v = some (res, s9) → ∀ (H : Heap) (locs : List Loc) (ls : Array Slot), va_P G.1 vwCl (zw G (XS b) 105 a (v.2.2.2.2.1) (v.2.2.2.2.2)) H → va_D A (zw G (XS b) 105 a (v.2.2.2.2.1) (v.2.2.2.2.2)) → va_S A s.heap H locs → lv_has ls 10 [(0, .ref (a 11)), (2, .int v2), (3, .int v3), (4, .int v4), (5, .int (v.1)), (6, .int (v.2.1)), (7, .int (v.2.2.1)), (8, .int (v.2.2.2.1))] → W p l e { frames := 11, cells := 0, slots := 0, locals := 225 } s m [.ref (a 11), .int p1, .int p2, .int p3, .int p4].toArray below meth c H locs 0 0 (MQ below ((kQi G (S := Unit) (fun r' _ => r' = res) (fun _ => zw G (XS b) 105 a s9.1 s9.2)) A) [.ref (a 11), .int p1, .int p2, .int p3, .int p4].toArray s 0 0 A) (F0 m 17 ls []) := by
    intro v2 v3 v4
    refine while_ind (fun k17 ih17 v h => ?_)
    obtain ⟨v5, v6, v7, v8, g, L⟩ := v
    intro H locs ls hP hD hS hl
    have h : fX0_ofTerm_11_s17 fu v2 v3 v4 k17 v5 v6 v7 v8 g L = some (res, s9) := h
    have hP : va_P G.1 vwCl (zw G (XS b) 105 a g L) H := hP
    have hD : va_D A (zw G (XS b) 105 a g L) := hD
    have hl : lv_has ls 10 [(0, .ref (a 11)), (2, .int v2), (3, .int v3), (4, .int v4), (5, .int v5), (6, .int v6), (7, .int v7), (8, .int v8)] := hl
    show W p l e { frames := 11, cells := 0, slots := 0, locals := 225 } s m [.ref (a 11), .int p1, .int p2, .int p3, .int p4].toArray below meth c H locs 0 0 (MQ below ((kQi G (S := Unit) (fun r' _ => r' = res) (fun _ => zw G (XS b) 105 a s9.1 s9.2)) A) [.ref (a 11), .int p1, .int p2, .int p3, .int p4].toArray s 0 0 A) (F0 m 17 ls [])
    unfold fX0_ofTerm_11_s17 at h
    refine lv_iload hx hb dX0_ofTerm_17 (lv_at hl 7 rfl) ?_
    refine lv_iload_n hx hb dX0_ofTerm_19 rfl (lv_at hl 1 rfl) ?_
    refine lv_icmp_ge (x := v8) (y := v2) (tgt := 87) hx hb dX0_ofTerm_20 (by decide) (fun c2 => ?_) (fun c2 => ?_)
    ·
      have h := ite_t c2 h
      refine lv_aload_n hx hb dX0_ofTerm_87 rfl (lv_at hl 0 rfl) ?_
      refine x_getr (Or.inl fl_X0_15) C hP (by decide) xs_11 rfl dX0_ofTerm_88 ?_
      refine lv_iconst (v := -1) hx hb dX0_ofTerm_91 (by decide) ?_
      refine y_puti (Or.inr fl_X0_71) ft_X1_8 C hP hD hS (by decide) xs_8 rfl rfl rfl dX0_ofTerm_92 h (fun g3 H locs h hP hD hS => ?_)
      refine lv_iload hx hb dX0_ofTerm_95 (lv_at hl 3 rfl) ?_
      refine lv_if_ne (x := v4) (tgt := 103) hx hb dX0_ofTerm_97 (by decide) (fun c4 => ?_) (fun c4 => ?_)
      ·
        have h := ite_e c4 h
        refine lv_iload hx hb dX0_ofTerm_103 (lv_at hl 3 rfl) ?_
        refine lv_iconst (v := 1) hx hb dX0_ofTerm_105 (by decide) ?_
        have J116 : ∀ (t0 : Int32) (g : Nat → Nat → Int32) (L : Nat → Nat → Int64) (H : Heap) (locs : List Loc) (ls : Array Slot), fX0_ofTerm_11_p116 fu t0 g L = some (res, s9) → va_P G.1 vwCl (zw G (XS b) 105 a g L) H → va_D A (zw G (XS b) 105 a g L) → va_S A s.heap H locs → lv_has ls 10 [] → W p l e { frames := 11, cells := 0, slots := 0, locals := 225 } s m [.ref (a 11), .int p1, .int p2, .int p3, .int p4].toArray below meth c H locs 0 0 (MQ below ((kQi G (S := Unit) (fun r' _ => r' = res) (fun _ => zw G (XS b) 105 a s9.1 s9.2)) A) [.ref (a 11), .int p1, .int p2, .int p3, .int p4].toArray s 0 0 A) (F0 m 116 ls [.int t0]) := by
          intro t0 g L H locs ls h hP hD hS hl
          unfold fX0_ofTerm_11_p116 at h
          exact y_iret C hr hlk hP hD hS h (Nat.le_of_ble_eq_true rfl) (Nat.le_of_ble_eq_true rfl) dX0_ofTerm_116
        refine lv_icmp_ne (x := v4) (y := 1) (tgt := 114) hx hb dX0_ofTerm_106 (by decide) (fun c5 => ?_) (fun c5 => ?_)
        ·
          have h := ite_e c5 h
          refine lv_iload hx hb dX0_ofTerm_114 (lv_at hl 6 rfl) ?_
          exact J116 v7 g3 L H locs ls h hP hD hS (lv_sub hl [] rfl)
        ·
          have h := ite_t c5 h
          refine lv_iload hx hb dX0_ofTerm_109 (lv_at hl 5 rfl) ?_
          refine lv_goto (tgt := 116) hx hb dX0_ofTerm_111 (by decide) ?_
          exact J116 v6 g3 L H locs ls h hP hD hS (lv_sub hl [] rfl)
      ·
        have h := ite_t c4 h
        refine lv_iload hx hb dX0_ofTerm_100 (lv_at hl 4 rfl) ?_
        exact y_iret C hr hlk hP hD hS h (Nat.le_of_ble_eq_true rfl) (Nat.le_of_ble_eq_true rfl) dX0_ofTerm_102
    ·
      have h := ite_e c2 h
      refine lv_aload_n hx hb dX0_ofTerm_23 rfl (lv_at hl 0 rfl) ?_
      refine x_getr (Or.inl fl_X0_15) C hP (by decide) xs_11 rfl dX0_ofTerm_24 ?_
      refine lv_aload_n hx hb dX0_ofTerm_27 rfl (lv_at hl 0 rfl) ?_
      obtain ⟨z_, g7, L8, hf9, h⟩ := cb_some h
      refine x_callVi (rest := [.ref (a 8)]) li_X0_80 C (rX0_drawRunning_11 l G H.size b a fu g L z_ (g7, L8) hf9) (kR rfl) hP hD hS 11 0 rfl (zat (by decide) xs_11) rfl hl.1 rfl (Nat.le_of_ble_eq_true rfl) dX0_ofTerm_28 (fun x6 u_ H locs e_ hP hD hS => ?_)
      have e_ : x6 = z_ := e_
      subst e_
      have hP : va_P G.1 vwCl (zw G (XS b) 105 a g7 L8) H := hP
      have hD : va_D A (zw G (XS b) 105 a g7 L8) := hD
      refine y_puti (Or.inr fl_X0_71) ft_X1_8 C hP hD hS (by decide) xs_8 rfl rfl rfl dX0_ofTerm_31 h (fun g10 H locs h hP hD hS => ?_)
      refine lv_aload_n hx hb dX0_ofTerm_34 rfl (lv_at hl 0 rfl) ?_
      refine x_getr (Or.inl fl_X0_15) C hP (by decide) xs_11 rfl dX0_ofTerm_35 ?_
      refine lv_iconst (v := 0) hx hb dX0_ofTerm_38 (by decide) ?_
      obtain ⟨z_, g12, L13, hf14, h⟩ := cb_some h
      refine x_callNi (rest := []) li_X0_84 C (rX1_lostFrom_8 l G H.size b a fu g10 L8 0 z_ (g12, L13) hf14) (kR rfl) hP hD hS 8 1 rfl (zat (by decide) xs_8) rfl hl.1 rfl (Nat.le_of_ble_eq_true rfl) dX0_ofTerm_39 (fun x11 u_ H locs e_ hP hD hS => ?_)
      have e_ : x11 = z_ := e_
      subst e_
      have hP : va_P G.1 vwCl (zw G (XS b) 105 a g12 L13) H := hP
      have hD : va_D A (zw G (XS b) 105 a g12 L13) := hD
      refine lv_istore (lv' := [(9, .int x11), (0, .ref (a 11)), (2, .int v2), (3, .int v3), (4, .int v4), (5, .int v5), (6, .int v6), (7, .int v7), (8, .int v8)]) hx hb dX0_ofTerm_42 hl (by decide) rfl (fun ls hl => ?_)
      refine lv_iload hx hb dX0_ofTerm_44 (lv_at hl 5 rfl) ?_
      refine lv_iload hx hb dX0_ofTerm_46 (lv_at hl 0 rfl) ?_
      refine lv_iadd hx hb dX0_ofTerm_48 ?_
      refine y_let h (fun x15 h => ?_)
      refine lv_istore (lv' := [(5, .int x15), (9, .int x11), (0, .ref (a 11)), (2, .int v2), (3, .int v3), (4, .int v4), (6, .int v6), (7, .int v7), (8, .int v8)]) hx hb dX0_ofTerm_49 hl (by decide) rfl (fun ls hl => ?_)
      refine lv_iload hx hb dX0_ofTerm_51 (lv_at hl 6 rfl) ?_
      refine lv_iload hx hb dX0_ofTerm_53 (lv_at hl 1 rfl) ?_
      refine k_max lm_X0_87 C hl.1 (Nat.le_of_ble_eq_true rfl) (Nat.le_of_ble_eq_true rfl) (Nat.le_of_ble_eq_true rfl) (Nat.le_of_ble_eq_true rfl) dX0_ofTerm_55 ?_
      refine y_let h (fun x16 h => ?_)
      refine lv_istore (lv' := [(6, .int x16), (5, .int x15), (9, .int x11), (0, .ref (a 11)), (2, .int v2), (3, .int v3), (4, .int v4), (7, .int v7), (8, .int v8)]) hx hb dX0_ofTerm_58 hl (by decide) rfl (fun ls hl => ?_)
      refine lv_iload hx hb dX0_ofTerm_60 (lv_at hl 7 rfl) ?_
      refine lv_aload_n hx hb dX0_ofTerm_62 rfl (lv_at hl 3 rfl) ?_
      refine x_getr (Or.inl fl_X0_15) C hP (by decide) xs_11 rfl dX0_ofTerm_63 ?_
      refine lv_iload_n hx hb dX0_ofTerm_66 rfl (lv_at hl 5 rfl) ?_
      obtain ⟨z_, g18, L19, hf20, h⟩ := cb_some h
      refine x_callNi (rest := [.int v7]) li_X0_35 C (rX1_late_8 l G H.size b a fu g12 L13 v3 z_ (g18, L19) hf20) (kR rfl) hP hD hS 8 1 rfl (zat (by decide) xs_8) rfl hl.1 rfl (Nat.le_of_ble_eq_true rfl) dX0_ofTerm_67 (fun x17 u_ H locs e_ hP hD hS => ?_)
      have e_ : x17 = z_ := e_
      subst e_
      have hP : va_P G.1 vwCl (zw G (XS b) 105 a g18 L19) H := hP
      have hD : va_D A (zw G (XS b) 105 a g18 L19) := hD
      have J78 : ∀ (v5 : Int32) (v6 : Int32) (v8 : Int32) (t0 : Int32) (t1 : Int32) (g : Nat → Nat → Int32) (L : Nat → Nat → Int64) (H : Heap) (locs : List Loc) (ls : Array Slot), fX0_ofTerm_11_p78 fu k17 v2 v3 v4 v5 v6 v8 t0 t1 g L = some (res, s9) → va_P G.1 vwCl (zw G (XS b) 105 a g L) H → va_D A (zw G (XS b) 105 a g L) → va_S A s.heap H locs → lv_has ls 10 [(0, .ref (a 11)), (2, .int v2), (3, .int v3), (4, .int v4), (5, .int v5), (6, .int v6), (8, .int v8)] → W p l e { frames := 11, cells := 0, slots := 0, locals := 225 } s m [.ref (a 11), .int p1, .int p2, .int p3, .int p4].toArray below meth c H locs 0 0 (MQ below ((kQi G (S := Unit) (fun r' _ => r' = res) (fun _ => zw G (XS b) 105 a s9.1 s9.2)) A) [.ref (a 11), .int p1, .int p2, .int p3, .int p4].toArray s 0 0 A) (F0 m 78 ls [.int t0, .int t1]) := by
        intro v5 v6 v8 t0 t1 g L H locs ls h hP hD hS hl
        unfold fX0_ofTerm_11_p78 at h
        refine lv_iadd hx hb dX0_ofTerm_78 ?_
        refine y_let h (fun x21 h => ?_)
        refine lv_istore (lv' := [(7, .int x21), (0, .ref (a 11)), (2, .int v2), (3, .int v3), (4, .int v4), (5, .int v5), (6, .int v6), (8, .int v8)]) hx hb dX0_ofTerm_79 hl (by decide) rfl (fun ls hl => ?_)
        refine lv_iinc (v := (v8 + 1)) (lv' := [(8, .int (v8 + 1)), (7, .int x21), (0, .ref (a 11)), (2, .int v2), (3, .int v3), (4, .int v4), (5, .int v5), (6, .int v6)]) hx hb dX0_ofTerm_81 hl (k := 7) rfl rfl (by decide) rfl (fun ls hl => ?_)
        refine lv_goto (tgt := 17) hx hb dX0_ofTerm_84 (by decide) ?_
        exact ih17 (v5, v6, x21, (v8 + 1), g, L) h H locs ls hP hD hS (lv_sub hl [2, 3, 4, 5, 6, 7, 1, 0] rfl)
      refine lv_if_le (x := x17) (tgt := 77) hx hb dX0_ofTerm_70 (by decide) (fun c22 => ?_) (fun c22 => ?_)
      ·
        have h := ite_t c22 h
        refine lv_iconst (v := 0) hx hb dX0_ofTerm_77 (by decide) ?_
        exact J78 x15 x16 v8 0 v7 g18 L19 H locs ls h hP hD hS (lv_sub hl [3, 4, 5, 6, 1, 0, 8] rfl)
      ·
        have h := ite_e c22 h
        refine lv_iconst (v := 1) hx hb dX0_ofTerm_73 (by decide) ?_
        refine lv_goto (tgt := 78) hx hb dX0_ofTerm_74 (by decide) ?_
        exact J78 x15 x16 v8 1 v7 g18 L19 H locs ls h hP hD hS (lv_sub hl [3, 4, 5, 6, 1, 0, 8] rfl)
  exact lp17 p2 p3 p4 fu (0, 0, 0, 0, g1, L) h H locs ls hP hD hS (lv_sub hl [4, 6, 7, 8, 3, 2, 1, 0] rfl)
def fX9_addWay_12_p106 (fu : Nat) (g : Nat → Nat → Int32) (L : Nat → Nat → Int64) : Option ((Unit) × zS) :=
  some ((), (g, L))
def fX9_addWay_12 (fu : Nat) (p1 : Int32) (p2 : Int32) (g : Nat → Nat → Int32) (L : Nat → Nat → Int64) : Option ((Unit) × zS) :=
  if 72 ≤ (g 12 5) then fX9_addWay_12_p106 fu g L
  else ck p1 12 (
  ck (g 12 5) 72 (sti g 53 (Int32.toNatClampNeg (g 12 5)) (g 44 (Int32.toNatClampNeg p1)) (fun g2 =>
  ck p1 12 (
  cb (fX1_way_8 fu p1 p2 g2 L) (fun x3 g4 L5 =>
  ck (g2 12 5) 72 (sti g4 54 (Int32.toNatClampNeg (g2 12 5)) ((g2 44 (Int32.toNatClampNeg p1)) + x3) (fun g7 =>
  ck p1 12 (ltn (57 + (Int32.toNatClampNeg p1) % 12) (fun q8 =>
  ck (g7 12 5) 72 (sti g7 55 (Int32.toNatClampNeg (g7 12 5)) (g7 q8 8) (fun g9 =>
  cb (fX1_isUpstairs_8 fu p2 g9 L5) (fun x10 g11 L12 =>
  ck (g9 12 5) 72 (sti g11 56 (Int32.toNatClampNeg (g9 12 5)) (vp_nar .boolean x10) (fun g14 =>
  sti g14 12 5 ((g14 12 5) + 1) (fun g15 =>
  fX9_addWay_12_p106 fu g15 L12)))))))))))))))
set_option maxHeartbeats 4000000 in
set_option maxRecDepth 100000 in
theorem rX9_addWay_12 (l : Launch) (G : kG) (sz : Nat) (b : Nat) (a : Nat → Nat) (fu : Nat) (g : Nat → Nat → Int32) (L : Nat → Nat → Int64) (p1 : Int32) (p2 : Int32) (res : Unit) (s9 : zS) (h : fX9_addWay_12 fu p1 p2 g L = some (res, s9)) : kM l yX9_addWay cX9_addWay 3 none { frames := 8, cells := 0, slots := 0, locals := 154 } G [.ref (a 12), .int p1, .int p2] (zw G (XS b) 105 a g L) sz (kQv G (S := Unit) (fun _ => True) (fun _ => zw G (XS b) 105 a s9.1 s9.2)) := by
  refine kM.of (by decide) (Nat.le_of_ble_eq_true rfl) ?_
  intro p e s m below meth c A ls H C hr hlk hnm hP hD hS hl
  have C : kC G p s m c cX9_addWay 3 RX9 A := C
  have hx := C.1
  have hb := C.2.1
  have hl : lv_has ls 3 [(0, .ref (a 12)), (1, .int p1), (2, .int p2)] := hl
  obtain ⟨locs, hlocs⟩ : ∃ q : List Loc, q = [] := ⟨_, rfl⟩
  rw [← hlocs] at hS
  rw [← hlocs]
  unfold fX9_addWay_12 at h
  refine lv_aload_n hx hb dX9_addWay_0 rfl (lv_at hl 0 rfl) ?_
  refine x_getv (v := .int (g 12 5)) (Or.inl fl_X9_35) C hP (by decide) xs_12 rfl dX9_addWay_1 ?_
  refine lv_bipush (v := 72) hx hb dX9_addWay_4 (by decide) ?_
  have J106 : ∀ (g : Nat → Nat → Int32) (L : Nat → Nat → Int64) (H : Heap) (locs : List Loc) (ls : Array Slot), fX9_addWay_12_p106 fu g L = some (res, s9) → va_P G.1 vwCl (zw G (XS b) 105 a g L) H → va_D A (zw G (XS b) 105 a g L) → va_S A s.heap H locs → lv_has ls 3 [] → W p l e { frames := 8, cells := 0, slots := 0, locals := 154 } s m [.ref (a 12), .int p1, .int p2].toArray below meth c H locs 0 0 (MQ below ((kQv G (S := Unit) (fun _ => True) (fun _ => zw G (XS b) 105 a s9.1 s9.2)) A) [.ref (a 12), .int p1, .int p2].toArray s 0 0 A) (F0 m 106 ls []) := by
    intro g L H locs ls h hP hD hS hl
    unfold fX9_addWay_12_p106 at h
    exact y_vret C hr hlk hP hD hS h (Nat.le_of_ble_eq_true rfl) (Nat.le_of_ble_eq_true rfl) dX9_addWay_106
  refine lv_icmp_ge (x := (g 12 5)) (y := 72) (tgt := 106) hx hb dX9_addWay_6 (by decide) (fun c1 => ?_) (fun c1 => ?_)
  ·
    have h := ite_t c1 h
    exact J106 g L H locs ls h hP hD hS (lv_sub hl [] rfl)
  ·
    have h := ite_e c1 h
    refine lv_aload_n hx hb dX9_addWay_9 rfl (lv_at hl 0 rfl) ?_
    refine x_getr (Or.inl fl_X9_9) C hP (by decide) xs_12 rfl dX9_addWay_10 ?_
    refine lv_aload_n hx hb dX9_addWay_13 rfl (lv_at hl 0 rfl) ?_
    refine x_getv (v := .int (g 12 5)) (Or.inl fl_X9_35) C hP (by decide) xs_12 rfl dX9_addWay_14 ?_
    refine lv_aload_n hx hb dX9_addWay_17 rfl (lv_at hl 0 rfl) ?_
    refine x_getr (Or.inl fl_X9_25) C hP (by decide) xs_12 rfl dX9_addWay_18 ?_
    refine x_getr (Or.inr fl_X9_68) C hP (by decide) xs_8 rfl dX9_addWay_21 ?_
    refine lv_iload_n hx hb dX9_addWay_24 rfl (lv_at hl 1 rfl) ?_
    refine y_ald C hP (by decide) xs_44 dX9_addWay_25 h (fun h => ?_)
    refine y_ast C hP hD hS (by decide) xs_53 dX9_addWay_26 h (fun g2 H locs h hP hD hS => ?_)
    refine lv_aload_n hx hb dX9_addWay_27 rfl (lv_at hl 0 rfl) ?_
    refine x_getr (Or.inl fl_X9_15) C hP (by decide) xs_12 rfl dX9_addWay_28 ?_
    refine lv_aload_n hx hb dX9_addWay_31 rfl (lv_at hl 0 rfl) ?_
    refine x_getv (v := .int (g2 12 5)) (Or.inl fl_X9_35) C hP (by decide) xs_12 rfl dX9_addWay_32 ?_
    refine lv_aload_n hx hb dX9_addWay_35 rfl (lv_at hl 0 rfl) ?_
    refine x_getr (Or.inl fl_X9_25) C hP (by decide) xs_12 rfl dX9_addWay_36 ?_
    refine x_getr (Or.inr fl_X9_68) C hP (by decide) xs_8 rfl dX9_addWay_39 ?_
    refine lv_iload_n hx hb dX9_addWay_42 rfl (lv_at hl 1 rfl) ?_
    refine y_ald C hP (by decide) xs_44 dX9_addWay_43 h (fun h => ?_)
    refine lv_aload_n hx hb dX9_addWay_44 rfl (lv_at hl 0 rfl) ?_
    refine x_getr (Or.inl fl_X9_25) C hP (by decide) xs_12 rfl dX9_addWay_45 ?_
    refine lv_iload_n hx hb dX9_addWay_48 rfl (lv_at hl 1 rfl) ?_
    refine lv_iload_n hx hb dX9_addWay_49 rfl (lv_at hl 2 rfl) ?_
    obtain ⟨z_, g4, L5, hf6, h⟩ := cb_some h
    refine x_callNi (rest := [.int (g2 44 (Int32.toNatClampNeg p1)), .int (g2 12 5), .ref (a 54)]) li_X9_69 C (rX1_way_8 l G H.size b a fu g2 L p1 p2 z_ (g4, L5) hf6) (kR rfl) hP hD hS 8 1 rfl (zat (by decide) xs_8) rfl hl.1 rfl (Nat.le_of_ble_eq_true rfl) dX9_addWay_50 (fun x3 u_ H locs e_ hP hD hS => ?_)
    have e_ : x3 = z_ := e_
    subst e_
    have hP : va_P G.1 vwCl (zw G (XS b) 105 a g4 L5) H := hP
    have hD : va_D A (zw G (XS b) 105 a g4 L5) := hD
    refine lv_iadd hx hb dX9_addWay_53 ?_
    refine y_ast C hP hD hS (by decide) xs_54 dX9_addWay_54 h (fun g7 H locs h hP hD hS => ?_)
    refine lv_aload_n hx hb dX9_addWay_55 rfl (lv_at hl 0 rfl) ?_
    refine x_getr (Or.inl fl_X9_18) C hP (by decide) xs_12 rfl dX9_addWay_56 ?_
    refine lv_aload_n hx hb dX9_addWay_59 rfl (lv_at hl 0 rfl) ?_
    refine x_getv (v := .int (g7 12 5)) (Or.inl fl_X9_35) C hP (by decide) xs_12 rfl dX9_addWay_60 ?_
    refine lv_aload_n hx hb dX9_addWay_63 rfl (lv_at hl 0 rfl) ?_
    refine x_getr (Or.inl fl_X9_25) C hP (by decide) xs_12 rfl dX9_addWay_64 ?_
    refine x_getr (Or.inr fl_X9_39) C hP (by decide) xs_8 rfl dX9_addWay_67 ?_
    refine x_getr (Or.inr fl_X9_48) C hP (by decide) xs_1 rfl dX9_addWay_70 ?_
    refine lv_iload_n hx hb dX9_addWay_73 rfl (lv_at hl 1 rfl) ?_
    refine y_aald (t := 57) C hP (by decide) xs_17 dX9_addWay_74 h (fun q8 q8l q8h h => ?_)
    refine x_getv (v := .int (g7 q8 8)) (Or.inr fl_X9_73) C hP (by omega) (xs_les (by omega) (by omega)) rfl dX9_addWay_75 ?_
    refine y_ast C hP hD hS (by decide) xs_55 dX9_addWay_78 h (fun g9 H locs h hP hD hS => ?_)
    refine lv_aload_n hx hb dX9_addWay_79 rfl (lv_at hl 0 rfl) ?_
    refine x_getr (Or.inl fl_X9_21) C hP (by decide) xs_12 rfl dX9_addWay_80 ?_
    refine lv_aload_n hx hb dX9_addWay_83 rfl (lv_at hl 0 rfl) ?_
    refine x_getv (v := .int (g9 12 5)) (Or.inl fl_X9_35) C hP (by decide) xs_12 rfl dX9_addWay_84 ?_
    refine lv_aload_n hx hb dX9_addWay_87 rfl (lv_at hl 0 rfl) ?_
    refine x_getr (Or.inl fl_X9_25) C hP (by decide) xs_12 rfl dX9_addWay_88 ?_
    refine lv_iload_n hx hb dX9_addWay_91 rfl (lv_at hl 2 rfl) ?_
    obtain ⟨z_, g11, L12, hf13, h⟩ := cb_some h
    refine x_callNi (rest := [.int (g9 12 5), .ref (a 56)]) li_X9_60 C (rX1_isUpstairs_8 l G H.size b a fu g9 L5 p2 z_ (g11, L12) hf13) (kR rfl) hP hD hS 8 1 rfl (zat (by decide) xs_8) rfl hl.1 rfl (Nat.le_of_ble_eq_true rfl) dX9_addWay_92 (fun x10 u_ H locs e_ hP hD hS => ?_)
    have e_ : x10 = z_ := e_
    subst e_
    have hP : va_P G.1 vwCl (zw G (XS b) 105 a g11 L12) H := hP
    have hD : va_D A (zw G (XS b) 105 a g11 L12) := hD
    refine y_zast C hP hD hS (by decide) xs_56 dX9_addWay_95 h (fun g14 H locs h hP hD hS => ?_)
    refine lv_aload_n hx hb dX9_addWay_96 rfl (lv_at hl 0 rfl) ?_
    refine lv_dup hx hb dX9_addWay_97 rfl ?_
    refine x_getv (v := .int (g14 12 5)) (Or.inl fl_X9_35) C hP (by decide) xs_12 rfl dX9_addWay_98 ?_
    refine lv_iconst (v := 1) hx hb dX9_addWay_101 (by decide) ?_
    refine lv_iadd hx hb dX9_addWay_102 ?_
    refine y_puti (Or.inl fl_X9_35) ft_X9_5 C hP hD hS (by decide) xs_12 rfl rfl rfl dX9_addWay_103 h (fun g15 H locs h hP hD hS => ?_)
    exact J106 g15 L12 H locs ls h hP hD hS (lv_sub hl [] rfl)
def fX9_gather_12_p87 (fu : Nat) (k15 : Int32 × (Nat → Nat → Int32) × (Nat → Nat → Int64) → Option ((Unit) × zS)) (k44 : Int32 × (Nat → Nat → Int32) × (Nat → Nat → Int64) → Option ((Unit) × zS)) (v1 : Int32) (q2_ : Nat) (v3 : Int32) (g : Nat → Nat → Int32) (L : Nat → Nat → Int64) : Option ((Unit) × zS) :=
  k44 ((v3 + 1), g, L)
def fX9_gather_12_s44 (fu : Nat) (k15 : Int32 × (Nat → Nat → Int32) × (Nat → Nat → Int64) → Option ((Unit) × zS)) (v1 : Int32) (q2_ : Nat) (k44 : Int32 × (Nat → Nat → Int32) × (Nat → Nat → Int64) → Option ((Unit) × zS)) (v3 : Int32) (g : Nat → Nat → Int32) (L : Nat → Nat → Int64) : Option ((Unit) × zS) :=
  if (g q2_ 1) ≤ v3 then k15 ((v1 + 1), g, L)
  else ck v3 6 (
  lti (g (q2_ + 24) (Int32.toNatClampNeg v3)) (fun x9 =>
  cb (fX1_isUpstairs_8 fu x9 g L) (fun x10 g11 L12 =>
  cb (fX1_isUpstairs_8 fu v1 g11 L12) (fun x14 g15 L16 =>
  if (x10 : Int32) = x14 then fX9_gather_12_p87 fu k15 k44 v1 q2_ v3 g15 L16
  else cb (fX9_addWay_12 fu x9 v1 g15 L16) (fun x19 g20 L21 =>
  fX9_gather_12_p87 fu k15 k44 v1 q2_ v3 g20 L21)))))
def fX9_gather_12_l44 (fu : Nat) (k15 : Int32 × (Nat → Nat → Int32) × (Nat → Nat → Int64) → Option ((Unit) × zS)) (v1 : Int32) (q2_ : Nat) (v3 : Int32) (g : Nat → Nat → Int32) (L : Nat → Nat → Int64) : Option ((Unit) × zS) :=
  whileK (fun k v => fX9_gather_12_s44 fu k15 v1 q2_ k v.1 v.2.1 v.2.2) fu (v3, g, L)
def fX9_gather_12_s15 (fu : Nat) (k15 : Int32 × (Nat → Nat → Int32) × (Nat → Nat → Int64) → Option ((Unit) × zS)) (v1 : Int32) (g : Nat → Nat → Int32) (L : Nat → Nat → Int64) : Option ((Unit) × zS) :=
  if (g 1 2) ≤ v1 then some ((), (g, L))
  else ck v1 12 (ltn (57 + (Int32.toNatClampNeg v1) % 12) (fun q7 =>
  fX9_gather_12_l44 fu k15 v1 q7 0 g L))
def fX9_gather_12_l15 (fu : Nat) (v1 : Int32) (g : Nat → Nat → Int32) (L : Nat → Nat → Int64) : Option ((Unit) × zS) :=
  whileK (fun k v => fX9_gather_12_s15 fu k v.1 v.2.1 v.2.2) fu (v1, g, L)
def fX9_gather_12 (fu : Nat) (g : Nat → Nat → Int32) (L : Nat → Nat → Int64) : Option ((Unit) × zS) :=
  cb (fX1_runFrom_8 fu 0 g L) (fun x1 g2 L3 =>
  sti g2 12 5 0 (fun g5 =>
  fX9_gather_12_l15 fu 0 g5 L3))
set_option maxHeartbeats 4000000 in
set_option maxRecDepth 100000 in
theorem rX9_gather_12 (l : Launch) (G : kG) (sz : Nat) (b : Nat) (a : Nat → Nat) (fu : Nat) (g : Nat → Nat → Int32) (L : Nat → Nat → Int64) (res : Unit) (s9 : zS) (h : fX9_gather_12 fu g L = some (res, s9)) : kM l yX9_gather cX9_gather 5 none { frames := 11, cells := 0, slots := 0, locals := 225 } G [.ref (a 12)] (zw G (XS b) 105 a g L) sz (kQv G (S := Unit) (fun _ => True) (fun _ => zw G (XS b) 105 a s9.1 s9.2)) := by
  refine kM.of (by decide) (Nat.le_of_ble_eq_true rfl) ?_
  intro p e s m below meth c A ls H C hr hlk hnm hP hD hS hl
  have C : kC G p s m c cX9_gather 5 RX9 A := C
  have hx := C.1
  have hb := C.2.1
  have hl : lv_has ls 5 [(0, .ref (a 12))] := hl
  obtain ⟨locs, hlocs⟩ : ∃ q : List Loc, q = [] := ⟨_, rfl⟩
  rw [← hlocs] at hS
  rw [← hlocs]
  unfold fX9_gather_12 at h
  refine lv_aload_n hx hb dX9_gather_0 rfl (lv_at hl 0 rfl) ?_
  refine x_getr (Or.inl fl_X9_25) C hP (by decide) xs_12 rfl dX9_gather_1 ?_
  refine lv_iconst (v := 0) hx hb dX9_gather_4 (by decide) ?_
  obtain ⟨z_, g2, L3, hf4, h⟩ := cb_some h
  refine x_callNv (rest := []) li_X9_29 C (rX1_runFrom_8 l G H.size b a fu g L 0 z_ (g2, L3) hf4) (kR rfl) hP hD hS 8 1 rfl (zat (by decide) xs_8) rfl hl.1 rfl (Nat.le_of_ble_eq_true rfl) dX9_gather_5 (fun u_ H locs e_ hP hD hS => ?_)
  have hP : va_P G.1 vwCl (zw G (XS b) 105 a g2 L3) H := hP
  have hD : va_D A (zw G (XS b) 105 a g2 L3) := hD
  refine lv_aload_n hx hb dX9_gather_8 rfl (lv_at hl 0 rfl) ?_
  refine lv_iconst (v := 0) hx hb dX9_gather_9 (by decide) ?_
  refine y_puti (Or.inl fl_X9_35) ft_X9_5 C hP hD hS (by decide) xs_12 rfl rfl rfl dX9_gather_10 h (fun g5 H locs h hP hD hS => ?_)
  refine lv_iconst (v := 0) hx hb dX9_gather_13 (by decide) ?_
  refine lv_istore_n (lv' := [(1, .int 0), (0, .ref (a 12))]) hx hb dX9_gather_14 rfl hl (by decide) rfl (fun ls hl => ?_)
  have lp15 : ∀ (_ : True), ∀ (n : Nat) (v : Int32 × (Nat → Nat → Int32) × (Nat → Nat → Int64)), whileK (fun k v => fX9_gather_12_s15 fu k v.1 v.2.1 v.2.2) n v = some (res, s9) → ∀ (H : Heap) (locs : List Loc) (ls : Array Slot), va_P G.1 vwCl (zw G (XS b) 105 a (v.2.1) (v.2.2)) H → va_D A (zw G (XS b) 105 a (v.2.1) (v.2.2)) → va_S A s.heap H locs → lv_has ls 5 [(0, .ref (a 12)), (1, .int (v.1))] → W p l e { frames := 11, cells := 0, slots := 0, locals := 225 } s m [.ref (a 12)].toArray below meth c H locs 0 0 (MQ below ((kQv G (S := Unit) (fun _ => True) (fun _ => zw G (XS b) 105 a s9.1 s9.2)) A) [.ref (a 12)].toArray s 0 0 A) (F0 m 15 ls []) := by
    intro _
    refine while_ind (fun k15 ih15 v h => ?_)
    obtain ⟨v1, g, L⟩ := v
    intro H locs ls hP hD hS hl
    have h : fX9_gather_12_s15 fu k15 v1 g L = some (res, s9) := h
    have hP : va_P G.1 vwCl (zw G (XS b) 105 a g L) H := hP
    have hD : va_D A (zw G (XS b) 105 a g L) := hD
    have hl : lv_has ls 5 [(0, .ref (a 12)), (1, .int v1)] := hl
    show W p l e { frames := 11, cells := 0, slots := 0, locals := 225 } s m [.ref (a 12)].toArray below meth c H locs 0 0 (MQ below ((kQv G (S := Unit) (fun _ => True) (fun _ => zw G (XS b) 105 a s9.1 s9.2)) A) [.ref (a 12)].toArray s 0 0 A) (F0 m 15 ls [])
    unfold fX9_gather_12_s15 at h
    refine lv_iload_n hx hb dX9_gather_15 rfl (lv_at hl 1 rfl) ?_
    refine lv_aload_n hx hb dX9_gather_16 rfl (lv_at hl 0 rfl) ?_
    refine x_getr (Or.inl fl_X9_25) C hP (by decide) xs_12 rfl dX9_gather_17 ?_
    refine x_getr (Or.inr fl_X9_39) C hP (by decide) xs_8 rfl dX9_gather_20 ?_
    refine x_getv (v := .int (g 1 2)) (Or.inr fl_X9_43) C hP (by decide) xs_1 rfl dX9_gather_23 ?_
    refine lv_icmp_ge (x := v1) (y := (g 1 2)) (tgt := 99) hx hb dX9_gather_26 (by decide) (fun c6 => ?_) (fun c6 => ?_)
    ·
      have h := ite_t c6 h
      exact y_vret C hr hlk hP hD hS h (Nat.le_of_ble_eq_true rfl) (Nat.le_of_ble_eq_true rfl) dX9_gather_99
    ·
      have h := ite_e c6 h
      refine lv_aload_n hx hb dX9_gather_29 rfl (lv_at hl 0 rfl) ?_
      refine x_getr (Or.inl fl_X9_25) C hP (by decide) xs_12 rfl dX9_gather_30 ?_
      refine x_getr (Or.inr fl_X9_39) C hP (by decide) xs_8 rfl dX9_gather_33 ?_
      refine x_getr (Or.inr fl_X9_48) C hP (by decide) xs_1 rfl dX9_gather_36 ?_
      refine lv_iload_n hx hb dX9_gather_39 rfl (lv_at hl 1 rfl) ?_
      refine y_aald (t := 57) C hP (by decide) xs_17 dX9_gather_40 h (fun q7 q7l q7h h => ?_)
      refine lv_astore_n (lv' := [(2, .ref (a q7)), (0, .ref (a 12)), (1, .int v1)]) hx hb dX9_gather_41 rfl hl (by decide) rfl (fun ls hl => ?_)
      refine lv_iconst (v := 0) hx hb dX9_gather_42 (by decide) ?_
      refine lv_istore_n (lv' := [(3, .int 0), (2, .ref (a q7)), (0, .ref (a 12)), (1, .int v1)]) hx hb dX9_gather_43 rfl hl (by decide) rfl (fun ls hl => ?_)
      have lp44 : ∀ (v1 : Int32) (q2_ : Nat), 57 ≤ q2_ → q2_ < 81 → ∀ (n : Nat) (v : Int32 × (Nat → Nat → Int32) × (Nat → Nat → Int64)), whileK (fun k v => fX9_gather_12_s44 fu k15 v1 q2_ k v.1 v.2.1 v.2.2) n v = some (res, s9) → ∀ (H : Heap) (locs : List Loc) (ls : Array Slot), va_P G.1 vwCl (zw G (XS b) 105 a (v.2.1) (v.2.2)) H → va_D A (zw G (XS b) 105 a (v.2.1) (v.2.2)) → va_S A s.heap H locs → lv_has ls 5 [(0, .ref (a 12)), (1, .int v1), (2, .ref (a q2_)), (3, .int (v.1))] → W p l e { frames := 11, cells := 0, slots := 0, locals := 225 } s m [.ref (a 12)].toArray below meth c H locs 0 0 (MQ below ((kQv G (S := Unit) (fun _ => True) (fun _ => zw G (XS b) 105 a s9.1 s9.2)) A) [.ref (a 12)].toArray s 0 0 A) (F0 m 44 ls []) := by
        intro v1 q2_ q2_l q2_h
        refine while_ind (fun k44 ih44 v h => ?_)
        obtain ⟨v3, g, L⟩ := v
        intro H locs ls hP hD hS hl
        have h : fX9_gather_12_s44 fu k15 v1 q2_ k44 v3 g L = some (res, s9) := h
        have hP : va_P G.1 vwCl (zw G (XS b) 105 a g L) H := hP
        have hD : va_D A (zw G (XS b) 105 a g L) := hD
        have hl : lv_has ls 5 [(0, .ref (a 12)), (1, .int v1), (2, .ref (a q2_)), (3, .int v3)] := hl
        show W p l e { frames := 11, cells := 0, slots := 0, locals := 225 } s m [.ref (a 12)].toArray below meth c H locs 0 0 (MQ below ((kQv G (S := Unit) (fun _ => True) (fun _ => zw G (XS b) 105 a s9.1 s9.2)) A) [.ref (a 12)].toArray s 0 0 A) (F0 m 44 ls [])
        unfold fX9_gather_12_s44 at h
        refine lv_iload_n hx hb dX9_gather_44 rfl (lv_at hl 3 rfl) ?_
        refine lv_aload_n hx hb dX9_gather_45 rfl (lv_at hl 2 rfl) ?_
        refine x_getv (v := .int (g q2_ 1)) (Or.inr fl_X9_52) C hP (by omega) (xs_les (by omega) (by omega)) rfl dX9_gather_46 ?_
        refine lv_icmp_ge (x := v3) (y := (g q2_ 1)) (tgt := 93) hx hb dX9_gather_49 (by decide) (fun c8 => ?_) (fun c8 => ?_)
        ·
          have h := ite_t c8 h
          refine lv_iinc (v := (v1 + 1)) (lv' := [(1, .int (v1 + 1)), (0, .ref (a 12)), (2, .ref (a q2_)), (3, .int v3)]) hx hb dX9_gather_93 hl (k := 1) rfl rfl (by decide) rfl (fun ls hl => ?_)
          refine lv_goto (tgt := 15) hx hb dX9_gather_96 (by decide) ?_
          exact ih15 ((v1 + 1), g, L) h H locs ls hP hD hS (lv_sub hl [1, 0] rfl)
        ·
          have h := ite_e c8 h
          refine lv_aload_n hx hb dX9_gather_52 rfl (lv_at hl 2 rfl) ?_
          refine x_getr (Or.inr fl_X9_57) C hP (by omega) (xs_les (by omega) (by omega)) rfl dX9_gather_53 ?_
          refine lv_iload_n hx hb dX9_gather_56 rfl (lv_at hl 3 rfl) ?_
          refine y_ald C hP (by omega) (xs_wai (by omega)) dX9_gather_57 h (fun h => ?_)
          refine y_let h (fun x9 h => ?_)
          refine lv_istore (lv' := [(4, .int x9), (0, .ref (a 12)), (1, .int v1), (2, .ref (a q2_)), (3, .int v3)]) hx hb dX9_gather_58 hl (by decide) rfl (fun ls hl => ?_)
          refine lv_aload_n hx hb dX9_gather_60 rfl (lv_at hl 1 rfl) ?_
          refine x_getr (Or.inl fl_X9_25) C hP (by decide) xs_12 rfl dX9_gather_61 ?_
          refine lv_iload hx hb dX9_gather_64 (lv_at hl 0 rfl) ?_
          obtain ⟨z_, g11, L12, hf13, h⟩ := cb_some h
          refine x_callNi (rest := []) li_X9_60 C (rX1_isUpstairs_8 l G H.size b a fu g L x9 z_ (g11, L12) hf13) (kR rfl) hP hD hS 8 1 rfl (zat (by decide) xs_8) rfl hl.1 rfl (Nat.le_of_ble_eq_true rfl) dX9_gather_66 (fun x10 u_ H locs e_ hP hD hS => ?_)
          have e_ : x10 = z_ := e_
          subst e_
          have hP : va_P G.1 vwCl (zw G (XS b) 105 a g11 L12) H := hP
          have hD : va_D A (zw G (XS b) 105 a g11 L12) := hD
          refine lv_aload_n hx hb dX9_gather_69 rfl (lv_at hl 1 rfl) ?_
          refine x_getr (Or.inl fl_X9_25) C hP (by decide) xs_12 rfl dX9_gather_70 ?_
          refine lv_iload_n hx hb dX9_gather_73 rfl (lv_at hl 2 rfl) ?_
          obtain ⟨z_, g15, L16, hf17, h⟩ := cb_some h
          refine x_callNi (rest := [.int x10]) li_X9_60 C (rX1_isUpstairs_8 l G H.size b a fu g11 L12 v1 z_ (g15, L16) hf17) (kR rfl) hP hD hS 8 1 rfl (zat (by decide) xs_8) rfl hl.1 rfl (Nat.le_of_ble_eq_true rfl) dX9_gather_74 (fun x14 u_ H locs e_ hP hD hS => ?_)
          have e_ : x14 = z_ := e_
          subst e_
          have hP : va_P G.1 vwCl (zw G (XS b) 105 a g15 L16) H := hP
          have hD : va_D A (zw G (XS b) 105 a g15 L16) := hD
          have J87 : ∀ (v3 : Int32) (g : Nat → Nat → Int32) (L : Nat → Nat → Int64) (H : Heap) (locs : List Loc) (ls : Array Slot), fX9_gather_12_p87 fu k15 k44 v1 q2_ v3 g L = some (res, s9) → va_P G.1 vwCl (zw G (XS b) 105 a g L) H → va_D A (zw G (XS b) 105 a g L) → va_S A s.heap H locs → lv_has ls 5 [(0, .ref (a 12)), (1, .int v1), (2, .ref (a q2_)), (3, .int v3)] → W p l e { frames := 11, cells := 0, slots := 0, locals := 225 } s m [.ref (a 12)].toArray below meth c H locs 0 0 (MQ below ((kQv G (S := Unit) (fun _ => True) (fun _ => zw G (XS b) 105 a s9.1 s9.2)) A) [.ref (a 12)].toArray s 0 0 A) (F0 m 87 ls []) := by
            intro v3 g L H locs ls h hP hD hS hl
            unfold fX9_gather_12_p87 at h
            refine lv_iinc (v := (v3 + 1)) (lv' := [(3, .int (v3 + 1)), (0, .ref (a 12)), (1, .int v1), (2, .ref (a q2_))]) hx hb dX9_gather_87 hl (k := 3) rfl rfl (by decide) rfl (fun ls hl => ?_)
            refine lv_goto (tgt := 44) hx hb dX9_gather_90 (by decide) ?_
            exact ih44 ((v3 + 1), g, L) h H locs ls hP hD hS (lv_sub hl [1, 2, 3, 0] rfl)
          refine lv_icmp_eq (x := x10) (y := x14) (tgt := 87) hx hb dX9_gather_77 (by decide) (fun c18 => ?_) (fun c18 => ?_)
          ·
            have h := ite_t c18 h
            exact J87 v3 g15 L16 H locs ls h hP hD hS (lv_sub hl [1, 2, 3, 4] rfl)
          ·
            have h := ite_e c18 h
            refine lv_aload_n hx hb dX9_gather_80 rfl (lv_at hl 1 rfl) ?_
            refine lv_iload hx hb dX9_gather_81 (lv_at hl 0 rfl) ?_
            refine lv_iload_n hx hb dX9_gather_83 rfl (lv_at hl 2 rfl) ?_
            obtain ⟨z_, g20, L21, hf22, h⟩ := cb_some h
            refine x_callVv (rest := []) li_X9_64 C (rX9_addWay_12 l G H.size b a fu g15 L16 x9 v1 z_ (g20, L21) hf22) (kR rfl) hP hD hS 12 9 rfl (zat (by decide) xs_12) rfl hl.1 rfl (Nat.le_of_ble_eq_true rfl) dX9_gather_84 (fun u_ H locs e_ hP hD hS => ?_)
            have hP : va_P G.1 vwCl (zw G (XS b) 105 a g20 L21) H := hP
            have hD : va_D A (zw G (XS b) 105 a g20 L21) := hD
            exact J87 v3 g20 L21 H locs ls h hP hD hS (lv_sub hl [1, 2, 3, 4] rfl)
      exact lp44 v1 q7 (by omega) (by omega) fu (0, g, L) h H locs ls hP hD hS (lv_sub hl [2, 3, 1, 0] rfl)
  exact lp15 trivial fu (0, g5, L3) h H locs ls hP hD hS (lv_sub hl [1, 0] rfl)
def fX9_crossings_12_p90 (fu : Nat) (k4 : Int32 × Int32 × (Nat → Nat → Int32) × (Nat → Nat → Int64) → Option ((Int32) × zS)) (k16 : Int32 × Int32 × (Nat → Nat → Int32) × (Nat → Nat → Int64) → Option ((Int32) × zS)) (v2 : Int32) (v3 : Int32) (t0 : Int32) (t1 : Int32) (g : Nat → Nat → Int32) (L : Nat → Nat → Int64) : Option ((Int32) × zS) :=
  lti (t1 + t0) (fun x4 =>
  k16 (x4, (v3 + 1), g, L))
def fX9_crossings_12_p89 (fu : Nat) (k4 : Int32 × Int32 × (Nat → Nat → Int32) × (Nat → Nat → Int64) → Option ((Int32) × zS)) (k16 : Int32 × Int32 × (Nat → Nat → Int32) × (Nat → Nat → Int64) → Option ((Int32) × zS)) (v2 : Int32) (v3 : Int32) (t0 : Int32) (g : Nat → Nat → Int32) (L : Nat → Nat → Int64) : Option ((Int32) × zS) :=
  fX9_crossings_12_p90 fu k4 k16 v2 v3 0 t0 g L
def fX9_crossings_12_p62 (fu : Nat) (k4 : Int32 × Int32 × (Nat → Nat → Int32) × (Nat → Nat → Int64) → Option ((Int32) × zS)) (k16 : Int32 × Int32 × (Nat → Nat → Int32) × (Nat → Nat → Int64) → Option ((Int32) × zS)) (v1 : Int32) (v2 : Int32) (v3 : Int32) (t0 : Int32) (g : Nat → Nat → Int32) (L : Nat → Nat → Int64) : Option ((Int32) × zS) :=
  if t0 = 0 then fX9_crossings_12_p89 fu k4 k16 v2 v3 v1 g L
  else ck v2 72 (
  ck v3 72 (
  if (g 56 (Int32.toNatClampNeg v2)) = (g 56 (Int32.toNatClampNeg v3)) then fX9_crossings_12_p89 fu k4 k16 v2 v3 v1 g L
  else fX9_crossings_12_p90 fu k4 k16 v2 v3 1 v1 g L))
def fX9_crossings_12_s16 (fu : Nat) (k4 : Int32 × Int32 × (Nat → Nat → Int32) × (Nat → Nat → Int64) → Option ((Int32) × zS)) (v2 : Int32) (k16 : Int32 × Int32 × (Nat → Nat → Int32) × (Nat → Nat → Int64) → Option ((Int32) × zS)) (v1 : Int32) (v3 : Int32) (g : Nat → Nat → Int32) (L : Nat → Nat → Int64) : Option ((Int32) × zS) :=
  if (g 12 5) ≤ v3 then k4 (v1, (v2 + 1), g, L)
  else ck v2 72 (
  ck v3 72 (
  ck v2 72 (
  ck v3 72 (
  if (if (g 54 (Int32.toNatClampNeg v3)) < (g 54 (Int32.toNatClampNeg v2)) then (g 54 (Int32.toNatClampNeg v3)) else (g 54 (Int32.toNatClampNeg v2))) ≤ (if (g 53 (Int32.toNatClampNeg v2)) < (g 53 (Int32.toNatClampNeg v3)) then (g 53 (Int32.toNatClampNeg v3)) else (g 53 (Int32.toNatClampNeg v2))) then fX9_crossings_12_p62 fu k4 k16 v1 v2 v3 0 g L
  else fX9_crossings_12_p62 fu k4 k16 v1 v2 v3 1 g L))))
def fX9_crossings_12_l16 (fu : Nat) (k4 : Int32 × Int32 × (Nat → Nat → Int32) × (Nat → Nat → Int64) → Option ((Int32) × zS)) (v2 : Int32) (v1 : Int32) (v3 : Int32) (g : Nat → Nat → Int32) (L : Nat → Nat → Int64) : Option ((Int32) × zS) :=
  whileK (fun k v => fX9_crossings_12_s16 fu k4 v2 k v.1 v.2.1 v.2.2.1 v.2.2.2) fu (v1, v3, g, L)
def fX9_crossings_12_s4 (fu : Nat) (k4 : Int32 × Int32 × (Nat → Nat → Int32) × (Nat → Nat → Int64) → Option ((Int32) × zS)) (v1 : Int32) (v2 : Int32) (g : Nat → Nat → Int32) (L : Nat → Nat → Int64) : Option ((Int32) × zS) :=
  if (g 12 5) ≤ v2 then some (v1, (g, L))
  else lti (v2 + 1) (fun x2 =>
  fX9_crossings_12_l16 fu k4 v2 v1 x2 g L)
def fX9_crossings_12_l4 (fu : Nat) (v1 : Int32) (v2 : Int32) (g : Nat → Nat → Int32) (L : Nat → Nat → Int64) : Option ((Int32) × zS) :=
  whileK (fun k v => fX9_crossings_12_s4 fu k v.1 v.2.1 v.2.2.1 v.2.2.2) fu (v1, v2, g, L)
def fX9_crossings_12 (fu : Nat) (g : Nat → Nat → Int32) (L : Nat → Nat → Int64) : Option ((Int32) × zS) :=
  fX9_crossings_12_l4 fu 0 0 g L
set_option maxHeartbeats 4000000 in
set_option maxRecDepth 100000 in
theorem rX9_crossings_12 (l : Launch) (G : kG) (sz : Nat) (b : Nat) (a : Nat → Nat) (fu : Nat) (g : Nat → Nat → Int32) (L : Nat → Nat → Int64) (res : Int32) (s9 : zS) (h : fX9_crossings_12 fu g L = some (res, s9)) : kM l yX9_crossings cX9_crossings 5 (some .int) { frames := 6, cells := 0, slots := 0, locals := 110 } G [.ref (a 12)] (zw G (XS b) 105 a g L) sz (kQi G (S := Unit) (fun r' _ => r' = res) (fun _ => zw G (XS b) 105 a s9.1 s9.2)) := by
  refine kM.of (by decide) (Nat.le_of_ble_eq_true rfl) ?_
  intro p e s m below meth c A ls H C hr hlk hnm hP hD hS hl
  have C : kC G p s m c cX9_crossings 5 RX9 A := C
  have hx := C.1
  have hb := C.2.1
  have hl : lv_has ls 5 [(0, .ref (a 12))] := hl
  obtain ⟨locs, hlocs⟩ : ∃ q : List Loc, q = [] := ⟨_, rfl⟩
  rw [← hlocs] at hS
  rw [← hlocs]
  unfold fX9_crossings_12 at h
  refine lv_iconst (v := 0) hx hb dX9_crossings_0 (by decide) ?_
  refine lv_istore_n (lv' := [(1, .int 0), (0, .ref (a 12))]) hx hb dX9_crossings_1 rfl hl (by decide) rfl (fun ls hl => ?_)
  refine lv_iconst (v := 0) hx hb dX9_crossings_2 (by decide) ?_
  refine lv_istore_n (lv' := [(2, .int 0), (1, .int 0), (0, .ref (a 12))]) hx hb dX9_crossings_3 rfl hl (by decide) rfl (fun ls hl => ?_)
  have lp4 : ∀ (_ : True), ∀ (n : Nat) (v : Int32 × Int32 × (Nat → Nat → Int32) × (Nat → Nat → Int64)), whileK (fun k v => fX9_crossings_12_s4 fu k v.1 v.2.1 v.2.2.1 v.2.2.2) n v = some (res, s9) → ∀ (H : Heap) (locs : List Loc) (ls : Array Slot), va_P G.1 vwCl (zw G (XS b) 105 a (v.2.2.1) (v.2.2.2)) H → va_D A (zw G (XS b) 105 a (v.2.2.1) (v.2.2.2)) → va_S A s.heap H locs → lv_has ls 5 [(0, .ref (a 12)), (1, .int (v.1)), (2, .int (v.2.1))] → W p l e { frames := 6, cells := 0, slots := 0, locals := 110 } s m [.ref (a 12)].toArray below meth c H locs 0 0 (MQ below ((kQi G (S := Unit) (fun r' _ => r' = res) (fun _ => zw G (XS b) 105 a s9.1 s9.2)) A) [.ref (a 12)].toArray s 0 0 A) (F0 m 4 ls []) := by
    intro _
    refine while_ind (fun k4 ih4 v h => ?_)
    obtain ⟨v1, v2, g, L⟩ := v
    intro H locs ls hP hD hS hl
    have h : fX9_crossings_12_s4 fu k4 v1 v2 g L = some (res, s9) := h
    have hP : va_P G.1 vwCl (zw G (XS b) 105 a g L) H := hP
    have hD : va_D A (zw G (XS b) 105 a g L) := hD
    have hl : lv_has ls 5 [(0, .ref (a 12)), (1, .int v1), (2, .int v2)] := hl
    show W p l e { frames := 6, cells := 0, slots := 0, locals := 110 } s m [.ref (a 12)].toArray below meth c H locs 0 0 (MQ below ((kQi G (S := Unit) (fun r' _ => r' = res) (fun _ => zw G (XS b) 105 a s9.1 s9.2)) A) [.ref (a 12)].toArray s 0 0 A) (F0 m 4 ls [])
    unfold fX9_crossings_12_s4 at h
    refine lv_iload_n hx hb dX9_crossings_4 rfl (lv_at hl 2 rfl) ?_
    refine lv_aload_n hx hb dX9_crossings_5 rfl (lv_at hl 0 rfl) ?_
    refine x_getv (v := .int (g 12 5)) (Or.inl fl_X9_35) C hP (by decide) xs_12 rfl dX9_crossings_6 ?_
    refine lv_icmp_ge (x := v2) (y := (g 12 5)) (tgt := 104) hx hb dX9_crossings_9 (by decide) (fun c1 => ?_) (fun c1 => ?_)
    ·
      have h := ite_t c1 h
      refine lv_iload_n hx hb dX9_crossings_104 rfl (lv_at hl 1 rfl) ?_
      exact y_iret C hr hlk hP hD hS h (Nat.le_of_ble_eq_true rfl) (Nat.le_of_ble_eq_true rfl) dX9_crossings_105
    ·
      have h := ite_e c1 h
      refine lv_iload_n hx hb dX9_crossings_12 rfl (lv_at hl 2 rfl) ?_
      refine lv_iconst (v := 1) hx hb dX9_crossings_13 (by decide) ?_
      refine lv_iadd hx hb dX9_crossings_14 ?_
      refine y_let h (fun x2 h => ?_)
      refine lv_istore_n (lv' := [(3, .int x2), (0, .ref (a 12)), (1, .int v1), (2, .int v2)]) hx hb dX9_crossings_15 rfl hl (by decide) rfl (fun ls hl => ?_)
      have lp16 : ∀ (v2 : Int32), ∀ (n : Nat) (v : Int32 × Int32 × (Nat → Nat → Int32) × (Nat → Nat → Int64)), whileK (fun k v => fX9_crossings_12_s16 fu k4 v2 k v.1 v.2.1 v.2.2.1 v.2.2.2) n v = some (res, s9) → ∀ (H : Heap) (locs : List Loc) (ls : Array Slot), va_P G.1 vwCl (zw G (XS b) 105 a (v.2.2.1) (v.2.2.2)) H → va_D A (zw G (XS b) 105 a (v.2.2.1) (v.2.2.2)) → va_S A s.heap H locs → lv_has ls 5 [(0, .ref (a 12)), (1, .int (v.1)), (2, .int v2), (3, .int (v.2.1))] → W p l e { frames := 6, cells := 0, slots := 0, locals := 110 } s m [.ref (a 12)].toArray below meth c H locs 0 0 (MQ below ((kQi G (S := Unit) (fun r' _ => r' = res) (fun _ => zw G (XS b) 105 a s9.1 s9.2)) A) [.ref (a 12)].toArray s 0 0 A) (F0 m 16 ls []) := by
        intro v2
        refine while_ind (fun k16 ih16 v h => ?_)
        obtain ⟨v1, v3, g, L⟩ := v
        intro H locs ls hP hD hS hl
        have h : fX9_crossings_12_s16 fu k4 v2 k16 v1 v3 g L = some (res, s9) := h
        have hP : va_P G.1 vwCl (zw G (XS b) 105 a g L) H := hP
        have hD : va_D A (zw G (XS b) 105 a g L) := hD
        have hl : lv_has ls 5 [(0, .ref (a 12)), (1, .int v1), (2, .int v2), (3, .int v3)] := hl
        show W p l e { frames := 6, cells := 0, slots := 0, locals := 110 } s m [.ref (a 12)].toArray below meth c H locs 0 0 (MQ below ((kQi G (S := Unit) (fun r' _ => r' = res) (fun _ => zw G (XS b) 105 a s9.1 s9.2)) A) [.ref (a 12)].toArray s 0 0 A) (F0 m 16 ls [])
        unfold fX9_crossings_12_s16 at h
        refine lv_iload_n hx hb dX9_crossings_16 rfl (lv_at hl 3 rfl) ?_
        refine lv_aload_n hx hb dX9_crossings_17 rfl (lv_at hl 0 rfl) ?_
        refine x_getv (v := .int (g 12 5)) (Or.inl fl_X9_35) C hP (by decide) xs_12 rfl dX9_crossings_18 ?_
        refine lv_icmp_ge (x := v3) (y := (g 12 5)) (tgt := 98) hx hb dX9_crossings_21 (by decide) (fun c3 => ?_) (fun c3 => ?_)
        ·
          have h := ite_t c3 h
          refine lv_iinc (v := (v2 + 1)) (lv' := [(2, .int (v2 + 1)), (0, .ref (a 12)), (1, .int v1), (3, .int v3)]) hx hb dX9_crossings_98 hl (k := 2) rfl rfl (by decide) rfl (fun ls hl => ?_)
          refine lv_goto (tgt := 4) hx hb dX9_crossings_101 (by decide) ?_
          exact ih4 (v1, (v2 + 1), g, L) h H locs ls hP hD hS (lv_sub hl [1, 2, 0] rfl)
        ·
          have h := ite_e c3 h
          refine lv_aload_n hx hb dX9_crossings_24 rfl (lv_at hl 0 rfl) ?_
          refine x_getr (Or.inl fl_X9_9) C hP (by decide) xs_12 rfl dX9_crossings_25 ?_
          refine lv_iload_n hx hb dX9_crossings_28 rfl (lv_at hl 2 rfl) ?_
          refine y_ald C hP (by decide) xs_53 dX9_crossings_29 h (fun h => ?_)
          refine lv_aload_n hx hb dX9_crossings_30 rfl (lv_at hl 0 rfl) ?_
          refine x_getr (Or.inl fl_X9_9) C hP (by decide) xs_12 rfl dX9_crossings_31 ?_
          refine lv_iload_n hx hb dX9_crossings_34 rfl (lv_at hl 3 rfl) ?_
          refine y_ald C hP (by decide) xs_53 dX9_crossings_35 h (fun h => ?_)
          refine k_max lm_X9_75 C hl.1 (Nat.le_of_ble_eq_true rfl) (Nat.le_of_ble_eq_true rfl) (Nat.le_of_ble_eq_true rfl) (Nat.le_of_ble_eq_true rfl) dX9_crossings_36 ?_
          refine lv_aload_n hx hb dX9_crossings_39 rfl (lv_at hl 0 rfl) ?_
          refine x_getr (Or.inl fl_X9_15) C hP (by decide) xs_12 rfl dX9_crossings_40 ?_
          refine lv_iload_n hx hb dX9_crossings_43 rfl (lv_at hl 2 rfl) ?_
          refine y_ald C hP (by decide) xs_54 dX9_crossings_44 h (fun h => ?_)
          refine lv_aload_n hx hb dX9_crossings_45 rfl (lv_at hl 0 rfl) ?_
          refine x_getr (Or.inl fl_X9_15) C hP (by decide) xs_12 rfl dX9_crossings_46 ?_
          refine lv_iload_n hx hb dX9_crossings_49 rfl (lv_at hl 3 rfl) ?_
          refine y_ald C hP (by decide) xs_54 dX9_crossings_50 h (fun h => ?_)
          refine k_min lm_X9_80 C hl.1 (Nat.le_of_ble_eq_true rfl) (Nat.le_of_ble_eq_true rfl) (Nat.le_of_ble_eq_true rfl) (Nat.le_of_ble_eq_true rfl) dX9_crossings_51 ?_
          have J62 : ∀ (v1 : Int32) (v3 : Int32) (t0 : Int32) (g : Nat → Nat → Int32) (L : Nat → Nat → Int64) (H : Heap) (locs : List Loc) (ls : Array Slot), fX9_crossings_12_p62 fu k4 k16 v1 v2 v3 t0 g L = some (res, s9) → va_P G.1 vwCl (zw G (XS b) 105 a g L) H → va_D A (zw G (XS b) 105 a g L) → va_S A s.heap H locs → lv_has ls 5 [(0, .ref (a 12)), (1, .int v1), (2, .int v2), (3, .int v3)] → W p l e { frames := 6, cells := 0, slots := 0, locals := 110 } s m [.ref (a 12)].toArray below meth c H locs 0 0 (MQ below ((kQi G (S := Unit) (fun r' _ => r' = res) (fun _ => zw G (XS b) 105 a s9.1 s9.2)) A) [.ref (a 12)].toArray s 0 0 A) (F0 m 62 ls [.int t0]) := by
            intro v1 v3 t0 g L H locs ls h hP hD hS hl
            unfold fX9_crossings_12_p62 at h
            refine lv_istore (lv' := [(4, .int t0), (0, .ref (a 12)), (1, .int v1), (2, .int v2), (3, .int v3)]) hx hb dX9_crossings_62 hl (by decide) rfl (fun ls hl => ?_)
            refine lv_iload_n hx hb dX9_crossings_64 rfl (lv_at hl 2 rfl) ?_
            refine lv_iload hx hb dX9_crossings_65 (lv_at hl 0 rfl) ?_
            have J90 : ∀ (v3 : Int32) (t0 : Int32) (t1 : Int32) (g : Nat → Nat → Int32) (L : Nat → Nat → Int64) (H : Heap) (locs : List Loc) (ls : Array Slot), fX9_crossings_12_p90 fu k4 k16 v2 v3 t0 t1 g L = some (res, s9) → va_P G.1 vwCl (zw G (XS b) 105 a g L) H → va_D A (zw G (XS b) 105 a g L) → va_S A s.heap H locs → lv_has ls 5 [(0, .ref (a 12)), (2, .int v2), (3, .int v3)] → W p l e { frames := 6, cells := 0, slots := 0, locals := 110 } s m [.ref (a 12)].toArray below meth c H locs 0 0 (MQ below ((kQi G (S := Unit) (fun r' _ => r' = res) (fun _ => zw G (XS b) 105 a s9.1 s9.2)) A) [.ref (a 12)].toArray s 0 0 A) (F0 m 90 ls [.int t0, .int t1]) := by
              intro v3 t0 t1 g L H locs ls h hP hD hS hl
              unfold fX9_crossings_12_p90 at h
              refine lv_iadd hx hb dX9_crossings_90 ?_
              refine y_let h (fun x4 h => ?_)
              refine lv_istore_n (lv' := [(1, .int x4), (0, .ref (a 12)), (2, .int v2), (3, .int v3)]) hx hb dX9_crossings_91 rfl hl (by decide) rfl (fun ls hl => ?_)
              refine lv_iinc (v := (v3 + 1)) (lv' := [(3, .int (v3 + 1)), (1, .int x4), (0, .ref (a 12)), (2, .int v2)]) hx hb dX9_crossings_92 hl (k := 3) rfl rfl (by decide) rfl (fun ls hl => ?_)
              refine lv_goto (tgt := 16) hx hb dX9_crossings_95 (by decide) ?_
              exact ih16 (x4, (v3 + 1), g, L) h H locs ls hP hD hS (lv_sub hl [2, 1, 3, 0] rfl)
            have J89 : ∀ (v3 : Int32) (t0 : Int32) (g : Nat → Nat → Int32) (L : Nat → Nat → Int64) (H : Heap) (locs : List Loc) (ls : Array Slot), fX9_crossings_12_p89 fu k4 k16 v2 v3 t0 g L = some (res, s9) → va_P G.1 vwCl (zw G (XS b) 105 a g L) H → va_D A (zw G (XS b) 105 a g L) → va_S A s.heap H locs → lv_has ls 5 [(0, .ref (a 12)), (2, .int v2), (3, .int v3)] → W p l e { frames := 6, cells := 0, slots := 0, locals := 110 } s m [.ref (a 12)].toArray below meth c H locs 0 0 (MQ below ((kQi G (S := Unit) (fun r' _ => r' = res) (fun _ => zw G (XS b) 105 a s9.1 s9.2)) A) [.ref (a 12)].toArray s 0 0 A) (F0 m 89 ls [.int t0]) := by
              intro v3 t0 g L H locs ls h hP hD hS hl
              unfold fX9_crossings_12_p89 at h
              refine lv_iconst (v := 0) hx hb dX9_crossings_89 (by decide) ?_
              exact J90 v3 0 t0 g L H locs ls h hP hD hS (lv_sub hl [0, 1, 2] rfl)
            refine lv_if_eq (x := t0) (tgt := 89) hx hb dX9_crossings_67 (by decide) (fun c5 => ?_) (fun c5 => ?_)
            ·
              have h := ite_t c5 h
              exact J89 v3 v1 g L H locs ls h hP hD hS (lv_sub hl [1, 3, 4] rfl)
            ·
              have h := ite_e c5 h
              refine lv_aload_n hx hb dX9_crossings_70 rfl (lv_at hl 1 rfl) ?_
              refine x_getr (Or.inl fl_X9_21) C hP (by decide) xs_12 rfl dX9_crossings_71 ?_
              refine lv_iload_n hx hb dX9_crossings_74 rfl (lv_at hl 3 rfl) ?_
              refine y_zald C hP (by decide) xs_56 dX9_crossings_75 h (fun h => ?_)
              refine lv_aload_n hx hb dX9_crossings_76 rfl (lv_at hl 1 rfl) ?_
              refine x_getr (Or.inl fl_X9_21) C hP (by decide) xs_12 rfl dX9_crossings_77 ?_
              refine lv_iload_n hx hb dX9_crossings_80 rfl (lv_at hl 4 rfl) ?_
              refine y_zald C hP (by decide) xs_56 dX9_crossings_81 h (fun h => ?_)
              refine lv_icmp_eq (x := (g 56 (Int32.toNatClampNeg v2))) (y := (g 56 (Int32.toNatClampNeg v3))) (tgt := 89) hx hb dX9_crossings_82 (by decide) (fun c6 => ?_) (fun c6 => ?_)
              ·
                have h := ite_t c6 h
                exact J89 v3 v1 g L H locs ls h hP hD hS (lv_sub hl [1, 3, 4] rfl)
              ·
                have h := ite_e c6 h
                refine lv_iconst (v := 1) hx hb dX9_crossings_85 (by decide) ?_
                refine lv_goto (tgt := 90) hx hb dX9_crossings_86 (by decide) ?_
                exact J90 v3 1 v1 g L H locs ls h hP hD hS (lv_sub hl [1, 3, 4] rfl)
          refine lv_icmp_ge (x := (if (g 53 (Int32.toNatClampNeg v2)) < (g 53 (Int32.toNatClampNeg v3)) then (g 53 (Int32.toNatClampNeg v3)) else (g 53 (Int32.toNatClampNeg v2)))) (y := (if (g 54 (Int32.toNatClampNeg v3)) < (g 54 (Int32.toNatClampNeg v2)) then (g 54 (Int32.toNatClampNeg v3)) else (g 54 (Int32.toNatClampNeg v2)))) (tgt := 61) hx hb dX9_crossings_54 (by decide) (fun c7 => ?_) (fun c7 => ?_)
          ·
            have h := ite_t c7 h
            refine lv_iconst (v := 0) hx hb dX9_crossings_61 (by decide) ?_
            exact J62 v1 v3 0 g L H locs ls h hP hD hS (lv_sub hl [0, 1, 2, 3] rfl)
          ·
            have h := ite_e c7 h
            refine lv_iconst (v := 1) hx hb dX9_crossings_57 (by decide) ?_
            refine lv_goto (tgt := 62) hx hb dX9_crossings_58 (by decide) ?_
            exact J62 v1 v3 1 g L H locs ls h hP hD hS (lv_sub hl [0, 1, 2, 3] rfl)
      exact lp16 v2 fu (v1, x2, g, L) h H locs ls hP hD hS (lv_sub hl [1, 2, 3, 0] rfl)
  exact lp4 trivial fu (0, 0, g, L) h H locs ls hP hD hS (lv_sub hl [2, 1, 0] rfl)
def fX9_peopleIn_12_p43 (fu : Nat) (k4 : Int32 × Int32 × (Nat → Nat → Int32) × (Nat → Nat → Int64) → Option ((Int32) × zS)) (v1 : Int32) (v3 : Int32) (t0 : Int32) (t1 : Int32) (g : Nat → Nat → Int32) (L : Nat → Nat → Int64) : Option ((Int32) × zS) :=
  lti (t1 + t0) (fun x2 =>
  k4 (x2, (v3 + 1), g, L))
def fX9_peopleIn_12_p42 (fu : Nat) (k4 : Int32 × Int32 × (Nat → Nat → Int32) × (Nat → Nat → Int64) → Option ((Int32) × zS)) (v1 : Int32) (v3 : Int32) (t0 : Int32) (g : Nat → Nat → Int32) (L : Nat → Nat → Int64) : Option ((Int32) × zS) :=
  fX9_peopleIn_12_p43 fu k4 v1 v3 0 t0 g L
def fX9_peopleIn_12_s4 (fu : Nat) (v1 : Int32) (k4 : Int32 × Int32 × (Nat → Nat → Int32) × (Nat → Nat → Int64) → Option ((Int32) × zS)) (v2 : Int32) (v3 : Int32) (g : Nat → Nat → Int32) (L : Nat → Nat → Int64) : Option ((Int32) × zS) :=
  if (g 12 5) ≤ v3 then some (v2, (g, L))
  else ck v3 72 (
  if v1 < (g 53 (Int32.toNatClampNeg v3)) then fX9_peopleIn_12_p42 fu k4 v1 v3 v2 g L
  else ck v3 72 (
  if (g 54 (Int32.toNatClampNeg v3)) ≤ v1 then fX9_peopleIn_12_p42 fu k4 v1 v3 v2 g L
  else ck v3 72 (
  fX9_peopleIn_12_p43 fu k4 v1 v3 (g 55 (Int32.toNatClampNeg v3)) v2 g L)))
def fX9_peopleIn_12_l4 (fu : Nat) (v1 : Int32) (v2 : Int32) (v3 : Int32) (g : Nat → Nat → Int32) (L : Nat → Nat → Int64) : Option ((Int32) × zS) :=
  whileK (fun k v => fX9_peopleIn_12_s4 fu v1 k v.1 v.2.1 v.2.2.1 v.2.2.2) fu (v2, v3, g, L)
def fX9_peopleIn_12 (fu : Nat) (p1 : Int32) (g : Nat → Nat → Int32) (L : Nat → Nat → Int64) : Option ((Int32) × zS) :=
  fX9_peopleIn_12_l4 fu p1 0 0 g L
set_option maxHeartbeats 4000000 in
set_option maxRecDepth 100000 in
theorem rX9_peopleIn_12 (l : Launch) (G : kG) (sz : Nat) (b : Nat) (a : Nat → Nat) (fu : Nat) (g : Nat → Nat → Int32) (L : Nat → Nat → Int64) (p1 : Int32) (res : Int32) (s9 : zS) (h : fX9_peopleIn_12 fu p1 g L = some (res, s9)) : kM l yX9_peopleIn cX9_peopleIn 4 (some .int) { frames := 6, cells := 0, slots := 0, locals := 110 } G [.ref (a 12), .int p1] (zw G (XS b) 105 a g L) sz (kQi G (S := Unit) (fun r' _ => r' = res) (fun _ => zw G (XS b) 105 a s9.1 s9.2)) := by
  refine kM.of (by decide) (Nat.le_of_ble_eq_true rfl) ?_
  intro p e s m below meth c A ls H C hr hlk hnm hP hD hS hl
  have C : kC G p s m c cX9_peopleIn 4 RX9 A := C
  have hx := C.1
  have hb := C.2.1
  have hl : lv_has ls 4 [(0, .ref (a 12)), (1, .int p1)] := hl
  obtain ⟨locs, hlocs⟩ : ∃ q : List Loc, q = [] := ⟨_, rfl⟩
  rw [← hlocs] at hS
  rw [← hlocs]
  unfold fX9_peopleIn_12 at h
  refine lv_iconst (v := 0) hx hb dX9_peopleIn_0 (by decide) ?_
  refine lv_istore_n (lv' := [(2, .int 0), (0, .ref (a 12)), (1, .int p1)]) hx hb dX9_peopleIn_1 rfl hl (by decide) rfl (fun ls hl => ?_)
  refine lv_iconst (v := 0) hx hb dX9_peopleIn_2 (by decide) ?_
  refine lv_istore_n (lv' := [(3, .int 0), (2, .int 0), (0, .ref (a 12)), (1, .int p1)]) hx hb dX9_peopleIn_3 rfl hl (by decide) rfl (fun ls hl => ?_)
  have lp4 : ∀ (v1 : Int32), ∀ (n : Nat) (v : Int32 × Int32 × (Nat → Nat → Int32) × (Nat → Nat → Int64)), whileK (fun k v => fX9_peopleIn_12_s4 fu v1 k v.1 v.2.1 v.2.2.1 v.2.2.2) n v = some (res, s9) → ∀ (H : Heap) (locs : List Loc) (ls : Array Slot), va_P G.1 vwCl (zw G (XS b) 105 a (v.2.2.1) (v.2.2.2)) H → va_D A (zw G (XS b) 105 a (v.2.2.1) (v.2.2.2)) → va_S A s.heap H locs → lv_has ls 4 [(0, .ref (a 12)), (1, .int v1), (2, .int (v.1)), (3, .int (v.2.1))] → W p l e { frames := 6, cells := 0, slots := 0, locals := 110 } s m [.ref (a 12), .int p1].toArray below meth c H locs 0 0 (MQ below ((kQi G (S := Unit) (fun r' _ => r' = res) (fun _ => zw G (XS b) 105 a s9.1 s9.2)) A) [.ref (a 12), .int p1].toArray s 0 0 A) (F0 m 4 ls []) := by
    intro v1
    refine while_ind (fun k4 ih4 v h => ?_)
    obtain ⟨v2, v3, g, L⟩ := v
    intro H locs ls hP hD hS hl
    have h : fX9_peopleIn_12_s4 fu v1 k4 v2 v3 g L = some (res, s9) := h
    have hP : va_P G.1 vwCl (zw G (XS b) 105 a g L) H := hP
    have hD : va_D A (zw G (XS b) 105 a g L) := hD
    have hl : lv_has ls 4 [(0, .ref (a 12)), (1, .int v1), (2, .int v2), (3, .int v3)] := hl
    show W p l e { frames := 6, cells := 0, slots := 0, locals := 110 } s m [.ref (a 12), .int p1].toArray below meth c H locs 0 0 (MQ below ((kQi G (S := Unit) (fun r' _ => r' = res) (fun _ => zw G (XS b) 105 a s9.1 s9.2)) A) [.ref (a 12), .int p1].toArray s 0 0 A) (F0 m 4 ls [])
    unfold fX9_peopleIn_12_s4 at h
    refine lv_iload_n hx hb dX9_peopleIn_4 rfl (lv_at hl 3 rfl) ?_
    refine lv_aload_n hx hb dX9_peopleIn_5 rfl (lv_at hl 0 rfl) ?_
    refine x_getv (v := .int (g 12 5)) (Or.inl fl_X9_35) C hP (by decide) xs_12 rfl dX9_peopleIn_6 ?_
    refine lv_icmp_ge (x := v3) (y := (g 12 5)) (tgt := 51) hx hb dX9_peopleIn_9 (by decide) (fun c1 => ?_) (fun c1 => ?_)
    ·
      have h := ite_t c1 h
      refine lv_iload_n hx hb dX9_peopleIn_51 rfl (lv_at hl 2 rfl) ?_
      exact y_iret C hr hlk hP hD hS h (Nat.le_of_ble_eq_true rfl) (Nat.le_of_ble_eq_true rfl) dX9_peopleIn_52
    ·
      have h := ite_e c1 h
      refine lv_iload_n hx hb dX9_peopleIn_12 rfl (lv_at hl 2 rfl) ?_
      refine lv_aload_n hx hb dX9_peopleIn_13 rfl (lv_at hl 0 rfl) ?_
      refine x_getr (Or.inl fl_X9_9) C hP (by decide) xs_12 rfl dX9_peopleIn_14 ?_
      refine lv_iload_n hx hb dX9_peopleIn_17 rfl (lv_at hl 3 rfl) ?_
      refine y_ald C hP (by decide) xs_53 dX9_peopleIn_18 h (fun h => ?_)
      refine lv_iload_n hx hb dX9_peopleIn_19 rfl (lv_at hl 1 rfl) ?_
      have J43 : ∀ (v3 : Int32) (t0 : Int32) (t1 : Int32) (g : Nat → Nat → Int32) (L : Nat → Nat → Int64) (H : Heap) (locs : List Loc) (ls : Array Slot), fX9_peopleIn_12_p43 fu k4 v1 v3 t0 t1 g L = some (res, s9) → va_P G.1 vwCl (zw G (XS b) 105 a g L) H → va_D A (zw G (XS b) 105 a g L) → va_S A s.heap H locs → lv_has ls 4 [(0, .ref (a 12)), (1, .int v1), (3, .int v3)] → W p l e { frames := 6, cells := 0, slots := 0, locals := 110 } s m [.ref (a 12), .int p1].toArray below meth c H locs 0 0 (MQ below ((kQi G (S := Unit) (fun r' _ => r' = res) (fun _ => zw G (XS b) 105 a s9.1 s9.2)) A) [.ref (a 12), .int p1].toArray s 0 0 A) (F0 m 43 ls [.int t0, .int t1]) := by
        intro v3 t0 t1 g L H locs ls h hP hD hS hl
        unfold fX9_peopleIn_12_p43 at h
        refine lv_iadd hx hb dX9_peopleIn_43 ?_
        refine y_let h (fun x2 h => ?_)
        refine lv_istore_n (lv' := [(2, .int x2), (0, .ref (a 12)), (1, .int v1), (3, .int v3)]) hx hb dX9_peopleIn_44 rfl hl (by decide) rfl (fun ls hl => ?_)
        refine lv_iinc (v := (v3 + 1)) (lv' := [(3, .int (v3 + 1)), (2, .int x2), (0, .ref (a 12)), (1, .int v1)]) hx hb dX9_peopleIn_45 hl (k := 3) rfl rfl (by decide) rfl (fun ls hl => ?_)
        refine lv_goto (tgt := 4) hx hb dX9_peopleIn_48 (by decide) ?_
        exact ih4 (x2, (v3 + 1), g, L) h H locs ls hP hD hS (lv_sub hl [2, 3, 1, 0] rfl)
      have J42 : ∀ (v3 : Int32) (t0 : Int32) (g : Nat → Nat → Int32) (L : Nat → Nat → Int64) (H : Heap) (locs : List Loc) (ls : Array Slot), fX9_peopleIn_12_p42 fu k4 v1 v3 t0 g L = some (res, s9) → va_P G.1 vwCl (zw G (XS b) 105 a g L) H → va_D A (zw G (XS b) 105 a g L) → va_S A s.heap H locs → lv_has ls 4 [(0, .ref (a 12)), (1, .int v1), (3, .int v3)] → W p l e { frames := 6, cells := 0, slots := 0, locals := 110 } s m [.ref (a 12), .int p1].toArray below meth c H locs 0 0 (MQ below ((kQi G (S := Unit) (fun r' _ => r' = res) (fun _ => zw G (XS b) 105 a s9.1 s9.2)) A) [.ref (a 12), .int p1].toArray s 0 0 A) (F0 m 42 ls [.int t0]) := by
        intro v3 t0 g L H locs ls h hP hD hS hl
        unfold fX9_peopleIn_12_p42 at h
        refine lv_iconst (v := 0) hx hb dX9_peopleIn_42 (by decide) ?_
        exact J43 v3 0 t0 g L H locs ls h hP hD hS (lv_sub hl [0, 1, 2] rfl)
      refine lv_icmp_gt (x := (g 53 (Int32.toNatClampNeg v3))) (y := v1) (tgt := 42) hx hb dX9_peopleIn_20 (by decide) (fun c3 => ?_) (fun c3 => ?_)
      ·
        have h := ite_t c3 h
        exact J42 v3 v2 g L H locs ls h hP hD hS (lv_sub hl [0, 1, 3] rfl)
      ·
        have h := ite_e c3 h
        refine lv_iload_n hx hb dX9_peopleIn_23 rfl (lv_at hl 1 rfl) ?_
        refine lv_aload_n hx hb dX9_peopleIn_24 rfl (lv_at hl 0 rfl) ?_
        refine x_getr (Or.inl fl_X9_15) C hP (by decide) xs_12 rfl dX9_peopleIn_25 ?_
        refine lv_iload_n hx hb dX9_peopleIn_28 rfl (lv_at hl 3 rfl) ?_
        refine y_ald C hP (by decide) xs_54 dX9_peopleIn_29 h (fun h => ?_)
        refine lv_icmp_ge (x := v1) (y := (g 54 (Int32.toNatClampNeg v3))) (tgt := 42) hx hb dX9_peopleIn_30 (by decide) (fun c4 => ?_) (fun c4 => ?_)
        ·
          have h := ite_t c4 h
          exact J42 v3 v2 g L H locs ls h hP hD hS (lv_sub hl [0, 1, 3] rfl)
        ·
          have h := ite_e c4 h
          refine lv_aload_n hx hb dX9_peopleIn_33 rfl (lv_at hl 0 rfl) ?_
          refine x_getr (Or.inl fl_X9_18) C hP (by decide) xs_12 rfl dX9_peopleIn_34 ?_
          refine lv_iload_n hx hb dX9_peopleIn_37 rfl (lv_at hl 3 rfl) ?_
          refine y_ald C hP (by decide) xs_55 dX9_peopleIn_38 h (fun h => ?_)
          refine lv_goto (tgt := 43) hx hb dX9_peopleIn_39 (by decide) ?_
          exact J43 v3 (g 55 (Int32.toNatClampNeg v3)) v2 g L H locs ls h hP hD hS (lv_sub hl [0, 1, 3] rfl)
  exact lp4 p1 fu (0, 0, g, L) h H locs ls hP hD hS (lv_sub hl [2, 3, 1, 0] rfl)
def fX9_busiestMinute_12_p58 (fu : Nat) (k6 : Int32 × Int32 × Int32 × (Nat → Nat → Int32) × (Nat → Nat → Int64) → Option ((Int32) × zS)) (v1 : Int32) (v2 : Int32) (v3 : Int32) (g : Nat → Nat → Int32) (L : Nat → Nat → Int64) : Option ((Int32) × zS) :=
  k6 (v1, v2, (v3 + 1), g, L)
def fX9_busiestMinute_12_p48 (fu : Nat) (k6 : Int32 × Int32 × Int32 × (Nat → Nat → Int32) × (Nat → Nat → Int64) → Option ((Int32) × zS)) (v3 : Int32) (v4 : Int32) (g : Nat → Nat → Int32) (L : Nat → Nat → Int64) : Option ((Int32) × zS) :=
  ck v3 72 (
  lti (g 53 (Int32.toNatClampNeg v3)) (fun x6 =>
  fX9_busiestMinute_12_p58 fu k6 x6 v4 v3 g L))
def fX9_busiestMinute_12_s6 (fu : Nat) (k6 : Int32 × Int32 × Int32 × (Nat → Nat → Int32) × (Nat → Nat → Int64) → Option ((Int32) × zS)) (v1 : Int32) (v2 : Int32) (v3 : Int32) (g : Nat → Nat → Int32) (L : Nat → Nat → Int64) : Option ((Int32) × zS) :=
  if (g 12 5) ≤ v3 then some (v1, (g, L))
  else ck v3 72 (
  cb (fX9_peopleIn_12 fu (g 53 (Int32.toNatClampNeg v3)) g L) (fun x2 g3 L4 =>
  if v2 < (x2 : Int32) then fX9_busiestMinute_12_p48 fu k6 v3 x2 g3 L4
  else if (x2 : Int32) = v2 then ck v3 72 (
  if v1 ≤ (g3 53 (Int32.toNatClampNeg v3)) then fX9_busiestMinute_12_p58 fu k6 v1 v2 v3 g3 L4
  else fX9_busiestMinute_12_p48 fu k6 v3 x2 g3 L4)
  else fX9_busiestMinute_12_p58 fu k6 v1 v2 v3 g3 L4))
def fX9_busiestMinute_12_l6 (fu : Nat) (v1 : Int32) (v2 : Int32) (v3 : Int32) (g : Nat → Nat → Int32) (L : Nat → Nat → Int64) : Option ((Int32) × zS) :=
  whileK (fun k v => fX9_busiestMinute_12_s6 fu k v.1 v.2.1 v.2.2.1 v.2.2.2.1 v.2.2.2.2) fu (v1, v2, v3, g, L)
def fX9_busiestMinute_12 (fu : Nat) (g : Nat → Nat → Int32) (L : Nat → Nat → Int64) : Option ((Int32) × zS) :=
  fX9_busiestMinute_12_l6 fu (-1) 0 0 g L
set_option maxHeartbeats 4000000 in
set_option maxRecDepth 100000 in
theorem rX9_busiestMinute_12 (l : Launch) (G : kG) (sz : Nat) (b : Nat) (a : Nat → Nat) (fu : Nat) (g : Nat → Nat → Int32) (L : Nat → Nat → Int64) (res : Int32) (s9 : zS) (h : fX9_busiestMinute_12 fu g L = some (res, s9)) : kM l yX9_busiestMinute cX9_busiestMinute 5 (some .int) { frames := 7, cells := 0, slots := 0, locals := 133 } G [.ref (a 12)] (zw G (XS b) 105 a g L) sz (kQi G (S := Unit) (fun r' _ => r' = res) (fun _ => zw G (XS b) 105 a s9.1 s9.2)) := by
  refine kM.of (by decide) (Nat.le_of_ble_eq_true rfl) ?_
  intro p e s m below meth c A ls H C hr hlk hnm hP hD hS hl
  have C : kC G p s m c cX9_busiestMinute 5 RX9 A := C
  have hx := C.1
  have hb := C.2.1
  have hl : lv_has ls 5 [(0, .ref (a 12))] := hl
  obtain ⟨locs, hlocs⟩ : ∃ q : List Loc, q = [] := ⟨_, rfl⟩
  rw [← hlocs] at hS
  rw [← hlocs]
  unfold fX9_busiestMinute_12 at h
  refine lv_iconst (v := -1) hx hb dX9_busiestMinute_0 (by decide) ?_
  refine lv_istore_n (lv' := [(1, .int (-1)), (0, .ref (a 12))]) hx hb dX9_busiestMinute_1 rfl hl (by decide) rfl (fun ls hl => ?_)
  refine lv_iconst (v := 0) hx hb dX9_busiestMinute_2 (by decide) ?_
  refine lv_istore_n (lv' := [(2, .int 0), (1, .int (-1)), (0, .ref (a 12))]) hx hb dX9_busiestMinute_3 rfl hl (by decide) rfl (fun ls hl => ?_)
  refine lv_iconst (v := 0) hx hb dX9_busiestMinute_4 (by decide) ?_
  refine lv_istore_n (lv' := [(3, .int 0), (2, .int 0), (1, .int (-1)), (0, .ref (a 12))]) hx hb dX9_busiestMinute_5 rfl hl (by decide) rfl (fun ls hl => ?_)
  have lp6 : ∀ (_ : True), ∀ (n : Nat) (v : Int32 × Int32 × Int32 × (Nat → Nat → Int32) × (Nat → Nat → Int64)), whileK (fun k v => fX9_busiestMinute_12_s6 fu k v.1 v.2.1 v.2.2.1 v.2.2.2.1 v.2.2.2.2) n v = some (res, s9) → ∀ (H : Heap) (locs : List Loc) (ls : Array Slot), va_P G.1 vwCl (zw G (XS b) 105 a (v.2.2.2.1) (v.2.2.2.2)) H → va_D A (zw G (XS b) 105 a (v.2.2.2.1) (v.2.2.2.2)) → va_S A s.heap H locs → lv_has ls 5 [(0, .ref (a 12)), (1, .int (v.1)), (2, .int (v.2.1)), (3, .int (v.2.2.1))] → W p l e { frames := 7, cells := 0, slots := 0, locals := 133 } s m [.ref (a 12)].toArray below meth c H locs 0 0 (MQ below ((kQi G (S := Unit) (fun r' _ => r' = res) (fun _ => zw G (XS b) 105 a s9.1 s9.2)) A) [.ref (a 12)].toArray s 0 0 A) (F0 m 6 ls []) := by
    intro _
    refine while_ind (fun k6 ih6 v h => ?_)
    obtain ⟨v1, v2, v3, g, L⟩ := v
    intro H locs ls hP hD hS hl
    have h : fX9_busiestMinute_12_s6 fu k6 v1 v2 v3 g L = some (res, s9) := h
    have hP : va_P G.1 vwCl (zw G (XS b) 105 a g L) H := hP
    have hD : va_D A (zw G (XS b) 105 a g L) := hD
    have hl : lv_has ls 5 [(0, .ref (a 12)), (1, .int v1), (2, .int v2), (3, .int v3)] := hl
    show W p l e { frames := 7, cells := 0, slots := 0, locals := 133 } s m [.ref (a 12)].toArray below meth c H locs 0 0 (MQ below ((kQi G (S := Unit) (fun r' _ => r' = res) (fun _ => zw G (XS b) 105 a s9.1 s9.2)) A) [.ref (a 12)].toArray s 0 0 A) (F0 m 6 ls [])
    unfold fX9_busiestMinute_12_s6 at h
    refine lv_iload_n hx hb dX9_busiestMinute_6 rfl (lv_at hl 3 rfl) ?_
    refine lv_aload_n hx hb dX9_busiestMinute_7 rfl (lv_at hl 0 rfl) ?_
    refine x_getv (v := .int (g 12 5)) (Or.inl fl_X9_35) C hP (by decide) xs_12 rfl dX9_busiestMinute_8 ?_
    refine lv_icmp_ge (x := v3) (y := (g 12 5)) (tgt := 64) hx hb dX9_busiestMinute_11 (by decide) (fun c1 => ?_) (fun c1 => ?_)
    ·
      have h := ite_t c1 h
      refine lv_iload_n hx hb dX9_busiestMinute_64 rfl (lv_at hl 1 rfl) ?_
      exact y_iret C hr hlk hP hD hS h (Nat.le_of_ble_eq_true rfl) (Nat.le_of_ble_eq_true rfl) dX9_busiestMinute_65
    ·
      have h := ite_e c1 h
      refine lv_aload_n hx hb dX9_busiestMinute_14 rfl (lv_at hl 0 rfl) ?_
      refine lv_aload_n hx hb dX9_busiestMinute_15 rfl (lv_at hl 0 rfl) ?_
      refine x_getr (Or.inl fl_X9_9) C hP (by decide) xs_12 rfl dX9_busiestMinute_16 ?_
      refine lv_iload_n hx hb dX9_busiestMinute_19 rfl (lv_at hl 3 rfl) ?_
      refine y_ald C hP (by decide) xs_53 dX9_busiestMinute_20 h (fun h => ?_)
      obtain ⟨z_, g3, L4, hf5, h⟩ := cb_some h
      refine x_callVi (rest := []) li_X9_83 C (rX9_peopleIn_12 l G H.size b a fu g L (g 53 (Int32.toNatClampNeg v3)) z_ (g3, L4) hf5) (kR rfl) hP hD hS 12 9 rfl (zat (by decide) xs_12) rfl hl.1 rfl (Nat.le_of_ble_eq_true rfl) dX9_busiestMinute_21 (fun x2 u_ H locs e_ hP hD hS => ?_)
      have e_ : x2 = z_ := e_
      subst e_
      have hP : va_P G.1 vwCl (zw G (XS b) 105 a g3 L4) H := hP
      have hD : va_D A (zw G (XS b) 105 a g3 L4) := hD
      refine lv_istore (lv' := [(4, .int x2), (0, .ref (a 12)), (1, .int v1), (2, .int v2), (3, .int v3)]) hx hb dX9_busiestMinute_24 hl (by decide) rfl (fun ls hl => ?_)
      refine lv_iload hx hb dX9_busiestMinute_26 (lv_at hl 0 rfl) ?_
      refine lv_iload_n hx hb dX9_busiestMinute_28 rfl (lv_at hl 3 rfl) ?_
      have J58 : ∀ (v1 : Int32) (v2 : Int32) (v3 : Int32) (g : Nat → Nat → Int32) (L : Nat → Nat → Int64) (H : Heap) (locs : List Loc) (ls : Array Slot), fX9_busiestMinute_12_p58 fu k6 v1 v2 v3 g L = some (res, s9) → va_P G.1 vwCl (zw G (XS b) 105 a g L) H → va_D A (zw G (XS b) 105 a g L) → va_S A s.heap H locs → lv_has ls 5 [(0, .ref (a 12)), (1, .int v1), (2, .int v2), (3, .int v3)] → W p l e { frames := 7, cells := 0, slots := 0, locals := 133 } s m [.ref (a 12)].toArray below meth c H locs 0 0 (MQ below ((kQi G (S := Unit) (fun r' _ => r' = res) (fun _ => zw G (XS b) 105 a s9.1 s9.2)) A) [.ref (a 12)].toArray s 0 0 A) (F0 m 58 ls []) := by
        intro v1 v2 v3 g L H locs ls h hP hD hS hl
        unfold fX9_busiestMinute_12_p58 at h
        refine lv_iinc (v := (v3 + 1)) (lv' := [(3, .int (v3 + 1)), (0, .ref (a 12)), (1, .int v1), (2, .int v2)]) hx hb dX9_busiestMinute_58 hl (k := 3) rfl rfl (by decide) rfl (fun ls hl => ?_)
        refine lv_goto (tgt := 6) hx hb dX9_busiestMinute_61 (by decide) ?_
        exact ih6 (v1, v2, (v3 + 1), g, L) h H locs ls hP hD hS (lv_sub hl [1, 2, 3, 0] rfl)
      have J48 : ∀ (v3 : Int32) (v4 : Int32) (g : Nat → Nat → Int32) (L : Nat → Nat → Int64) (H : Heap) (locs : List Loc) (ls : Array Slot), fX9_busiestMinute_12_p48 fu k6 v3 v4 g L = some (res, s9) → va_P G.1 vwCl (zw G (XS b) 105 a g L) H → va_D A (zw G (XS b) 105 a g L) → va_S A s.heap H locs → lv_has ls 5 [(0, .ref (a 12)), (3, .int v3), (4, .int v4)] → W p l e { frames := 7, cells := 0, slots := 0, locals := 133 } s m [.ref (a 12)].toArray below meth c H locs 0 0 (MQ below ((kQi G (S := Unit) (fun r' _ => r' = res) (fun _ => zw G (XS b) 105 a s9.1 s9.2)) A) [.ref (a 12)].toArray s 0 0 A) (F0 m 48 ls []) := by
        intro v3 v4 g L H locs ls h hP hD hS hl
        unfold fX9_busiestMinute_12_p48 at h
        refine lv_iload hx hb dX9_busiestMinute_48 (lv_at hl 2 rfl) ?_
        refine lv_istore_n (lv' := [(2, .int v4), (0, .ref (a 12)), (3, .int v3), (4, .int v4)]) hx hb dX9_busiestMinute_50 rfl hl (by decide) rfl (fun ls hl => ?_)
        refine lv_aload_n hx hb dX9_busiestMinute_51 rfl (lv_at hl 1 rfl) ?_
        refine x_getr (Or.inl fl_X9_9) C hP (by decide) xs_12 rfl dX9_busiestMinute_52 ?_
        refine lv_iload_n hx hb dX9_busiestMinute_55 rfl (lv_at hl 2 rfl) ?_
        refine y_ald C hP (by decide) xs_53 dX9_busiestMinute_56 h (fun h => ?_)
        refine y_let h (fun x6 h => ?_)
        refine lv_istore_n (lv' := [(1, .int x6), (2, .int v4), (0, .ref (a 12)), (3, .int v3), (4, .int v4)]) hx hb dX9_busiestMinute_57 rfl hl (by decide) rfl (fun ls hl => ?_)
        exact J58 x6 v4 v3 g L H locs ls h hP hD hS (lv_sub hl [2, 0, 1, 3] rfl)
      refine lv_icmp_gt (x := x2) (y := v2) (tgt := 48) hx hb dX9_busiestMinute_29 (by decide) (fun c7 => ?_) (fun c7 => ?_)
      ·
        have h := ite_t c7 h
        exact J48 v3 x2 g3 L4 H locs ls h hP hD hS (lv_sub hl [1, 4, 0] rfl)
      ·
        have h := ite_e c7 h
        refine lv_iload hx hb dX9_busiestMinute_32 (lv_at hl 0 rfl) ?_
        refine lv_iload_n hx hb dX9_busiestMinute_34 rfl (lv_at hl 3 rfl) ?_
        refine lv_icmp_ne (x := x2) (y := v2) (tgt := 58) hx hb dX9_busiestMinute_35 (by decide) (fun c8 => ?_) (fun c8 => ?_)
        ·
          have h := ite_e c8 h
          exact J58 v1 v2 v3 g3 L4 H locs ls h hP hD hS (lv_sub hl [1, 2, 3, 4] rfl)
        ·
          have h := ite_t c8 h
          refine lv_aload_n hx hb dX9_busiestMinute_38 rfl (lv_at hl 1 rfl) ?_
          refine x_getr (Or.inl fl_X9_9) C hP (by decide) xs_12 rfl dX9_busiestMinute_39 ?_
          refine lv_iload_n hx hb dX9_busiestMinute_42 rfl (lv_at hl 4 rfl) ?_
          refine y_ald C hP (by decide) xs_53 dX9_busiestMinute_43 h (fun h => ?_)
          refine lv_iload_n hx hb dX9_busiestMinute_44 rfl (lv_at hl 2 rfl) ?_
          refine lv_icmp_ge (x := (g3 53 (Int32.toNatClampNeg v3))) (y := v1) (tgt := 58) hx hb dX9_busiestMinute_45 (by decide) (fun c9 => ?_) (fun c9 => ?_)
          ·
            have h := ite_t c9 h
            exact J58 v1 v2 v3 g3 L4 H locs ls h hP hD hS (lv_sub hl [1, 2, 3, 4] rfl)
          ·
            have h := ite_e c9 h
            exact J48 v3 x2 g3 L4 H locs ls h hP hD hS (lv_sub hl [1, 4, 0] rfl)
  exact lp6 trivial fu ((-1), 0, 0, g, L) h H locs ls hP hD hS (lv_sub hl [3, 2, 1, 0] rfl)
