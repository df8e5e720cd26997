theorem tw_379 : (Jvm.Cond.laysFinal "MarshBells$Trials" "MarshBells$Trials" "day" "LMarshBells$Day;") ∈ lw_tbl := tk_2 (List.mem_of_getElem? (i := 139) rfl)
theorem tw_381 : (Jvm.Cond.laysFinal "MarshBells$Trials" "MarshBells$Trials" "held" "LMarshBells$Held;") ∈ lw_tbl := tk_2 (List.mem_of_getElem? (i := 141) rfl)
theorem tw_383 : (Jvm.Cond.laysFinal "MarshBells$Trials" "MarshBells$Trials" "least" "LMarshBells$Least;") ∈ lw_tbl := tk_2 (List.mem_of_getElem? (i := 143) rfl)
theorem tw_385 : (Jvm.Cond.laysFinal "MarshBells$Trials" "MarshBells$Trials" "saved" "[I") ∈ lw_tbl := tk_2 (List.mem_of_getElem? (i := 145) rfl)
theorem tw_387 : (Jvm.Cond.lays "MarshBells$Trials" "MarshBells$Trials" "fitting" "I") ∈ lw_tbl := tk_2 (List.mem_of_getElem? (i := 147) rfl)
theorem tw_389 : (Jvm.Cond.lays "MarshBells$Trials" "MarshBells$Trials" "firstFitting" "I") ∈ lw_tbl := tk_2 (List.mem_of_getElem? (i := 149) rfl)
theorem tw_391 : (Jvm.Cond.lays "MarshBells$Trials" "MarshBells$Trials" "surely" "I") ∈ lw_tbl := tk_2 (List.mem_of_getElem? (i := 151) rfl)
theorem inWX10 : ∀ w ∈ u_ws RX10 TX10 7, w ∈ lw_tbl := by
  have e : ∀ k, k < 7 → u_lay RX10 TX10 k ∈ lw_tbl := fun k hk => match k, hk with | 0, _ => tw_379 | 1, _ => tw_381 | 2, _ => tw_383 | 3, _ => tw_385 | 4, _ => tw_387 | 5, _ => tw_389 | 6, _ => tw_391 | k + 7, hk => absurd hk (by omega)
  intro w h
  obtain ⟨k, hk, rfl⟩ := List.mem_map.mp h
  exact e k (List.mem_range.mp hk)
theorem tw_369 : (Jvm.Cond.fieldLink "MarshBells$Trials" (22 : Nat) "MarshBells$Trials" "day" "LMarshBells$Day;") ∈ lw_tbl := tk_2 (List.mem_of_getElem? (i := 129) rfl)
theorem fl_X10_22 : kFL RX10 22 10 7 0 := ⟨RX10, TX10, rfl, by decide, inWX10, tw_369⟩
theorem tw_304 : (Jvm.Cond.fieldLinkNest "MarshBells$Trials" (47 : Nat) "MarshBells$Day" "ends" "[I" "MarshBells") ∈ lw_tbl := tk_2 (List.mem_of_getElem? (i := 64) rfl)
theorem fl_X10_47 : kFN RX10 47 1 10 2 := ⟨RX1, TX1, rfl, by decide, inWX1, tw_304⟩
theorem tw_372 : (Jvm.Cond.fieldLink "MarshBells$Trials" (18 : Nat) "MarshBells$Trials" "saved" "[I") ∈ lw_tbl := tk_2 (List.mem_of_getElem? (i := 132) rfl)
theorem fl_X10_18 : kFL RX10 18 10 7 3 := ⟨RX10, TX10, rfl, by decide, inWX10, tw_372⟩
theorem dX10_keepEnds_0 : decode cX10_keepEnds 0 = .ok (.aload_n 0, 1) := by decide +kernel
theorem dX10_keepEnds_1 : decode cX10_keepEnds 1 = .ok (.getfield 22, 3) := by decide +kernel
theorem dX10_keepEnds_4 : decode cX10_keepEnds 4 = .ok (.iconst 0, 1) := by decide +kernel
theorem tw_1087 : (Jvm.Cond.methodLinkNest "MarshBells$Trials" (43 : Nat) ({ cls := "MarshBells$Day", name := "runFrom", desc := "(I)V" } : Jvm.MethodName) "MarshBells") ∈ lw_tbl := tk_5 (List.mem_of_getElem? (i := 127) rfl)
theorem tw_695 : (Jvm.Cond.code ({ cls := "MarshBells$Day", name := "runFrom", desc := "(I)V" } : Jvm.MethodName) prog_3_method_2_code (3 : Nat) (Option.none : Option Jvm.ClassFile.FieldType)) ∈ lw_tbl := tk_3 (List.mem_of_getElem? (i := 215) rfl)
theorem tw_694 : (Jvm.Cond.instanceMethod ({ cls := "MarshBells$Day", name := "runFrom", desc := "(I)V" } : Jvm.MethodName)) ∈ lw_tbl := tk_3 (List.mem_of_getElem? (i := 214) rfl)
theorem se_X1_runFrom : Cond.selects RX1 yX1_runFrom yX1_runFrom ∈ lw_tbl := List.mem_append_left _ (List.mem_of_getElem? (i := 27) rfl)
theorem li_X10_43 : kLN RX10 43 RX1 yX1_runFrom "MarshBells" cX1_runFrom 3 none 1 := ⟨tw_1087, tw_694, se_X1_runFrom, tw_695, tw_7, by decide +kernel⟩
theorem dX10_keepEnds_5 : decode cX10_keepEnds 5 = .ok (.invokevirtual 43, 3) := by decide +kernel
theorem dX10_keepEnds_8 : decode cX10_keepEnds 8 = .ok (.aload_n 0, 1) := by decide +kernel
theorem dX10_keepEnds_9 : decode cX10_keepEnds 9 = .ok (.getfield 22, 3) := by decide +kernel
theorem dX10_keepEnds_12 : decode cX10_keepEnds 12 = .ok (.getfield 47, 3) := by decide +kernel
theorem dX10_keepEnds_15 : decode cX10_keepEnds 15 = .ok (.iconst 0, 1) := by decide +kernel
theorem dX10_keepEnds_16 : decode cX10_keepEnds 16 = .ok (.aload_n 0, 1) := by decide +kernel
theorem dX10_keepEnds_17 : decode cX10_keepEnds 17 = .ok (.getfield 18, 3) := by decide +kernel
theorem dX10_keepEnds_20 : decode cX10_keepEnds 20 = .ok (.iconst 0, 1) := by decide +kernel
theorem dX10_keepEnds_21 : decode cX10_keepEnds 21 = .ok (.bipush 12, 2) := by decide +kernel
theorem tw_1088 : (Jvm.Cond.methodLink "MarshBells$Trials" (50 : Nat) ({ cls := "java/lang/System", name := "arraycopy", desc := "(Ljava/lang/Object;ILjava/lang/Object;II)V" } : Jvm.MethodName)) ∈ lw_tbl := tk_5 (List.mem_of_getElem? (i := 128) rfl)
theorem lc_X10_50 : kLC RX10 50 := ⟨tw_1088, tw_567, tw_566, tw_24⟩
theorem dX10_keepEnds_23 : decode cX10_keepEnds 23 = .ok (.invokestatic 50, 3) := by decide +kernel
theorem dX10_keepEnds_26 : decode cX10_keepEnds 26 = .ok (.return_, 1) := by decide +kernel
theorem tw_370 : (Jvm.Cond.fieldLink "MarshBells$Trials" (32 : Nat) "MarshBells$Trials" "held" "LMarshBells$Held;") ∈ lw_tbl := tk_2 (List.mem_of_getElem? (i := 130) rfl)
theorem fl_X10_32 : kFL RX10 32 10 7 1 := ⟨RX10, TX10, rfl, by decide, inWX10, tw_370⟩
theorem tw_237 : (Jvm.Cond.fieldLinkNest "MarshBells$Trials" (56 : Nat) "MarshBells$Held" "overs" "[I" "MarshBells") ∈ lw_tbl := tk_1 (List.mem_of_getElem? (i := 237) rfl)
theorem fl_X10_56 : kFN RX10 56 3 12 0 := ⟨RX3, TX3, rfl, by decide, inWX3, tw_237⟩
theorem dX10_runMore_0 : decode cX10_runMore 0 = .ok (.aload_n 0, 1) := by decide +kernel
theorem dX10_runMore_1 : decode cX10_runMore 1 = .ok (.getfield 32, 3) := by decide +kernel
theorem dX10_runMore_4 : decode cX10_runMore 4 = .ok (.getfield 56, 3) := by decide +kernel
theorem dX10_runMore_7 : decode cX10_runMore 7 = .ok (.iload_n 1, 1) := by decide +kernel
theorem dX10_runMore_8 : decode cX10_runMore 8 = .ok (.iaload, 1) := by decide +kernel
theorem dX10_runMore_9 : decode cX10_runMore 9 = .ok (.istore_n 3, 1) := by decide +kernel
theorem dX10_runMore_10 : decode cX10_runMore 10 = .ok (.aload_n 0, 1) := by decide +kernel
theorem dX10_runMore_11 : decode cX10_runMore 11 = .ok (.getfield 32, 3) := by decide +kernel
theorem dX10_runMore_14 : decode cX10_runMore 14 = .ok (.getfield 56, 3) := by decide +kernel
theorem dX10_runMore_17 : decode cX10_runMore 17 = .ok (.iload_n 1, 1) := by decide +kernel
theorem dX10_runMore_18 : decode cX10_runMore 18 = .ok (.iload_n 3, 1) := by decide +kernel
theorem dX10_runMore_19 : decode cX10_runMore 19 = .ok (.iload_n 2, 1) := by decide +kernel
theorem dX10_runMore_20 : decode cX10_runMore 20 = .ok (.iadd, 1) := by decide +kernel
theorem dX10_runMore_21 : decode cX10_runMore 21 = .ok (.iastore, 1) := by decide +kernel
theorem dX10_runMore_22 : decode cX10_runMore 22 = .ok (.aload_n 0, 1) := by decide +kernel
theorem dX10_runMore_23 : decode cX10_runMore 23 = .ok (.getfield 22, 3) := by decide +kernel
theorem dX10_runMore_26 : decode cX10_runMore 26 = .ok (.iload_n 1, 1) := by decide +kernel
theorem tw_323 : (Jvm.Cond.fieldLinkNest "MarshBells$Trials" (61 : Nat) "MarshBells$Day" "wide" "I" "MarshBells") ∈ lw_tbl := tk_2 (List.mem_of_getElem? (i := 83) rfl)
theorem fl_X10_61 : kFN RX10 61 1 10 9 := ⟨RX1, TX1, rfl, by decide, inWX1, tw_323⟩
theorem ft_X1_9 : kFT 1 9 .int false RX1 := ⟨RX1, TX1, 10, tyX1, rfl, tyX1_ok, nmX1, rfl, by decide +kernel, rfl⟩
theorem dX10_runMore_27 : decode cX10_runMore 27 = .ok (.putfield 61, 3) := by decide +kernel
theorem dX10_runMore_30 : decode cX10_runMore 30 = .ok (.aload_n 0, 1) := by decide +kernel
theorem dX10_runMore_31 : decode cX10_runMore 31 = .ok (.getfield 22, 3) := by decide +kernel
theorem dX10_runMore_34 : decode cX10_runMore 34 = .ok (.iload_n 1, 1) := by decide +kernel
theorem dX10_runMore_35 : decode cX10_runMore 35 = .ok (.invokevirtual 43, 3) := by decide +kernel
theorem dX10_runMore_38 : decode cX10_runMore 38 = .ok (.aload_n 0, 1) := by decide +kernel
theorem dX10_runMore_39 : decode cX10_runMore 39 = .ok (.getfield 22, 3) := by decide +kernel
theorem dX10_runMore_42 : decode cX10_runMore 42 = .ok (.iconst (-1), 1) := by decide +kernel
theorem dX10_runMore_43 : decode cX10_runMore 43 = .ok (.putfield 61, 3) := by decide +kernel
theorem dX10_runMore_46 : decode cX10_runMore 46 = .ok (.aload_n 0, 1) := by decide +kernel
theorem dX10_runMore_47 : decode cX10_runMore 47 = .ok (.getfield 32, 3) := by decide +kernel
theorem dX10_runMore_50 : decode cX10_runMore 50 = .ok (.getfield 56, 3) := by decide +kernel
theorem dX10_runMore_53 : decode cX10_runMore 53 = .ok (.iload_n 1, 1) := by decide +kernel
theorem dX10_runMore_54 : decode cX10_runMore 54 = .ok (.iload_n 3, 1) := by decide +kernel
theorem dX10_runMore_55 : decode cX10_runMore 55 = .ok (.iastore, 1) := by decide +kernel
theorem dX10_runMore_56 : decode cX10_runMore 56 = .ok (.return_, 1) := by decide +kernel
theorem tw_315 : (Jvm.Cond.fieldLinkNest "MarshBells$Trials" (33 : Nat) "MarshBells$Day" "plan" "LMarshBells$Plan;" "MarshBells") ∈ lw_tbl := tk_2 (List.mem_of_getElem? (i := 75) rfl)
theorem fl_X10_33 : kFN RX10 33 1 10 7 := ⟨RX1, TX1, rfl, by decide, inWX1, tw_315⟩
theorem tw_163 : (Jvm.Cond.fieldLinkNest "MarshBells$Trials" (37 : Nat) "MarshBells$Plan" "lessonCount" "I" "MarshBells") ∈ lw_tbl := tk_1 (List.mem_of_getElem? (i := 163) rfl)
theorem fl_X10_37 : kFN RX10 37 7 5 2 := ⟨RX7, TX7, rfl, by decide, inWX7, tw_163⟩
theorem dX10_lessonCount_0 : decode cX10_lessonCount 0 = .ok (.aload_n 0, 1) := by decide +kernel
theorem dX10_lessonCount_1 : decode cX10_lessonCount 1 = .ok (.getfield 22, 3) := by decide +kernel
theorem dX10_lessonCount_4 : decode cX10_lessonCount 4 = .ok (.getfield 33, 3) := by decide +kernel
theorem dX10_lessonCount_7 : decode cX10_lessonCount 7 = .ok (.getfield 37, 3) := by decide +kernel
theorem dX10_lessonCount_10 : decode cX10_lessonCount 10 = .ok (.ireturn, 1) := by decide +kernel
theorem dX10_laterBits_0 : decode cX10_laterBits 0 = .ok (.iconst 0, 1) := by decide +kernel
theorem dX10_laterBits_1 : decode cX10_laterBits 1 = .ok (.istore_n 1, 1) := by decide +kernel
theorem dX10_laterBits_2 : decode cX10_laterBits 2 = .ok (.iconst 0, 1) := by decide +kernel
theorem dX10_laterBits_3 : decode cX10_laterBits 3 = .ok (.istore_n 2, 1) := by decide +kernel
theorem dX10_laterBits_4 : decode cX10_laterBits 4 = .ok (.iload_n 2, 1) := by decide +kernel
theorem dX10_laterBits_5 : decode cX10_laterBits 5 = .ok (.aload_n 0, 1) := by decide +kernel
theorem tw_596 : (Jvm.Cond.methodLink "MarshBells$Trials" (64 : Nat) ({ cls := "MarshBells$Trials", name := "lessonCount", desc := "()I" } : Jvm.MethodName)) ∈ lw_tbl := tk_3 (List.mem_of_getElem? (i := 116) rfl)
theorem tw_8 : (Jvm.Cond.initialized "MarshBells$Trials") ∈ lw_tbl := tk_1 (List.mem_of_getElem? (i := 8) rfl)
theorem tw_599 : (Jvm.Cond.code ({ cls := "MarshBells$Trials", name := "lessonCount", desc := "()I" } : Jvm.MethodName) prog_12_method_2_code (1 : Nat) (Option.some Jvm.ClassFile.FieldType.int)) ∈ lw_tbl := tk_3 (List.mem_of_getElem? (i := 119) rfl)
theorem tw_598 : (Jvm.Cond.instanceMethod ({ cls := "MarshBells$Trials", name := "lessonCount", desc := "()I" } : Jvm.MethodName)) ∈ lw_tbl := tk_3 (List.mem_of_getElem? (i := 118) rfl)
theorem se_X10_lessonCount : Cond.selects RX10 yX10_lessonCount yX10_lessonCount ∈ lw_tbl := List.mem_append_left _ (List.mem_of_getElem? (i := 9) rfl)
theorem li_X10_64 : kLV RX10 64 RX10 yX10_lessonCount cX10_lessonCount 1 (some .int) 0 := ⟨tw_596, tw_598, se_X10_lessonCount, tw_599, tw_8, by decide +kernel⟩
theorem dX10_laterBits_6 : decode cX10_laterBits 6 = .ok (.invokevirtual 64, 3) := by decide +kernel
theorem dX10_laterBits_9 : decode cX10_laterBits 9 = .ok (.if_icmp .ge 33, 3) := by decide +kernel
theorem dX10_laterBits_42 : decode cX10_laterBits 42 = .ok (.iload_n 1, 1) := by decide +kernel
theorem dX10_laterBits_43 : decode cX10_laterBits 43 = .ok (.ireturn, 1) := by decide +kernel
theorem dX10_laterBits_12 : decode cX10_laterBits 12 = .ok (.aload_n 0, 1) := by decide +kernel
theorem dX10_laterBits_13 : decode cX10_laterBits 13 = .ok (.getfield 22, 3) := by decide +kernel
theorem dX10_laterBits_16 : decode cX10_laterBits 16 = .ok (.getfield 47, 3) := by decide +kernel
theorem dX10_laterBits_19 : decode cX10_laterBits 19 = .ok (.iload_n 2, 1) := by decide +kernel
theorem dX10_laterBits_20 : decode cX10_laterBits 20 = .ok (.iaload, 1) := by decide +kernel
theorem dX10_laterBits_21 : decode cX10_laterBits 21 = .ok (.aload_n 0, 1) := by decide +kernel
theorem dX10_laterBits_22 : decode cX10_laterBits 22 = .ok (.getfield 18, 3) := by decide +kernel
theorem dX10_laterBits_25 : decode cX10_laterBits 25 = .ok (.iload_n 2, 1) := by decide +kernel
theorem dX10_laterBits_26 : decode cX10_laterBits 26 = .ok (.iaload, 1) := by decide +kernel
theorem dX10_laterBits_36 : decode cX10_laterBits 36 = .ok (.iinc 2 1, 3) := by decide +kernel
theorem dX10_laterBits_39 : decode cX10_laterBits 39 = .ok (.goto (-35), 3) := by decide +kernel
theorem dX10_laterBits_27 : decode cX10_laterBits 27 = .ok (.if_icmp .le 9, 3) := by decide +kernel
theorem dX10_laterBits_30 : decode cX10_laterBits 30 = .ok (.iload_n 1, 1) := by decide +kernel
theorem dX10_laterBits_31 : decode cX10_laterBits 31 = .ok (.iconst 1, 1) := by decide +kernel
theorem dX10_laterBits_32 : decode cX10_laterBits 32 = .ok (.iload_n 2, 1) := by decide +kernel
theorem dX10_laterBits_33 : decode cX10_laterBits 33 = .ok (.ishl, 1) := by decide +kernel
theorem dX10_laterBits_34 : decode cX10_laterBits 34 = .ok (.ior, 1) := by decide +kernel
theorem dX10_laterBits_35 : decode cX10_laterBits 35 = .ok (.istore_n 1, 1) := by decide +kernel
theorem dX10_laterMinutes_0 : decode cX10_laterMinutes 0 = .ok (.iconst 0, 1) := by decide +kernel
theorem dX10_laterMinutes_1 : decode cX10_laterMinutes 1 = .ok (.istore_n 1, 1) := by decide +kernel
theorem dX10_laterMinutes_2 : decode cX10_laterMinutes 2 = .ok (.iconst 0, 1) := by decide +kernel
theorem dX10_laterMinutes_3 : decode cX10_laterMinutes 3 = .ok (.istore_n 2, 1) := by decide +kernel
theorem dX10_laterMinutes_4 : decode cX10_laterMinutes 4 = .ok (.iload_n 2, 1) := by decide +kernel
theorem dX10_laterMinutes_5 : decode cX10_laterMinutes 5 = .ok (.aload_n 0, 1) := by decide +kernel
theorem dX10_laterMinutes_6 : decode cX10_laterMinutes 6 = .ok (.invokevirtual 64, 3) := by decide +kernel
theorem dX10_laterMinutes_9 : decode cX10_laterMinutes 9 = .ok (.if_icmp .ge 28, 3) := by decide +kernel
theorem dX10_laterMinutes_37 : decode cX10_laterMinutes 37 = .ok (.iload_n 1, 1) := by decide +kernel
theorem dX10_laterMinutes_38 : decode cX10_laterMinutes 38 = .ok (.ireturn, 1) := by decide +kernel
theorem dX10_laterMinutes_12 : decode cX10_laterMinutes 12 = .ok (.iload_n 1, 1) := by decide +kernel
theorem dX10_laterMinutes_13 : decode cX10_laterMinutes 13 = .ok (.aload_n 0, 1) := by decide +kernel
theorem dX10_laterMinutes_14 : decode cX10_laterMinutes 14 = .ok (.getfield 22, 3) := by decide +kernel
theorem dX10_laterMinutes_17 : decode cX10_laterMinutes 17 = .ok (.getfield 47, 3) := by decide +kernel
theorem dX10_laterMinutes_20 : decode cX10_laterMinutes 20 = .ok (.iload_n 2, 1) := by decide +kernel
theorem dX10_laterMinutes_21 : decode cX10_laterMinutes 21 = .ok (.iaload, 1) := by decide +kernel
theorem dX10_laterMinutes_22 : decode cX10_laterMinutes 22 = .ok (.aload_n 0, 1) := by decide +kernel
theorem dX10_laterMinutes_23 : decode cX10_laterMinutes 23 = .ok (.getfield 18, 3) := by decide +kernel
theorem dX10_laterMinutes_26 : decode cX10_laterMinutes 26 = .ok (.iload_n 2, 1) := by decide +kernel
theorem dX10_laterMinutes_27 : decode cX10_laterMinutes 27 = .ok (.iaload, 1) := by decide +kernel
theorem dX10_laterMinutes_28 : decode cX10_laterMinutes 28 = .ok (.isub, 1) := by decide +kernel
theorem dX10_laterMinutes_29 : decode cX10_laterMinutes 29 = .ok (.iadd, 1) := by decide +kernel
theorem dX10_laterMinutes_30 : decode cX10_laterMinutes 30 = .ok (.istore_n 1, 1) := by decide +kernel
theorem dX10_laterMinutes_31 : decode cX10_laterMinutes 31 = .ok (.iinc 2 1, 3) := by decide +kernel
theorem dX10_laterMinutes_34 : decode cX10_laterMinutes 34 = .ok (.goto (-30), 3) := by decide +kernel
theorem dX10_leastThatReaches_0 : decode cX10_leastThatReaches 0 = .ok (.aload_n 0, 1) := by decide +kernel
theorem tw_1112 : (Jvm.Cond.methodLink "MarshBells$Trials" (67 : Nat) ({ cls := "MarshBells$Trials", name := "keepEnds", desc := "()V" } : Jvm.MethodName)) ∈ lw_tbl := tk_5 (List.mem_of_getElem? (i := 152) rfl)
theorem tw_1086 : (Jvm.Cond.code ({ cls := "MarshBells$Trials", name := "keepEnds", desc := "()V" } : Jvm.MethodName) prog_12_method_3_code (1 : Nat) (Option.none : Option Jvm.ClassFile.FieldType)) ∈ lw_tbl := tk_5 (List.mem_of_getElem? (i := 126) rfl)
theorem tw_1085 : (Jvm.Cond.instanceMethod ({ cls := "MarshBells$Trials", name := "keepEnds", desc := "()V" } : Jvm.MethodName)) ∈ lw_tbl := tk_5 (List.mem_of_getElem? (i := 125) rfl)
theorem se_X10_keepEnds : Cond.selects RX10 yX10_keepEnds yX10_keepEnds ∈ lw_tbl := List.mem_append_left _ (List.mem_of_getElem? (i := 69) rfl)
theorem li_X10_67 : kLV RX10 67 RX10 yX10_keepEnds cX10_keepEnds 1 none 0 := ⟨tw_1112, tw_1085, se_X10_keepEnds, tw_1086, tw_8, by decide +kernel⟩
theorem dX10_leastThatReaches_1 : decode cX10_leastThatReaches 1 = .ok (.invokevirtual 67, 3) := by decide +kernel
theorem dX10_leastThatReaches_4 : decode cX10_leastThatReaches 4 = .ok (.iconst 1, 1) := by decide +kernel
theorem dX10_leastThatReaches_5 : decode cX10_leastThatReaches 5 = .ok (.istore_n 3, 1) := by decide +kernel
theorem dX10_leastThatReaches_6 : decode cX10_leastThatReaches 6 = .ok (.iload_n 3, 1) := by decide +kernel
theorem dX10_leastThatReaches_7 : decode cX10_leastThatReaches 7 = .ok (.bipush 120, 2) := by decide +kernel
theorem dX10_leastThatReaches_9 : decode cX10_leastThatReaches 9 = .ok (.if_icmp .gt 35, 3) := by decide +kernel
theorem dX10_leastThatReaches_44 : decode cX10_leastThatReaches 44 = .ok (.iconst (-1), 1) := by decide +kernel
theorem dX10_leastThatReaches_45 : decode cX10_leastThatReaches 45 = .ok (.ireturn, 1) := by decide +kernel
theorem dX10_leastThatReaches_12 : decode cX10_leastThatReaches 12 = .ok (.aload_n 0, 1) := by decide +kernel
theorem dX10_leastThatReaches_13 : decode cX10_leastThatReaches 13 = .ok (.iload_n 1, 1) := by decide +kernel
theorem dX10_leastThatReaches_14 : decode cX10_leastThatReaches 14 = .ok (.iload_n 3, 1) := by decide +kernel
theorem tw_1113 : (Jvm.Cond.methodLink "MarshBells$Trials" (70 : Nat) ({ cls := "MarshBells$Trials", name := "runMore", desc := "(II)V" } : Jvm.MethodName)) ∈ lw_tbl := tk_5 (List.mem_of_getElem? (i := 153) rfl)
theorem tw_1092 : (Jvm.Cond.code ({ cls := "MarshBells$Trials", name := "runMore", desc := "(II)V" } : Jvm.MethodName) prog_12_method_4_code (4 : Nat) (Option.none : Option Jvm.ClassFile.FieldType)) ∈ lw_tbl := tk_5 (List.mem_of_getElem? (i := 132) rfl)
theorem tw_1091 : (Jvm.Cond.instanceMethod ({ cls := "MarshBells$Trials", name := "runMore", desc := "(II)V" } : Jvm.MethodName)) ∈ lw_tbl := tk_5 (List.mem_of_getElem? (i := 131) rfl)
theorem se_X10_runMore : Cond.selects RX10 yX10_runMore yX10_runMore ∈ lw_tbl := List.mem_append_left _ (List.mem_of_getElem? (i := 70) rfl)
theorem li_X10_70 : kLV RX10 70 RX10 yX10_runMore cX10_runMore 4 none 2 := ⟨tw_1113, tw_1091, se_X10_runMore, tw_1092, tw_8, by decide +kernel⟩
theorem dX10_leastThatReaches_15 : decode cX10_leastThatReaches 15 = .ok (.invokevirtual 70, 3) := by decide +kernel
theorem dX10_leastThatReaches_18 : decode cX10_leastThatReaches 18 = .ok (.aload_n 0, 1) := by decide +kernel
theorem dX10_leastThatReaches_19 : decode cX10_leastThatReaches 19 = .ok (.getfield 22, 3) := by decide +kernel
theorem dX10_leastThatReaches_22 : decode cX10_leastThatReaches 22 = .ok (.getfield 47, 3) := by decide +kernel
theorem dX10_leastThatReaches_25 : decode cX10_leastThatReaches 25 = .ok (.iload_n 2, 1) := by decide +kernel
theorem dX10_leastThatReaches_26 : decode cX10_leastThatReaches 26 = .ok (.iaload, 1) := by decide +kernel
theorem dX10_leastThatReaches_27 : decode cX10_leastThatReaches 27 = .ok (.aload_n 0, 1) := by decide +kernel
theorem dX10_leastThatReaches_28 : decode cX10_leastThatReaches 28 = .ok (.getfield 18, 3) := by decide +kernel
theorem dX10_leastThatReaches_31 : decode cX10_leastThatReaches 31 = .ok (.iload_n 2, 1) := by decide +kernel
theorem dX10_leastThatReaches_32 : decode cX10_leastThatReaches 32 = .ok (.iaload, 1) := by decide +kernel
theorem dX10_leastThatReaches_33 : decode cX10_leastThatReaches 33 = .ok (.if_icmp .le 5, 3) := by decide +kernel
theorem dX10_leastThatReaches_38 : decode cX10_leastThatReaches 38 = .ok (.iinc 3 1, 3) := by decide +kernel
theorem dX10_leastThatReaches_41 : decode cX10_leastThatReaches 41 = .ok (.goto (-35), 3) := by decide +kernel
theorem dX10_leastThatReaches_36 : decode cX10_leastThatReaches 36 = .ok (.iload_n 3, 1) := by decide +kernel
theorem dX10_leastThatReaches_37 : decode cX10_leastThatReaches 37 = .ok (.ireturn, 1) := by decide +kernel
theorem dX10_mostThatDies_0 : decode cX10_mostThatDies 0 = .ok (.aload_n 0, 1) := by decide +kernel
theorem dX10_mostThatDies_1 : decode cX10_mostThatDies 1 = .ok (.invokevirtual 67, 3) := by decide +kernel
theorem dX10_mostThatDies_4 : decode cX10_mostThatDies 4 = .ok (.bipush 120, 2) := by decide +kernel
theorem dX10_mostThatDies_6 : decode cX10_mostThatDies 6 = .ok (.istore_n 2, 1) := by decide +kernel
theorem dX10_mostThatDies_7 : decode cX10_mostThatDies 7 = .ok (.iload_n 2, 1) := by decide +kernel
theorem dX10_mostThatDies_8 : decode cX10_mostThatDies 8 = .ok (.ifCond .le 30, 3) := by decide +kernel
theorem dX10_mostThatDies_38 : decode cX10_mostThatDies 38 = .ok (.iconst 0, 1) := by decide +kernel
theorem dX10_mostThatDies_39 : decode cX10_mostThatDies 39 = .ok (.ireturn, 1) := by decide +kernel
theorem dX10_mostThatDies_11 : decode cX10_mostThatDies 11 = .ok (.aload_n 0, 1) := by decide +kernel
theorem dX10_mostThatDies_12 : decode cX10_mostThatDies 12 = .ok (.iload_n 1, 1) := by decide +kernel
theorem dX10_mostThatDies_13 : decode cX10_mostThatDies 13 = .ok (.iload_n 2, 1) := by decide +kernel
theorem dX10_mostThatDies_14 : decode cX10_mostThatDies 14 = .ok (.invokevirtual 70, 3) := by decide +kernel
theorem dX10_mostThatDies_17 : decode cX10_mostThatDies 17 = .ok (.aload_n 0, 1) := by decide +kernel
theorem tw_1125 : (Jvm.Cond.methodLink "MarshBells$Trials" (74 : Nat) ({ cls := "MarshBells$Trials", name := "laterBits", desc := "()I" } : Jvm.MethodName)) ∈ lw_tbl := tk_5 (List.mem_of_getElem? (i := 165) rfl)
theorem tw_1096 : (Jvm.Cond.code ({ cls := "MarshBells$Trials", name := "laterBits", desc := "()I" } : Jvm.MethodName) prog_12_method_5_code (3 : Nat) (Option.some Jvm.ClassFile.FieldType.int)) ∈ lw_tbl := tk_5 (List.mem_of_getElem? (i := 136) rfl)
theorem tw_1095 : (Jvm.Cond.instanceMethod ({ cls := "MarshBells$Trials", name := "laterBits", desc := "()I" } : Jvm.MethodName)) ∈ lw_tbl := tk_5 (List.mem_of_getElem? (i := 135) rfl)
theorem se_X10_laterBits : Cond.selects RX10 yX10_laterBits yX10_laterBits ∈ lw_tbl := List.mem_append_left _ (List.mem_of_getElem? (i := 71) rfl)
theorem li_X10_74 : kLV RX10 74 RX10 yX10_laterBits cX10_laterBits 3 (some .int) 0 := ⟨tw_1125, tw_1095, se_X10_laterBits, tw_1096, tw_8, by decide +kernel⟩
theorem dX10_mostThatDies_18 : decode cX10_mostThatDies 18 = .ok (.invokevirtual 74, 3) := by decide +kernel
theorem dX10_mostThatDies_21 : decode cX10_mostThatDies 21 = .ok (.iconst 1, 1) := by decide +kernel
theorem dX10_mostThatDies_22 : decode cX10_mostThatDies 22 = .ok (.iload_n 1, 1) := by decide +kernel
theorem dX10_mostThatDies_23 : decode cX10_mostThatDies 23 = .ok (.ishl, 1) := by decide +kernel
theorem dX10_mostThatDies_24 : decode cX10_mostThatDies 24 = .ok (.iconst (-1), 1) := by decide +kernel
theorem dX10_mostThatDies_25 : decode cX10_mostThatDies 25 = .ok (.ixor, 1) := by decide +kernel
theorem dX10_mostThatDies_26 : decode cX10_mostThatDies 26 = .ok (.iand, 1) := by decide +kernel
theorem dX10_mostThatDies_27 : decode cX10_mostThatDies 27 = .ok (.ifCond .ne 5, 3) := by decide +kernel
theorem dX10_mostThatDies_32 : decode cX10_mostThatDies 32 = .ok (.iinc 2 (-1), 3) := by decide +kernel
theorem dX10_mostThatDies_35 : decode cX10_mostThatDies 35 = .ok (.goto (-28), 3) := by decide +kernel
theorem dX10_mostThatDies_30 : decode cX10_mostThatDies 30 = .ok (.iload_n 2, 1) := by decide +kernel
theorem dX10_mostThatDies_31 : decode cX10_mostThatDies 31 = .ok (.ireturn, 1) := by decide +kernel
theorem tw_371 : (Jvm.Cond.fieldLink "MarshBells$Trials" (12 : Nat) "MarshBells$Trials" "least" "LMarshBells$Least;") ∈ lw_tbl := tk_2 (List.mem_of_getElem? (i := 131) rfl)
theorem fl_X10_12 : kFL RX10 12 10 7 2 := ⟨RX10, TX10, rfl, by decide, inWX10, tw_371⟩
theorem dX4_clear_0 : decode cX4_clear 0 = .ok (.aload_n 0, 1) := by decide +kernel
theorem dX4_clear_1 : decode cX4_clear 1 = .ok (.iconst 0, 1) := by decide +kernel
theorem tw_362 : (Jvm.Cond.lays "MarshBells$Least" "MarshBells$Least" "any" "Z") ∈ lw_tbl := tk_2 (List.mem_of_getElem? (i := 122) rfl)
theorem tw_364 : (Jvm.Cond.lays "MarshBells$Least" "MarshBells$Least" "offered" "I") ∈ lw_tbl := tk_2 (List.mem_of_getElem? (i := 124) rfl)
theorem tw_366 : (Jvm.Cond.lays "MarshBells$Least" "MarshBells$Least" "lost" "I") ∈ lw_tbl := tk_2 (List.mem_of_getElem? (i := 126) rfl)
theorem inWX4 : ∀ w ∈ u_ws RX4 TX4 3, w ∈ lw_tbl := by
  have e : ∀ k, k < 3 → u_lay RX4 TX4 k ∈ lw_tbl := fun k hk => match k, hk with | 0, _ => tw_362 | 1, _ => tw_364 | 2, _ => tw_366 | k + 3, hk => absurd hk (by omega)
  intro w h
  obtain ⟨k, hk, rfl⟩ := List.mem_map.mp h
  exact e k (List.mem_range.mp hk)
theorem tw_357 : (Jvm.Cond.fieldLink "MarshBells$Least" (9 : Nat) "MarshBells$Least" "any" "Z") ∈ lw_tbl := tk_2 (List.mem_of_getElem? (i := 117) rfl)
theorem fl_X4_9 : kFL RX4 9 4 3 0 := ⟨RX4, TX4, rfl, by decide, inWX4, tw_357⟩
theorem ft_X4_0 : kFT 4 0 .boolean false RX4 := ⟨RX4, TX4, 3, tyX4, rfl, tyX4_ok, nmX4, rfl, by decide +kernel, rfl⟩
theorem dX4_clear_2 : decode cX4_clear 2 = .ok (.putfield 9, 3) := by decide +kernel
theorem dX4_clear_5 : decode cX4_clear 5 = .ok (.return_, 1) := by decide +kernel
theorem tw_358 : (Jvm.Cond.fieldLinkNest "MarshBells$Trials" (90 : Nat) "MarshBells$Least" "any" "Z" "MarshBells") ∈ lw_tbl := tk_2 (List.mem_of_getElem? (i := 118) rfl)
theorem fl_X10_90 : kFN RX10 90 4 3 0 := ⟨RX4, TX4, rfl, by decide, inWX4, tw_358⟩
theorem tw_361 : (Jvm.Cond.fieldLinkNest "MarshBells$Trials" (94 : Nat) "MarshBells$Least" "lost" "I" "MarshBells") ∈ lw_tbl := tk_2 (List.mem_of_getElem? (i := 121) rfl)
theorem fl_X10_94 : kFN RX10 94 4 3 2 := ⟨RX4, TX4, rfl, by decide, inWX4, tw_361⟩
theorem dX10_exchange_0 : decode cX10_exchange 0 = .ok (.aload_n 0, 1) := by decide +kernel
theorem dX10_exchange_1 : decode cX10_exchange 1 = .ok (.getfield 32, 3) := by decide +kernel
theorem dX10_exchange_4 : decode cX10_exchange 4 = .ok (.getfield 56, 3) := by decide +kernel
theorem dX10_exchange_7 : decode cX10_exchange 7 = .ok (.iload_n 1, 1) := by decide +kernel
theorem dX10_exchange_8 : decode cX10_exchange 8 = .ok (.iaload, 1) := by decide +kernel
theorem dX10_exchange_9 : decode cX10_exchange 9 = .ok (.istore_n 3, 1) := by decide +kernel
theorem dX10_exchange_10 : decode cX10_exchange 10 = .ok (.aload_n 0, 1) := by decide +kernel
theorem dX10_exchange_11 : decode cX10_exchange 11 = .ok (.getfield 32, 3) := by decide +kernel
theorem dX10_exchange_14 : decode cX10_exchange 14 = .ok (.getfield 56, 3) := by decide +kernel
theorem dX10_exchange_17 : decode cX10_exchange 17 = .ok (.iload_n 1, 1) := by decide +kernel
theorem dX10_exchange_18 : decode cX10_exchange 18 = .ok (.aload_n 0, 1) := by decide +kernel
theorem dX10_exchange_19 : decode cX10_exchange 19 = .ok (.getfield 32, 3) := by decide +kernel
theorem dX10_exchange_22 : decode cX10_exchange 22 = .ok (.getfield 56, 3) := by decide +kernel
theorem dX10_exchange_25 : decode cX10_exchange 25 = .ok (.iload_n 2, 1) := by decide +kernel
theorem dX10_exchange_26 : decode cX10_exchange 26 = .ok (.iaload, 1) := by decide +kernel
theorem dX10_exchange_27 : decode cX10_exchange 27 = .ok (.iastore, 1) := by decide +kernel
theorem dX10_exchange_28 : decode cX10_exchange 28 = .ok (.aload_n 0, 1) := by decide +kernel
theorem dX10_exchange_29 : decode cX10_exchange 29 = .ok (.getfield 32, 3) := by decide +kernel
theorem dX10_exchange_32 : decode cX10_exchange 32 = .ok (.getfield 56, 3) := by decide +kernel
theorem dX10_exchange_35 : decode cX10_exchange 35 = .ok (.iload_n 2, 1) := by decide +kernel
theorem dX10_exchange_36 : decode cX10_exchange 36 = .ok (.iload_n 3, 1) := by decide +kernel
theorem dX10_exchange_37 : decode cX10_exchange 37 = .ok (.iastore, 1) := by decide +kernel
theorem dX10_exchange_38 : decode cX10_exchange 38 = .ok (.return_, 1) := by decide +kernel
theorem tw_359 : (Jvm.Cond.fieldLink "MarshBells$Least" (19 : Nat) "MarshBells$Least" "offered" "I") ∈ lw_tbl := tk_2 (List.mem_of_getElem? (i := 119) rfl)
theorem fl_X4_19 : kFL RX4 19 4 3 1 := ⟨RX4, TX4, rfl, by decide, inWX4, tw_359⟩
theorem tw_360 : (Jvm.Cond.fieldLink "MarshBells$Least" (15 : Nat) "MarshBells$Least" "lost" "I") ∈ lw_tbl := tk_2 (List.mem_of_getElem? (i := 120) rfl)
theorem fl_X4_15 : kFL RX4 15 4 3 2 := ⟨RX4, TX4, rfl, by decide, inWX4, tw_360⟩
theorem dX4_told_0 : decode cX4_told 0 = .ok (.aload_n 0, 1) := by decide +kernel
theorem dX4_told_1 : decode cX4_told 1 = .ok (.getfield 9, 3) := by decide +kernel
theorem dX4_told_4 : decode cX4_told 4 = .ok (.ifCond .ne 5, 3) := by decide +kernel
theorem dX4_told_9 : decode cX4_told 9 = .ok (.iload_n 1, 1) := by decide +kernel
theorem dX4_told_24 : decode cX4_told 24 = .ok (.ireturn, 1) := by decide +kernel
theorem dX4_told_10 : decode cX4_told 10 = .ok (.ifCond .ne 10, 3) := by decide +kernel
theorem dX4_told_20 : decode cX4_told 20 = .ok (.aload_n 0, 1) := by decide +kernel
theorem dX4_told_21 : decode cX4_told 21 = .ok (.getfield 15, 3) := by decide +kernel
theorem dX4_told_13 : decode cX4_told 13 = .ok (.aload_n 0, 1) := by decide +kernel
theorem dX4_told_14 : decode cX4_told 14 = .ok (.getfield 19, 3) := by decide +kernel
theorem dX4_told_17 : decode cX4_told 17 = .ok (.goto 7, 3) := by decide +kernel
theorem dX4_told_7 : decode cX4_told 7 = .ok (.iconst (-1), 1) := by decide +kernel
theorem dX4_told_8 : decode cX4_told 8 = .ok (.ireturn, 1) := by decide +kernel
theorem dX4_offer_0 : decode cX4_offer 0 = .ok (.aload_n 0, 1) := by decide +kernel
theorem dX4_offer_1 : decode cX4_offer 1 = .ok (.getfield 9, 3) := by decide +kernel
theorem dX4_offer_46 : decode cX4_offer 46 = .ok (.return_, 1) := by decide +kernel
theorem dX4_offer_31 : decode cX4_offer 31 = .ok (.aload_n 0, 1) := by decide +kernel
theorem dX4_offer_32 : decode cX4_offer 32 = .ok (.iconst 1, 1) := by decide +kernel
theorem dX4_offer_33 : decode cX4_offer 33 = .ok (.putfield 9, 3) := by decide +kernel
theorem dX4_offer_36 : decode cX4_offer 36 = .ok (.aload_n 0, 1) := by decide +kernel
theorem dX4_offer_37 : decode cX4_offer 37 = .ok (.iload_n 1, 1) := by decide +kernel
theorem ft_X4_1 : kFT 4 1 .int false RX4 := ⟨RX4, TX4, 3, tyX4, rfl, tyX4_ok, nmX4, rfl, by decide +kernel, rfl⟩
theorem dX4_offer_38 : decode cX4_offer 38 = .ok (.putfield 19, 3) := by decide +kernel
theorem dX4_offer_41 : decode cX4_offer 41 = .ok (.aload_n 0, 1) := by decide +kernel
theorem dX4_offer_42 : decode cX4_offer 42 = .ok (.iload_n 2, 1) := by decide +kernel
theorem ft_X4_2 : kFT 4 2 .int false RX4 := ⟨RX4, TX4, 3, tyX4, rfl, tyX4_ok, nmX4, rfl, by decide +kernel, rfl⟩
theorem dX4_offer_43 : decode cX4_offer 43 = .ok (.putfield 15, 3) := by decide +kernel
theorem dX4_offer_4 : decode cX4_offer 4 = .ok (.ifCond .eq 27, 3) := by decide +kernel
theorem dX4_offer_7 : decode cX4_offer 7 = .ok (.iload_n 2, 1) := by decide +kernel
theorem dX4_offer_8 : decode cX4_offer 8 = .ok (.aload_n 0, 1) := by decide +kernel
theorem dX4_offer_9 : decode cX4_offer 9 = .ok (.getfield 15, 3) := by decide +kernel
theorem dX4_offer_12 : decode cX4_offer 12 = .ok (.if_icmp .lt 19, 3) := by decide +kernel
theorem dX4_offer_15 : decode cX4_offer 15 = .ok (.iload_n 2, 1) := by decide +kernel
theorem dX4_offer_16 : decode cX4_offer 16 = .ok (.aload_n 0, 1) := by decide +kernel
theorem dX4_offer_17 : decode cX4_offer 17 = .ok (.getfield 15, 3) := by decide +kernel
theorem dX4_offer_20 : decode cX4_offer 20 = .ok (.if_icmp .ne 26, 3) := by decide +kernel
theorem dX4_offer_23 : decode cX4_offer 23 = .ok (.iload_n 1, 1) := by decide +kernel
theorem dX4_offer_24 : decode cX4_offer 24 = .ok (.aload_n 0, 1) := by decide +kernel
theorem dX4_offer_25 : decode cX4_offer 25 = .ok (.getfield 19, 3) := by decide +kernel
theorem dX4_offer_28 : decode cX4_offer 28 = .ok (.if_icmp .ge 18, 3) := by decide +kernel
theorem dX10_swapped_0 : decode cX10_swapped 0 = .ok (.aload_n 0, 1) := by decide +kernel
theorem dX10_swapped_1 : decode cX10_swapped 1 = .ok (.getfield 22, 3) := by decide +kernel
theorem dX10_swapped_4 : decode cX10_swapped 4 = .ok (.iconst 0, 1) := by decide +kernel
theorem tw_604 : (Jvm.Cond.methodLinkNest "MarshBells$Trials" (77 : Nat) ({ cls := "MarshBells$Day", name := "lostFrom", desc := "(I)I" } : Jvm.MethodName) "MarshBells") ∈ lw_tbl := tk_3 (List.mem_of_getElem? (i := 124) rfl)
theorem tw_607 : (Jvm.Cond.code ({ cls := "MarshBells$Day", name := "lostFrom", desc := "(I)I" } : Jvm.MethodName) prog_3_method_3_code (3 : Nat) (Option.some Jvm.ClassFile.FieldType.int)) ∈ lw_tbl := tk_3 (List.mem_of_getElem? (i := 127) rfl)
theorem tw_606 : (Jvm.Cond.instanceMethod ({ cls := "MarshBells$Day", name := "lostFrom", desc := "(I)I" } : Jvm.MethodName)) ∈ lw_tbl := tk_3 (List.mem_of_getElem? (i := 126) rfl)
theorem se_X1_lostFrom : Cond.selects RX1 yX1_lostFrom yX1_lostFrom ∈ lw_tbl := List.mem_append_left _ (List.mem_of_getElem? (i := 11) rfl)
theorem li_X10_77 : kLN RX10 77 RX1 yX1_lostFrom "MarshBells" cX1_lostFrom 3 (some .int) 1 := ⟨tw_604, tw_606, se_X1_lostFrom, tw_607, tw_7, by decide +kernel⟩
theorem dX10_swapped_5 : decode cX10_swapped 5 = .ok (.invokevirtual 77, 3) := by decide +kernel
theorem dX10_swapped_8 : decode cX10_swapped 8 = .ok (.istore_n 2, 1) := by decide +kernel
theorem dX10_swapped_9 : decode cX10_swapped 9 = .ok (.aload_n 0, 1) := by decide +kernel
theorem dX10_swapped_10 : decode cX10_swapped 10 = .ok (.getfield 12, 3) := by decide +kernel
theorem tw_592 : (Jvm.Cond.methodLinkNest "MarshBells$Trials" (81 : Nat) ({ cls := "MarshBells$Least", name := "clear", desc := "()V" } : Jvm.MethodName) "MarshBells") ∈ lw_tbl := tk_3 (List.mem_of_getElem? (i := 112) rfl)
theorem tw_9 : (Jvm.Cond.initialized "MarshBells$Least") ∈ lw_tbl := tk_1 (List.mem_of_getElem? (i := 9) rfl)
theorem tw_595 : (Jvm.Cond.code ({ cls := "MarshBells$Least", name := "clear", desc := "()V" } : Jvm.MethodName) prog_6_method_2_code (1 : Nat) (Option.none : Option Jvm.ClassFile.FieldType)) ∈ lw_tbl := tk_3 (List.mem_of_getElem? (i := 115) rfl)
theorem tw_594 : (Jvm.Cond.instanceMethod ({ cls := "MarshBells$Least", name := "clear", desc := "()V" } : Jvm.MethodName)) ∈ lw_tbl := tk_3 (List.mem_of_getElem? (i := 114) rfl)
theorem se_X4_clear : Cond.selects RX4 yX4_clear yX4_clear ∈ lw_tbl := List.mem_append_left _ (List.mem_of_getElem? (i := 8) rfl)
theorem li_X10_81 : kLN RX10 81 RX4 yX4_clear "MarshBells" cX4_clear 1 none 0 := ⟨tw_592, tw_594, se_X4_clear, tw_595, tw_9, by decide +kernel⟩
theorem dX10_swapped_13 : decode cX10_swapped 13 = .ok (.invokevirtual 81, 3) := by decide +kernel
theorem dX10_swapped_16 : decode cX10_swapped 16 = .ok (.iconst 0, 1) := by decide +kernel
theorem dX10_swapped_17 : decode cX10_swapped 17 = .ok (.istore_n 3, 1) := by decide +kernel
theorem dX10_swapped_18 : decode cX10_swapped 18 = .ok (.iload_n 3, 1) := by decide +kernel
theorem dX10_swapped_19 : decode cX10_swapped 19 = .ok (.aload_n 0, 1) := by decide +kernel
theorem dX10_swapped_20 : decode cX10_swapped 20 = .ok (.invokevirtual 64, 3) := by decide +kernel
theorem dX10_swapped_23 : decode cX10_swapped 23 = .ok (.if_icmp .ge 65, 3) := by decide +kernel
theorem dX10_swapped_88 : decode cX10_swapped 88 = .ok (.aload_n 0, 1) := by decide +kernel
theorem dX10_swapped_89 : decode cX10_swapped 89 = .ok (.getfield 12, 3) := by decide +kernel
theorem dX10_swapped_92 : decode cX10_swapped 92 = .ok (.getfield 90, 3) := by decide +kernel
theorem dX10_swapped_121 : decode cX10_swapped 121 = .ok (.ireturn, 1) := by decide +kernel
theorem dX10_swapped_120 : decode cX10_swapped 120 = .ok (.iconst (-1), 1) := by decide +kernel
theorem dX10_swapped_95 : decode cX10_swapped 95 = .ok (.ifCond .eq 25, 3) := by decide +kernel
theorem dX10_swapped_98 : decode cX10_swapped 98 = .ok (.aload_n 0, 1) := by decide +kernel
theorem dX10_swapped_99 : decode cX10_swapped 99 = .ok (.getfield 12, 3) := by decide +kernel
theorem dX10_swapped_102 : decode cX10_swapped 102 = .ok (.getfield 94, 3) := by decide +kernel
theorem dX10_swapped_105 : decode cX10_swapped 105 = .ok (.iload_n 2, 1) := by decide +kernel
theorem dX10_swapped_106 : decode cX10_swapped 106 = .ok (.if_icmp .ge 14, 3) := by decide +kernel
theorem dX10_swapped_109 : decode cX10_swapped 109 = .ok (.aload_n 0, 1) := by decide +kernel
theorem dX10_swapped_110 : decode cX10_swapped 110 = .ok (.getfield 12, 3) := by decide +kernel
theorem dX10_swapped_113 : decode cX10_swapped 113 = .ok (.iload_n 1, 1) := by decide +kernel
theorem tw_664 : (Jvm.Cond.methodLinkNest "MarshBells$Trials" (97 : Nat) ({ cls := "MarshBells$Least", name := "told", desc := "(I)I" } : Jvm.MethodName) "MarshBells") ∈ lw_tbl := tk_3 (List.mem_of_getElem? (i := 184) rfl)
theorem tw_667 : (Jvm.Cond.code ({ cls := "MarshBells$Least", name := "told", desc := "(I)I" } : Jvm.MethodName) prog_6_method_4_code (2 : Nat) (Option.some Jvm.ClassFile.FieldType.int)) ∈ lw_tbl := tk_3 (List.mem_of_getElem? (i := 187) rfl)
theorem tw_666 : (Jvm.Cond.instanceMethod ({ cls := "MarshBells$Least", name := "told", desc := "(I)I" } : Jvm.MethodName)) ∈ lw_tbl := tk_3 (List.mem_of_getElem? (i := 186) rfl)
theorem se_X4_told : Cond.selects RX4 yX4_told yX4_told ∈ lw_tbl := List.mem_append_left _ (List.mem_of_getElem? (i := 23) rfl)
theorem li_X10_97 : kLN RX10 97 RX4 yX4_told "MarshBells" cX4_told 2 (some .int) 1 := ⟨tw_664, tw_666, se_X4_told, tw_667, tw_9, by decide +kernel⟩
theorem dX10_swapped_114 : decode cX10_swapped 114 = .ok (.invokevirtual 97, 3) := by decide +kernel
theorem dX10_swapped_117 : decode cX10_swapped 117 = .ok (.goto 4, 3) := by decide +kernel
theorem dX10_swapped_26 : decode cX10_swapped 26 = .ok (.iload_n 3, 1) := by decide +kernel
theorem dX10_swapped_27 : decode cX10_swapped 27 = .ok (.iconst 1, 1) := by decide +kernel
theorem dX10_swapped_28 : decode cX10_swapped 28 = .ok (.iadd, 1) := by decide +kernel
theorem dX10_swapped_29 : decode cX10_swapped 29 = .ok (.istore 4, 2) := by decide +kernel
theorem dX10_swapped_31 : decode cX10_swapped 31 = .ok (.iload 4, 2) := by decide +kernel
theorem dX10_swapped_33 : decode cX10_swapped 33 = .ok (.aload_n 0, 1) := by decide +kernel
theorem dX10_swapped_34 : decode cX10_swapped 34 = .ok (.invokevirtual 64, 3) := by decide +kernel
theorem dX10_swapped_37 : decode cX10_swapped 37 = .ok (.if_icmp .ge 45, 3) := by decide +kernel
theorem dX10_swapped_82 : decode cX10_swapped 82 = .ok (.iinc 3 1, 3) := by decide +kernel
theorem dX10_swapped_85 : decode cX10_swapped 85 = .ok (.goto (-67), 3) := by decide +kernel
theorem dX10_swapped_40 : decode cX10_swapped 40 = .ok (.aload_n 0, 1) := by decide +kernel
theorem dX10_swapped_41 : decode cX10_swapped 41 = .ok (.iload_n 3, 1) := by decide +kernel
theorem dX10_swapped_42 : decode cX10_swapped 42 = .ok (.iload 4, 2) := by decide +kernel
theorem tw_1225 : (Jvm.Cond.methodLink "MarshBells$Trials" (84 : Nat) ({ cls := "MarshBells$Trials", name := "exchange", desc := "(II)V" } : Jvm.MethodName)) ∈ lw_tbl := tk_6 (List.mem_of_getElem? (i := 25) rfl)
theorem tw_1228 : (Jvm.Cond.code ({ cls := "MarshBells$Trials", name := "exchange", desc := "(II)V" } : Jvm.MethodName) prog_12_method_9_code (4 : Nat) (Option.none : Option Jvm.ClassFile.FieldType)) ∈ lw_tbl := tk_6 (List.mem_of_getElem? (i := 28) rfl)
theorem tw_1227 : (Jvm.Cond.instanceMethod ({ cls := "MarshBells$Trials", name := "exchange", desc := "(II)V" } : Jvm.MethodName)) ∈ lw_tbl := tk_6 (List.mem_of_getElem? (i := 27) rfl)
theorem se_X10_exchange : Cond.selects RX10 yX10_exchange yX10_exchange ∈ lw_tbl := List.mem_append_left _ (List.mem_of_getElem? (i := 87) rfl)
theorem li_X10_84 : kLV RX10 84 RX10 yX10_exchange cX10_exchange 4 none 2 := ⟨tw_1225, tw_1227, se_X10_exchange, tw_1228, tw_8, by decide +kernel⟩
theorem dX10_swapped_44 : decode cX10_swapped 44 = .ok (.invokevirtual 84, 3) := by decide +kernel
theorem dX10_swapped_47 : decode cX10_swapped 47 = .ok (.aload_n 0, 1) := by decide +kernel
theorem dX10_swapped_48 : decode cX10_swapped 48 = .ok (.getfield 12, 3) := by decide +kernel
theorem dX10_swapped_51 : decode cX10_swapped 51 = .ok (.bipush 100, 2) := by decide +kernel
theorem dX10_swapped_53 : decode cX10_swapped 53 = .ok (.iload_n 3, 1) := by decide +kernel
theorem dX10_swapped_54 : decode cX10_swapped 54 = .ok (.imul, 1) := by decide +kernel
theorem dX10_swapped_55 : decode cX10_swapped 55 = .ok (.iload 4, 2) := by decide +kernel
theorem dX10_swapped_57 : decode cX10_swapped 57 = .ok (.iadd, 1) := by decide +kernel
theorem dX10_swapped_58 : decode cX10_swapped 58 = .ok (.aload_n 0, 1) := by decide +kernel
theorem dX10_swapped_59 : decode cX10_swapped 59 = .ok (.getfield 22, 3) := by decide +kernel
theorem dX10_swapped_62 : decode cX10_swapped 62 = .ok (.iconst 0, 1) := by decide +kernel
theorem dX10_swapped_63 : decode cX10_swapped 63 = .ok (.invokevirtual 77, 3) := by decide +kernel
theorem tw_660 : (Jvm.Cond.methodLinkNest "MarshBells$Trials" (87 : Nat) ({ cls := "MarshBells$Least", name := "offer", desc := "(II)V" } : Jvm.MethodName) "MarshBells") ∈ lw_tbl := tk_3 (List.mem_of_getElem? (i := 180) rfl)
theorem tw_663 : (Jvm.Cond.code ({ cls := "MarshBells$Least", name := "offer", desc := "(II)V" } : Jvm.MethodName) prog_6_method_3_code (3 : Nat) (Option.none : Option Jvm.ClassFile.FieldType)) ∈ lw_tbl := tk_3 (List.mem_of_getElem? (i := 183) rfl)
theorem tw_662 : (Jvm.Cond.instanceMethod ({ cls := "MarshBells$Least", name := "offer", desc := "(II)V" } : Jvm.MethodName)) ∈ lw_tbl := tk_3 (List.mem_of_getElem? (i := 182) rfl)
theorem se_X4_offer : Cond.selects RX4 yX4_offer yX4_offer ∈ lw_tbl := List.mem_append_left _ (List.mem_of_getElem? (i := 22) rfl)
theorem li_X10_87 : kLN RX10 87 RX4 yX4_offer "MarshBells" cX4_offer 3 none 2 := ⟨tw_660, tw_662, se_X4_offer, tw_663, tw_9, by decide +kernel⟩
theorem dX10_swapped_66 : decode cX10_swapped 66 = .ok (.invokevirtual 87, 3) := by decide +kernel
theorem dX10_swapped_69 : decode cX10_swapped 69 = .ok (.aload_n 0, 1) := by decide +kernel
theorem dX10_swapped_70 : decode cX10_swapped 70 = .ok (.iload_n 3, 1) := by decide +kernel
theorem dX10_swapped_71 : decode cX10_swapped 71 = .ok (.iload 4, 2) := by decide +kernel
theorem dX10_swapped_73 : decode cX10_swapped 73 = .ok (.invokevirtual 84, 3) := by decide +kernel
theorem dX10_swapped_76 : decode cX10_swapped 76 = .ok (.iinc 4 1, 3) := by decide +kernel
theorem dX10_swapped_79 : decode cX10_swapped 79 = .ok (.goto (-48), 3) := by decide +kernel
theorem dX11_mostOf_0 : decode cX11_mostOf 0 = .ok (.iload_n 0, 1) := by decide +kernel
theorem dX11_mostOf_1 : decode cX11_mostOf 1 = .ok (.tableswitch 36 0 2 #[27, 30, 33], 27) := by decide +kernel
theorem dX11_mostOf_28 : decode cX11_mostOf 28 = .ok (.bipush 60, 2) := by decide +kernel
theorem dX11_mostOf_30 : decode cX11_mostOf 30 = .ok (.ireturn, 1) := by decide +kernel
theorem dX11_mostOf_31 : decode cX11_mostOf 31 = .ok (.bipush 30, 2) := by decide +kernel
theorem dX11_mostOf_33 : decode cX11_mostOf 33 = .ok (.ireturn, 1) := by decide +kernel
theorem dX11_mostOf_34 : decode cX11_mostOf 34 = .ok (.bipush 9, 2) := by decide +kernel
theorem dX11_mostOf_36 : decode cX11_mostOf 36 = .ok (.ireturn, 1) := by decide +kernel
theorem dX11_mostOf_37 : decode cX11_mostOf 37 = .ok (.bipush 99, 2) := by decide +kernel
theorem dX11_mostOf_39 : decode cX11_mostOf 39 = .ok (.ireturn, 1) := by decide +kernel
theorem dX10_leastBy_0 : decode cX10_leastBy 0 = .ok (.aload_n 0, 1) := by decide +kernel
theorem dX10_leastBy_1 : decode cX10_leastBy 1 = .ok (.getfield 32, 3) := by decide +kernel
theorem dX10_leastBy_4 : decode cX10_leastBy 4 = .ok (.iload_n 1, 1) := by decide +kernel
theorem dX10_leastBy_5 : decode cX10_leastBy 5 = .ok (.iload_n 2, 1) := by decide +kernel
theorem tw_1240 : (Jvm.Cond.methodLinkNest "MarshBells$Trials" (100 : Nat) ({ cls := "MarshBells$Held", name := "value", desc := "(II)I" } : Jvm.MethodName) "MarshBells") ∈ lw_tbl := tk_6 (List.mem_of_getElem? (i := 40) rfl)
theorem tw_1071 : (Jvm.Cond.code ({ cls := "MarshBells$Held", name := "value", desc := "(II)I" } : Jvm.MethodName) prog_5_method_5_code (3 : Nat) (Option.some Jvm.ClassFile.FieldType.int)) ∈ lw_tbl := tk_5 (List.mem_of_getElem? (i := 111) rfl)
theorem tw_1070 : (Jvm.Cond.instanceMethod ({ cls := "MarshBells$Held", name := "value", desc := "(II)I" } : Jvm.MethodName)) ∈ lw_tbl := tk_5 (List.mem_of_getElem? (i := 110) rfl)
theorem se_X3_value : Cond.selects RX3 yX3_value yX3_value ∈ lw_tbl := List.mem_append_left _ (List.mem_of_getElem? (i := 68) rfl)
theorem li_X10_100 : kLN RX10 100 RX3 yX3_value "MarshBells" cX3_value 3 (some .int) 2 := ⟨tw_1240, tw_1070, se_X3_value, tw_1071, tw_6, by decide +kernel⟩
theorem dX10_leastBy_6 : decode cX10_leastBy 6 = .ok (.invokevirtual 100, 3) := by decide +kernel
theorem dX10_leastBy_9 : decode cX10_leastBy 9 = .ok (.istore 4, 2) := by decide +kernel
theorem dX10_leastBy_11 : decode cX10_leastBy 11 = .ok (.aload_n 0, 1) := by decide +kernel
theorem dX10_leastBy_12 : decode cX10_leastBy 12 = .ok (.getfield 22, 3) := by decide +kernel
theorem dX10_leastBy_15 : decode cX10_leastBy 15 = .ok (.iconst 0, 1) := by decide +kernel
theorem dX10_leastBy_16 : decode cX10_leastBy 16 = .ok (.invokevirtual 43, 3) := by decide +kernel
theorem dX10_leastBy_19 : decode cX10_leastBy 19 = .ok (.aload_n 0, 1) := by decide +kernel
theorem dX10_leastBy_20 : decode cX10_leastBy 20 = .ok (.getfield 12, 3) := by decide +kernel
theorem dX10_leastBy_23 : decode cX10_leastBy 23 = .ok (.invokevirtual 81, 3) := by decide +kernel
theorem dX10_leastBy_26 : decode cX10_leastBy 26 = .ok (.iconst 0, 1) := by decide +kernel
theorem dX10_leastBy_27 : decode cX10_leastBy 27 = .ok (.istore 5, 2) := by decide +kernel
theorem dX10_leastBy_29 : decode cX10_leastBy 29 = .ok (.iload 5, 2) := by decide +kernel
theorem dX10_leastBy_31 : decode cX10_leastBy 31 = .ok (.iload_n 1, 1) := by decide +kernel
theorem tw_1241 : (Jvm.Cond.methodLinkNest "MarshBells$Trials" (104 : Nat) ({ cls := "MarshBells", name := "mostOf", desc := "(I)I" } : Jvm.MethodName) "MarshBells") ∈ lw_tbl := tk_6 (List.mem_of_getElem? (i := 41) rfl)
theorem tw_1 : (Jvm.Cond.initialized "MarshBells") ∈ lw_tbl := tk_1 (List.mem_of_getElem? (i := 1) rfl)
theorem tw_1067 : (Jvm.Cond.code ({ cls := "MarshBells", name := "mostOf", desc := "(I)I" } : Jvm.MethodName) prog_1_method_47_code (1 : Nat) (Option.some Jvm.ClassFile.FieldType.int)) ∈ lw_tbl := tk_5 (List.mem_of_getElem? (i := 107) rfl)
theorem tw_1066 : (Jvm.Cond.static ({ cls := "MarshBells", name := "mostOf", desc := "(I)I" } : Jvm.MethodName)) ∈ lw_tbl := tk_5 (List.mem_of_getElem? (i := 106) rfl)
theorem li_X10_104 : kLT RX10 104 yX11_mostOf "MarshBells" cX11_mostOf 1 (some .int) 1 := ⟨tw_1241, tw_1066, tw_1067, tw_1, by decide +kernel⟩
theorem dX10_leastBy_32 : decode cX10_leastBy 32 = .ok (.invokestatic 104, 3) := by decide +kernel
theorem dX10_leastBy_35 : decode cX10_leastBy 35 = .ok (.if_icmp .gt 37, 3) := by decide +kernel
theorem dX10_leastBy_72 : decode cX10_leastBy 72 = .ok (.aload_n 0, 1) := by decide +kernel
theorem dX10_leastBy_73 : decode cX10_leastBy 73 = .ok (.getfield 32, 3) := by decide +kernel
theorem dX10_leastBy_76 : decode cX10_leastBy 76 = .ok (.iload_n 1, 1) := by decide +kernel
theorem dX10_leastBy_77 : decode cX10_leastBy 77 = .ok (.iload_n 2, 1) := by decide +kernel
theorem dX10_leastBy_78 : decode cX10_leastBy 78 = .ok (.iload 4, 2) := by decide +kernel
theorem tw_1242 : (Jvm.Cond.methodLinkNest "MarshBells$Trials" (107 : Nat) ({ cls := "MarshBells$Held", name := "put", desc := "(III)V" } : Jvm.MethodName) "MarshBells") ∈ lw_tbl := tk_6 (List.mem_of_getElem? (i := 42) rfl)
theorem li_X10_107 : kLN RX10 107 RX3 yX3_put "MarshBells" cX3_put 4 none 3 := ⟨tw_1242, tw_578, se_X3_put, tw_579, tw_6, by decide +kernel⟩
theorem dX10_leastBy_80 : decode cX10_leastBy 80 = .ok (.invokevirtual 107, 3) := by decide +kernel
theorem dX10_leastBy_83 : decode cX10_leastBy 83 = .ok (.aload_n 0, 1) := by decide +kernel
theorem dX10_leastBy_84 : decode cX10_leastBy 84 = .ok (.getfield 12, 3) := by decide +kernel
theorem dX10_leastBy_87 : decode cX10_leastBy 87 = .ok (.iload_n 3, 1) := by decide +kernel
theorem dX10_leastBy_88 : decode cX10_leastBy 88 = .ok (.invokevirtual 97, 3) := by decide +kernel
theorem dX10_leastBy_91 : decode cX10_leastBy 91 = .ok (.ireturn, 1) := by decide +kernel
theorem dX10_leastBy_38 : decode cX10_leastBy 38 = .ok (.aload_n 0, 1) := by decide +kernel
theorem dX10_leastBy_39 : decode cX10_leastBy 39 = .ok (.getfield 32, 3) := by decide +kernel
theorem dX10_leastBy_42 : decode cX10_leastBy 42 = .ok (.iload_n 1, 1) := by decide +kernel
theorem dX10_leastBy_43 : decode cX10_leastBy 43 = .ok (.iload_n 2, 1) := by decide +kernel
theorem dX10_leastBy_44 : decode cX10_leastBy 44 = .ok (.iload 5, 2) := by decide +kernel
theorem dX10_leastBy_46 : decode cX10_leastBy 46 = .ok (.invokevirtual 107, 3) := by decide +kernel
theorem dX10_leastBy_49 : decode cX10_leastBy 49 = .ok (.aload_n 0, 1) := by decide +kernel
theorem dX10_leastBy_50 : decode cX10_leastBy 50 = .ok (.getfield 12, 3) := by decide +kernel
theorem dX10_leastBy_53 : decode cX10_leastBy 53 = .ok (.iload 5, 2) := by decide +kernel
theorem dX10_leastBy_55 : decode cX10_leastBy 55 = .ok (.aload_n 0, 1) := by decide +kernel
theorem dX10_leastBy_56 : decode cX10_leastBy 56 = .ok (.getfield 22, 3) := by decide +kernel
theorem dX10_leastBy_59 : decode cX10_leastBy 59 = .ok (.iload_n 2, 1) := by decide +kernel
theorem dX10_leastBy_60 : decode cX10_leastBy 60 = .ok (.invokevirtual 77, 3) := by decide +kernel
theorem dX10_leastBy_63 : decode cX10_leastBy 63 = .ok (.invokevirtual 87, 3) := by decide +kernel
theorem dX10_leastBy_66 : decode cX10_leastBy 66 = .ok (.iinc 5 1, 3) := by decide +kernel
theorem dX10_leastBy_69 : decode cX10_leastBy 69 = .ok (.goto (-40), 3) := by decide +kernel
theorem dX10_lostWithout_0 : decode cX10_lostWithout 0 = .ok (.aload_n 0, 1) := by decide +kernel
theorem dX10_lostWithout_1 : decode cX10_lostWithout 1 = .ok (.getfield 32, 3) := by decide +kernel
theorem dX10_lostWithout_4 : decode cX10_lostWithout 4 = .ok (.getfield 56, 3) := by decide +kernel
theorem dX10_lostWithout_7 : decode cX10_lostWithout 7 = .ok (.iload_n 1, 1) := by decide +kernel
theorem dX10_lostWithout_8 : decode cX10_lostWithout 8 = .ok (.iaload, 1) := by decide +kernel
theorem dX10_lostWithout_9 : decode cX10_lostWithout 9 = .ok (.istore_n 3, 1) := by decide +kernel
theorem dX10_lostWithout_10 : decode cX10_lostWithout 10 = .ok (.aload_n 0, 1) := by decide +kernel
theorem dX10_lostWithout_11 : decode cX10_lostWithout 11 = .ok (.getfield 32, 3) := by decide +kernel
theorem dX10_lostWithout_14 : decode cX10_lostWithout 14 = .ok (.getfield 56, 3) := by decide +kernel
theorem dX10_lostWithout_17 : decode cX10_lostWithout 17 = .ok (.iload_n 2, 1) := by decide +kernel
theorem dX10_lostWithout_18 : decode cX10_lostWithout 18 = .ok (.iaload, 1) := by decide +kernel
theorem dX10_lostWithout_19 : decode cX10_lostWithout 19 = .ok (.istore 4, 2) := by decide +kernel
theorem dX10_lostWithout_21 : decode cX10_lostWithout 21 = .ok (.aload_n 0, 1) := by decide +kernel
theorem dX10_lostWithout_22 : decode cX10_lostWithout 22 = .ok (.getfield 32, 3) := by decide +kernel
theorem dX10_lostWithout_25 : decode cX10_lostWithout 25 = .ok (.getfield 56, 3) := by decide +kernel
theorem dX10_lostWithout_28 : decode cX10_lostWithout 28 = .ok (.iload_n 1, 1) := by decide +kernel
theorem dX10_lostWithout_29 : decode cX10_lostWithout 29 = .ok (.iconst 0, 1) := by decide +kernel
theorem dX10_lostWithout_30 : decode cX10_lostWithout 30 = .ok (.iastore, 1) := by decide +kernel
theorem dX10_lostWithout_31 : decode cX10_lostWithout 31 = .ok (.aload_n 0, 1) := by decide +kernel
theorem dX10_lostWithout_32 : decode cX10_lostWithout 32 = .ok (.getfield 32, 3) := by decide +kernel
theorem dX10_lostWithout_35 : decode cX10_lostWithout 35 = .ok (.getfield 56, 3) := by decide +kernel
theorem dX10_lostWithout_38 : decode cX10_lostWithout 38 = .ok (.iload_n 2, 1) := by decide +kernel
theorem dX10_lostWithout_39 : decode cX10_lostWithout 39 = .ok (.iconst 0, 1) := by decide +kernel
theorem dX10_lostWithout_40 : decode cX10_lostWithout 40 = .ok (.iastore, 1) := by decide +kernel
theorem dX10_lostWithout_41 : decode cX10_lostWithout 41 = .ok (.aload_n 0, 1) := by decide +kernel
theorem dX10_lostWithout_42 : decode cX10_lostWithout 42 = .ok (.getfield 22, 3) := by decide +kernel
theorem dX10_lostWithout_45 : decode cX10_lostWithout 45 = .ok (.iconst 0, 1) := by decide +kernel
theorem dX10_lostWithout_46 : decode cX10_lostWithout 46 = .ok (.invokevirtual 77, 3) := by decide +kernel
theorem dX10_lostWithout_49 : decode cX10_lostWithout 49 = .ok (.istore 5, 2) := by decide +kernel
theorem dX10_lostWithout_51 : decode cX10_lostWithout 51 = .ok (.aload_n 0, 1) := by decide +kernel
theorem dX10_lostWithout_52 : decode cX10_lostWithout 52 = .ok (.getfield 32, 3) := by decide +kernel
theorem dX10_lostWithout_55 : decode cX10_lostWithout 55 = .ok (.getfield 56, 3) := by decide +kernel
theorem dX10_lostWithout_58 : decode cX10_lostWithout 58 = .ok (.iload_n 1, 1) := by decide +kernel
theorem dX10_lostWithout_59 : decode cX10_lostWithout 59 = .ok (.iload_n 3, 1) := by decide +kernel
theorem dX10_lostWithout_60 : decode cX10_lostWithout 60 = .ok (.iastore, 1) := by decide +kernel
theorem dX10_lostWithout_61 : decode cX10_lostWithout 61 = .ok (.aload_n 0, 1) := by decide +kernel
theorem dX10_lostWithout_62 : decode cX10_lostWithout 62 = .ok (.getfield 32, 3) := by decide +kernel
theorem dX10_lostWithout_65 : decode cX10_lostWithout 65 = .ok (.getfield 56, 3) := by decide +kernel
theorem dX10_lostWithout_68 : decode cX10_lostWithout 68 = .ok (.iload_n 2, 1) := by decide +kernel
theorem dX10_lostWithout_69 : decode cX10_lostWithout 69 = .ok (.iload 4, 2) := by decide +kernel
theorem dX10_lostWithout_71 : decode cX10_lostWithout 71 = .ok (.iastore, 1) := by decide +kernel
theorem dX10_lostWithout_72 : decode cX10_lostWithout 72 = .ok (.iload 5, 2) := by decide +kernel
theorem dX10_lostWithout_74 : decode cX10_lostWithout 74 = .ok (.ireturn, 1) := by decide +kernel
theorem dX10_withoutOne_0 : decode cX10_withoutOne 0 = .ok (.aload_n 0, 1) := by decide +kernel
theorem dX10_withoutOne_1 : decode cX10_withoutOne 1 = .ok (.getfield 12, 3) := by decide +kernel
theorem dX10_withoutOne_4 : decode cX10_withoutOne 4 = .ok (.invokevirtual 81, 3) := by decide +kernel
theorem dX10_withoutOne_7 : decode cX10_withoutOne 7 = .ok (.iconst 0, 1) := by decide +kernel
theorem dX10_withoutOne_8 : decode cX10_withoutOne 8 = .ok (.istore_n 1, 1) := by decide +kernel
theorem dX10_withoutOne_9 : decode cX10_withoutOne 9 = .ok (.iload_n 1, 1) := by decide +kernel
theorem dX10_withoutOne_10 : decode cX10_withoutOne 10 = .ok (.aload_n 0, 1) := by decide +kernel
theorem dX10_withoutOne_11 : decode cX10_withoutOne 11 = .ok (.invokevirtual 64, 3) := by decide +kernel
theorem dX10_withoutOne_14 : decode cX10_withoutOne 14 = .ok (.if_icmp .ge 23, 3) := by decide +kernel
theorem dX10_withoutOne_37 : decode cX10_withoutOne 37 = .ok (.aload_n 0, 1) := by decide +kernel
theorem dX10_withoutOne_38 : decode cX10_withoutOne 38 = .ok (.getfield 12, 3) := by decide +kernel
theorem dX10_withoutOne_41 : decode cX10_withoutOne 41 = .ok (.iconst 0, 1) := by decide +kernel
theorem dX10_withoutOne_42 : decode cX10_withoutOne 42 = .ok (.invokevirtual 97, 3) := by decide +kernel
theorem dX10_withoutOne_45 : decode cX10_withoutOne 45 = .ok (.ireturn, 1) := by decide +kernel
theorem dX10_withoutOne_17 : decode cX10_withoutOne 17 = .ok (.aload_n 0, 1) := by decide +kernel
theorem dX10_withoutOne_18 : decode cX10_withoutOne 18 = .ok (.getfield 12, 3) := by decide +kernel
theorem dX10_withoutOne_21 : decode cX10_withoutOne 21 = .ok (.iload_n 1, 1) := by decide +kernel
theorem dX10_withoutOne_22 : decode cX10_withoutOne 22 = .ok (.aload_n 0, 1) := by decide +kernel
theorem dX10_withoutOne_23 : decode cX10_withoutOne 23 = .ok (.iload_n 1, 1) := by decide +kernel
theorem dX10_withoutOne_24 : decode cX10_withoutOne 24 = .ok (.iload_n 1, 1) := by decide +kernel
theorem tw_600 : (Jvm.Cond.methodLink "MarshBells$Trials" (111 : Nat) ({ cls := "MarshBells$Trials", name := "lostWithout", desc := "(II)I" } : Jvm.MethodName)) ∈ lw_tbl := tk_3 (List.mem_of_getElem? (i := 120) rfl)
theorem tw_603 : (Jvm.Cond.code ({ cls := "MarshBells$Trials", name := "lostWithout", desc := "(II)I" } : Jvm.MethodName) prog_12_method_14_code (6 : Nat) (Option.some Jvm.ClassFile.FieldType.int)) ∈ lw_tbl := tk_3 (List.mem_of_getElem? (i := 123) rfl)
theorem tw_602 : (Jvm.Cond.instanceMethod ({ cls := "MarshBells$Trials", name := "lostWithout", desc := "(II)I" } : Jvm.MethodName)) ∈ lw_tbl := tk_3 (List.mem_of_getElem? (i := 122) rfl)
theorem se_X10_lostWithout : Cond.selects RX10 yX10_lostWithout yX10_lostWithout ∈ lw_tbl := List.mem_append_left _ (List.mem_of_getElem? (i := 10) rfl)
theorem li_X10_111 : kLV RX10 111 RX10 yX10_lostWithout cX10_lostWithout 6 (some .int) 2 := ⟨tw_600, tw_602, se_X10_lostWithout, tw_603, tw_8, by decide +kernel⟩
theorem dX10_withoutOne_25 : decode cX10_withoutOne 25 = .ok (.invokevirtual 111, 3) := by decide +kernel
theorem dX10_withoutOne_28 : decode cX10_withoutOne 28 = .ok (.invokevirtual 87, 3) := by decide +kernel
theorem dX10_withoutOne_31 : decode cX10_withoutOne 31 = .ok (.iinc 1 1, 3) := by decide +kernel
theorem dX10_withoutOne_34 : decode cX10_withoutOne 34 = .ok (.goto (-25), 3) := by decide +kernel
theorem dX10_withoutTwo_0 : decode cX10_withoutTwo 0 = .ok (.aload_n 0, 1) := by decide +kernel
theorem dX10_withoutTwo_1 : decode cX10_withoutTwo 1 = .ok (.getfield 12, 3) := by decide +kernel
theorem dX10_withoutTwo_4 : decode cX10_withoutTwo 4 = .ok (.invokevirtual 81, 3) := by decide +kernel
theorem dX10_withoutTwo_7 : decode cX10_withoutTwo 7 = .ok (.iconst 0, 1) := by decide +kernel
theorem dX10_withoutTwo_8 : decode cX10_withoutTwo 8 = .ok (.istore_n 2, 1) := by decide +kernel
theorem dX10_withoutTwo_9 : decode cX10_withoutTwo 9 = .ok (.iload_n 2, 1) := by decide +kernel
theorem dX10_withoutTwo_10 : decode cX10_withoutTwo 10 = .ok (.aload_n 0, 1) := by decide +kernel
theorem dX10_withoutTwo_11 : decode cX10_withoutTwo 11 = .ok (.invokevirtual 64, 3) := by decide +kernel
theorem dX10_withoutTwo_14 : decode cX10_withoutTwo 14 = .ok (.if_icmp .ge 46, 3) := by decide +kernel
theorem dX10_withoutTwo_60 : decode cX10_withoutTwo 60 = .ok (.aload_n 0, 1) := by decide +kernel
theorem dX10_withoutTwo_61 : decode cX10_withoutTwo 61 = .ok (.getfield 12, 3) := by decide +kernel
theorem dX10_withoutTwo_64 : decode cX10_withoutTwo 64 = .ok (.iload_n 1, 1) := by decide +kernel
theorem dX10_withoutTwo_65 : decode cX10_withoutTwo 65 = .ok (.invokevirtual 97, 3) := by decide +kernel
theorem dX10_withoutTwo_68 : decode cX10_withoutTwo 68 = .ok (.ireturn, 1) := by decide +kernel
theorem dX10_withoutTwo_17 : decode cX10_withoutTwo 17 = .ok (.iload_n 2, 1) := by decide +kernel
theorem dX10_withoutTwo_18 : decode cX10_withoutTwo 18 = .ok (.iconst 1, 1) := by decide +kernel
theorem dX10_withoutTwo_19 : decode cX10_withoutTwo 19 = .ok (.iadd, 1) := by decide +kernel
theorem dX10_withoutTwo_20 : decode cX10_withoutTwo 20 = .ok (.istore_n 3, 1) := by decide +kernel
theorem dX10_withoutTwo_21 : decode cX10_withoutTwo 21 = .ok (.iload_n 3, 1) := by decide +kernel
theorem dX10_withoutTwo_22 : decode cX10_withoutTwo 22 = .ok (.aload_n 0, 1) := by decide +kernel
theorem dX10_withoutTwo_23 : decode cX10_withoutTwo 23 = .ok (.invokevirtual 64, 3) := by decide +kernel
theorem dX10_withoutTwo_26 : decode cX10_withoutTwo 26 = .ok (.if_icmp .ge 28, 3) := by decide +kernel
theorem dX10_withoutTwo_54 : decode cX10_withoutTwo 54 = .ok (.iinc 2 1, 3) := by decide +kernel
theorem dX10_withoutTwo_57 : decode cX10_withoutTwo 57 = .ok (.goto (-48), 3) := by decide +kernel
theorem dX10_withoutTwo_29 : decode cX10_withoutTwo 29 = .ok (.aload_n 0, 1) := by decide +kernel
theorem dX10_withoutTwo_30 : decode cX10_withoutTwo 30 = .ok (.getfield 12, 3) := by decide +kernel
theorem dX10_withoutTwo_33 : decode cX10_withoutTwo 33 = .ok (.bipush 100, 2) := by decide +kernel
theorem dX10_withoutTwo_35 : decode cX10_withoutTwo 35 = .ok (.iload_n 2, 1) := by decide +kernel
theorem dX10_withoutTwo_36 : decode cX10_withoutTwo 36 = .ok (.imul, 1) := by decide +kernel
theorem dX10_withoutTwo_37 : decode cX10_withoutTwo 37 = .ok (.iload_n 3, 1) := by decide +kernel
theorem dX10_withoutTwo_38 : decode cX10_withoutTwo 38 = .ok (.iadd, 1) := by decide +kernel
theorem dX10_withoutTwo_39 : decode cX10_withoutTwo 39 = .ok (.aload_n 0, 1) := by decide +kernel
theorem dX10_withoutTwo_40 : decode cX10_withoutTwo 40 = .ok (.iload_n 2, 1) := by decide +kernel
theorem dX10_withoutTwo_41 : decode cX10_withoutTwo 41 = .ok (.iload_n 3, 1) := by decide +kernel
theorem dX10_withoutTwo_42 : decode cX10_withoutTwo 42 = .ok (.invokevirtual 111, 3) := by decide +kernel
theorem dX10_withoutTwo_45 : decode cX10_withoutTwo 45 = .ok (.invokevirtual 87, 3) := by decide +kernel
theorem dX10_withoutTwo_48 : decode cX10_withoutTwo 48 = .ok (.iinc 3 1, 3) := by decide +kernel
theorem dX10_withoutTwo_51 : decode cX10_withoutTwo 51 = .ok (.goto (-30), 3) := by decide +kernel
theorem tw_266 : (Jvm.Cond.fieldLinkNest "MarshBells$Trials" (114 : Nat) "MarshBells$Held" "rule" "I" "MarshBells") ∈ lw_tbl := tk_2 (List.mem_of_getElem? (i := 26) rfl)
theorem fl_X10_114 : kFN RX10 114 3 12 11 := ⟨RX3, TX3, rfl, by decide, inWX3, tw_266⟩
theorem dX10_lostByRule_0 : decode cX10_lostByRule 0 = .ok (.aload_n 0, 1) := by decide +kernel
theorem dX10_lostByRule_1 : decode cX10_lostByRule 1 = .ok (.getfield 32, 3) := by decide +kernel
theorem dX10_lostByRule_4 : decode cX10_lostByRule 4 = .ok (.getfield 114, 3) := by decide +kernel
theorem dX10_lostByRule_7 : decode cX10_lostByRule 7 = .ok (.istore_n 2, 1) := by decide +kernel
theorem dX10_lostByRule_8 : decode cX10_lostByRule 8 = .ok (.aload_n 0, 1) := by decide +kernel
theorem dX10_lostByRule_9 : decode cX10_lostByRule 9 = .ok (.getfield 32, 3) := by decide +kernel
theorem dX10_lostByRule_12 : decode cX10_lostByRule 12 = .ok (.iload_n 1, 1) := by decide +kernel
theorem dX10_lostByRule_13 : decode cX10_lostByRule 13 = .ok (.putfield 114, 3) := by decide +kernel
theorem dX10_lostByRule_16 : decode cX10_lostByRule 16 = .ok (.aload_n 0, 1) := by decide +kernel
theorem dX10_lostByRule_17 : decode cX10_lostByRule 17 = .ok (.getfield 22, 3) := by decide +kernel
theorem dX10_lostByRule_20 : decode cX10_lostByRule 20 = .ok (.iconst 0, 1) := by decide +kernel
theorem dX10_lostByRule_21 : decode cX10_lostByRule 21 = .ok (.invokevirtual 77, 3) := by decide +kernel
theorem dX10_lostByRule_24 : decode cX10_lostByRule 24 = .ok (.istore_n 3, 1) := by decide +kernel
theorem dX10_lostByRule_25 : decode cX10_lostByRule 25 = .ok (.aload_n 0, 1) := by decide +kernel
theorem dX10_lostByRule_26 : decode cX10_lostByRule 26 = .ok (.getfield 32, 3) := by decide +kernel
theorem dX10_lostByRule_29 : decode cX10_lostByRule 29 = .ok (.iload_n 2, 1) := by decide +kernel
theorem dX10_lostByRule_30 : decode cX10_lostByRule 30 = .ok (.putfield 114, 3) := by decide +kernel
theorem dX10_lostByRule_33 : decode cX10_lostByRule 33 = .ok (.iload_n 3, 1) := by decide +kernel
theorem dX10_lostByRule_34 : decode cX10_lostByRule 34 = .ok (.ireturn, 1) := by decide +kernel
theorem tw_160 : (Jvm.Cond.fieldLinkNest "MarshBells$Trials" (117 : Nat) "MarshBells$Plan" "rules" "LMarshBells$Rules;" "MarshBells") ∈ lw_tbl := tk_1 (List.mem_of_getElem? (i := 160) rfl)
theorem fl_X10_117 : kFN RX10 117 7 5 1 := ⟨RX7, TX7, rfl, by decide, inWX7, tw_160⟩
theorem tw_54 : (Jvm.Cond.fieldLinkNest "MarshBells$Trials" (121 : Nat) "MarshBells$Rules" "size" "I" "MarshBells") ∈ lw_tbl := tk_1 (List.mem_of_getElem? (i := 54) rfl)
theorem fl_X10_121 : kFN RX10 121 8 5 3 := ⟨RX8, TX8, rfl, by decide, inWX8, tw_54⟩
theorem dX10_bestRule_0 : decode cX10_bestRule 0 = .ok (.aload_n 0, 1) := by decide +kernel
theorem dX10_bestRule_1 : decode cX10_bestRule 1 = .ok (.getfield 12, 3) := by decide +kernel
theorem dX10_bestRule_4 : decode cX10_bestRule 4 = .ok (.invokevirtual 81, 3) := by decide +kernel
theorem dX10_bestRule_7 : decode cX10_bestRule 7 = .ok (.iconst (-1), 1) := by decide +kernel
theorem dX10_bestRule_8 : decode cX10_bestRule 8 = .ok (.istore_n 1, 1) := by decide +kernel
theorem dX10_bestRule_9 : decode cX10_bestRule 9 = .ok (.iload_n 1, 1) := by decide +kernel
theorem dX10_bestRule_10 : decode cX10_bestRule 10 = .ok (.aload_n 0, 1) := by decide +kernel
theorem dX10_bestRule_11 : decode cX10_bestRule 11 = .ok (.getfield 22, 3) := by decide +kernel
theorem dX10_bestRule_14 : decode cX10_bestRule 14 = .ok (.getfield 33, 3) := by decide +kernel
theorem dX10_bestRule_17 : decode cX10_bestRule 17 = .ok (.getfield 117, 3) := by decide +kernel
theorem dX10_bestRule_20 : decode cX10_bestRule 20 = .ok (.getfield 121, 3) := by decide +kernel
theorem dX10_bestRule_23 : decode cX10_bestRule 23 = .ok (.if_icmp .ge 22, 3) := by decide +kernel
theorem dX10_bestRule_45 : decode cX10_bestRule 45 = .ok (.aload_n 0, 1) := by decide +kernel
theorem dX10_bestRule_46 : decode cX10_bestRule 46 = .ok (.getfield 12, 3) := by decide +kernel
theorem dX10_bestRule_49 : decode cX10_bestRule 49 = .ok (.iconst 0, 1) := by decide +kernel
theorem dX10_bestRule_50 : decode cX10_bestRule 50 = .ok (.invokevirtual 97, 3) := by decide +kernel
theorem dX10_bestRule_53 : decode cX10_bestRule 53 = .ok (.ireturn, 1) := by decide +kernel
theorem dX10_bestRule_26 : decode cX10_bestRule 26 = .ok (.aload_n 0, 1) := by decide +kernel
theorem dX10_bestRule_27 : decode cX10_bestRule 27 = .ok (.getfield 12, 3) := by decide +kernel
theorem dX10_bestRule_30 : decode cX10_bestRule 30 = .ok (.iload_n 1, 1) := by decide +kernel
theorem dX10_bestRule_31 : decode cX10_bestRule 31 = .ok (.aload_n 0, 1) := by decide +kernel
theorem dX10_bestRule_32 : decode cX10_bestRule 32 = .ok (.iload_n 1, 1) := by decide +kernel
theorem tw_676 : (Jvm.Cond.methodLink "MarshBells$Trials" (126 : Nat) ({ cls := "MarshBells$Trials", name := "lostByRule", desc := "(I)I" } : Jvm.MethodName)) ∈ lw_tbl := tk_3 (List.mem_of_getElem? (i := 196) rfl)
theorem tw_679 : (Jvm.Cond.code ({ cls := "MarshBells$Trials", name := "lostByRule", desc := "(I)I" } : Jvm.MethodName) prog_12_method_15_code (4 : Nat) (Option.some Jvm.ClassFile.FieldType.int)) ∈ lw_tbl := tk_3 (List.mem_of_getElem? (i := 199) rfl)
theorem tw_678 : (Jvm.Cond.instanceMethod ({ cls := "MarshBells$Trials", name := "lostByRule", desc := "(I)I" } : Jvm.MethodName)) ∈ lw_tbl := tk_3 (List.mem_of_getElem? (i := 198) rfl)
theorem se_X10_lostByRule : Cond.selects RX10 yX10_lostByRule yX10_lostByRule ∈ lw_tbl := List.mem_append_left _ (List.mem_of_getElem? (i := 25) rfl)
theorem li_X10_126 : kLV RX10 126 RX10 yX10_lostByRule cX10_lostByRule 4 (some .int) 1 := ⟨tw_676, tw_678, se_X10_lostByRule, tw_679, tw_8, by decide +kernel⟩
theorem dX10_bestRule_33 : decode cX10_bestRule 33 = .ok (.invokevirtual 126, 3) := by decide +kernel
theorem dX10_bestRule_36 : decode cX10_bestRule 36 = .ok (.invokevirtual 87, 3) := by decide +kernel
theorem dX10_bestRule_39 : decode cX10_bestRule 39 = .ok (.iinc 1 1, 3) := by decide +kernel
theorem dX10_bestRule_42 : decode cX10_bestRule 42 = .ok (.goto (-33), 3) := by decide +kernel
theorem dX10_worthOfBell_0 : decode cX10_worthOfBell 0 = .ok (.aload_n 0, 1) := by decide +kernel
theorem dX10_worthOfBell_1 : decode cX10_worthOfBell 1 = .ok (.getfield 22, 3) := by decide +kernel
theorem dX10_worthOfBell_4 : decode cX10_worthOfBell 4 = .ok (.iconst 0, 1) := by decide +kernel
theorem dX10_worthOfBell_5 : decode cX10_worthOfBell 5 = .ok (.invokevirtual 77, 3) := by decide +kernel
theorem dX10_worthOfBell_8 : decode cX10_worthOfBell 8 = .ok (.istore_n 2, 1) := by decide +kernel
theorem dX10_worthOfBell_9 : decode cX10_worthOfBell 9 = .ok (.aload_n 0, 1) := by decide +kernel
theorem dX10_worthOfBell_10 : decode cX10_worthOfBell 10 = .ok (.getfield 32, 3) := by decide +kernel
theorem dX10_worthOfBell_13 : decode cX10_worthOfBell 13 = .ok (.getfield 56, 3) := by decide +kernel
theorem dX10_worthOfBell_16 : decode cX10_worthOfBell 16 = .ok (.iconst 0, 1) := by decide +kernel
theorem dX10_worthOfBell_17 : decode cX10_worthOfBell 17 = .ok (.aload_n 0, 1) := by decide +kernel
theorem dX10_worthOfBell_18 : decode cX10_worthOfBell 18 = .ok (.getfield 18, 3) := by decide +kernel
theorem dX10_worthOfBell_21 : decode cX10_worthOfBell 21 = .ok (.iconst 0, 1) := by decide +kernel
theorem dX10_worthOfBell_22 : decode cX10_worthOfBell 22 = .ok (.bipush 12, 2) := by decide +kernel
theorem dX10_worthOfBell_24 : decode cX10_worthOfBell 24 = .ok (.invokestatic 50, 3) := by decide +kernel
theorem dX10_worthOfBell_27 : decode cX10_worthOfBell 27 = .ok (.iconst 0, 1) := by decide +kernel
theorem dX10_worthOfBell_28 : decode cX10_worthOfBell 28 = .ok (.istore_n 3, 1) := by decide +kernel
theorem dX10_worthOfBell_29 : decode cX10_worthOfBell 29 = .ok (.iload_n 3, 1) := by decide +kernel
theorem dX10_worthOfBell_30 : decode cX10_worthOfBell 30 = .ok (.aload_n 0, 1) := by decide +kernel
theorem dX10_worthOfBell_31 : decode cX10_worthOfBell 31 = .ok (.invokevirtual 64, 3) := by decide +kernel
theorem dX10_worthOfBell_34 : decode cX10_worthOfBell 34 = .ok (.if_icmp .ge 28, 3) := by decide +kernel
theorem dX10_worthOfBell_62 : decode cX10_worthOfBell 62 = .ok (.aload_n 0, 1) := by decide +kernel
theorem dX10_worthOfBell_63 : decode cX10_worthOfBell 63 = .ok (.getfield 22, 3) := by decide +kernel
theorem dX10_worthOfBell_66 : decode cX10_worthOfBell 66 = .ok (.iconst 0, 1) := by decide +kernel
theorem dX10_worthOfBell_67 : decode cX10_worthOfBell 67 = .ok (.invokevirtual 77, 3) := by decide +kernel
theorem dX10_worthOfBell_70 : decode cX10_worthOfBell 70 = .ok (.istore_n 3, 1) := by decide +kernel
theorem dX10_worthOfBell_71 : decode cX10_worthOfBell 71 = .ok (.aload_n 0, 1) := by decide +kernel
theorem dX10_worthOfBell_72 : decode cX10_worthOfBell 72 = .ok (.getfield 18, 3) := by decide +kernel
theorem dX10_worthOfBell_75 : decode cX10_worthOfBell 75 = .ok (.iconst 0, 1) := by decide +kernel
theorem dX10_worthOfBell_76 : decode cX10_worthOfBell 76 = .ok (.aload_n 0, 1) := by decide +kernel
theorem dX10_worthOfBell_77 : decode cX10_worthOfBell 77 = .ok (.getfield 32, 3) := by decide +kernel
theorem dX10_worthOfBell_80 : decode cX10_worthOfBell 80 = .ok (.getfield 56, 3) := by decide +kernel
theorem dX10_worthOfBell_83 : decode cX10_worthOfBell 83 = .ok (.iconst 0, 1) := by decide +kernel
theorem dX10_worthOfBell_84 : decode cX10_worthOfBell 84 = .ok (.bipush 12, 2) := by decide +kernel
theorem dX10_worthOfBell_86 : decode cX10_worthOfBell 86 = .ok (.invokestatic 50, 3) := by decide +kernel
theorem dX10_worthOfBell_89 : decode cX10_worthOfBell 89 = .ok (.iload_n 2, 1) := by decide +kernel
theorem dX10_worthOfBell_90 : decode cX10_worthOfBell 90 = .ok (.iload_n 3, 1) := by decide +kernel
theorem dX10_worthOfBell_91 : decode cX10_worthOfBell 91 = .ok (.isub, 1) := by decide +kernel
theorem dX10_worthOfBell_92 : decode cX10_worthOfBell 92 = .ok (.ireturn, 1) := by decide +kernel
theorem dX10_worthOfBell_37 : decode cX10_worthOfBell 37 = .ok (.aload_n 0, 1) := by decide +kernel
theorem dX10_worthOfBell_38 : decode cX10_worthOfBell 38 = .ok (.getfield 32, 3) := by decide +kernel
theorem dX10_worthOfBell_41 : decode cX10_worthOfBell 41 = .ok (.getfield 56, 3) := by decide +kernel
theorem dX10_worthOfBell_44 : decode cX10_worthOfBell 44 = .ok (.iload_n 3, 1) := by decide +kernel
theorem dX10_worthOfBell_45 : decode cX10_worthOfBell 45 = .ok (.aload_n 0, 1) := by decide +kernel
theorem dX10_worthOfBell_46 : decode cX10_worthOfBell 46 = .ok (.getfield 18, 3) := by decide +kernel
theorem dX10_worthOfBell_49 : decode cX10_worthOfBell 49 = .ok (.iload_n 3, 1) := by decide +kernel
theorem dX10_worthOfBell_50 : decode cX10_worthOfBell 50 = .ok (.iaload, 1) := by decide +kernel
theorem dX10_worthOfBell_51 : decode cX10_worthOfBell 51 = .ok (.iload_n 1, 1) := by decide +kernel
theorem tw_1269 : (Jvm.Cond.methodLink "MarshBells$Trials" (129 : Nat) ({ cls := "java/lang/Math", name := "min", desc := "(II)I" } : Jvm.MethodName)) ∈ lw_tbl := tk_6 (List.mem_of_getElem? (i := 69) rfl)
theorem lm_X10_129 : kLM RX10 129 Lib.Math.min.name Lib.Math.min.code := ⟨tw_1269, tw_650, tw_18, tw_651⟩
theorem dX10_worthOfBell_52 : decode cX10_worthOfBell 52 = .ok (.invokestatic 129, 3) := by decide +kernel
theorem dX10_worthOfBell_55 : decode cX10_worthOfBell 55 = .ok (.iastore, 1) := by decide +kernel
theorem dX10_worthOfBell_56 : decode cX10_worthOfBell 56 = .ok (.iinc 3 1, 3) := by decide +kernel
theorem dX10_worthOfBell_59 : decode cX10_worthOfBell 59 = .ok (.goto (-30), 3) := by decide +kernel
theorem tw_262 : (Jvm.Cond.fieldLinkNest "MarshBells$Trials" (150 : Nat) "MarshBells$Held" "seen" "I" "MarshBells") ∈ lw_tbl := tk_2 (List.mem_of_getElem? (i := 22) rfl)
theorem fl_X10_150 : kFN RX10 150 3 12 10 := ⟨RX3, TX3, rfl, by decide, inWX3, tw_262⟩
theorem tw_255 : (Jvm.Cond.fieldLinkNest "MarshBells$Trials" (153 : Nat) "MarshBells$Held" "seenLessons" "[I" "MarshBells") ∈ lw_tbl := tk_2 (List.mem_of_getElem? (i := 15) rfl)
theorem fl_X10_153 : kFN RX10 153 3 12 7 := ⟨RX3, TX3, rfl, by decide, inWX3, tw_255⟩
theorem tw_257 : (Jvm.Cond.fieldLinkNest "MarshBells$Trials" (159 : Nat) "MarshBells$Held" "seenLates" "[I" "MarshBells") ∈ lw_tbl := tk_2 (List.mem_of_getElem? (i := 17) rfl)
theorem fl_X10_159 : kFN RX10 159 3 12 8 := ⟨RX3, TX3, rfl, by decide, inWX3, tw_257⟩
theorem dX10_isAsSeen_0 : decode cX10_isAsSeen 0 = .ok (.iconst 0, 1) := by decide +kernel
theorem dX10_isAsSeen_1 : decode cX10_isAsSeen 1 = .ok (.istore_n 1, 1) := by decide +kernel
theorem dX10_isAsSeen_2 : decode cX10_isAsSeen 2 = .ok (.iload_n 1, 1) := by decide +kernel
theorem dX10_isAsSeen_3 : decode cX10_isAsSeen 3 = .ok (.aload_n 0, 1) := by decide +kernel
theorem dX10_isAsSeen_4 : decode cX10_isAsSeen 4 = .ok (.getfield 32, 3) := by decide +kernel
theorem dX10_isAsSeen_7 : decode cX10_isAsSeen 7 = .ok (.getfield 150, 3) := by decide +kernel
theorem dX10_isAsSeen_10 : decode cX10_isAsSeen 10 = .ok (.if_icmp .ge 39, 3) := by decide +kernel
theorem dX10_isAsSeen_49 : decode cX10_isAsSeen 49 = .ok (.iconst 1, 1) := by decide +kernel
theorem dX10_isAsSeen_50 : decode cX10_isAsSeen 50 = .ok (.ireturn, 1) := by decide +kernel
theorem dX10_isAsSeen_13 : decode cX10_isAsSeen 13 = .ok (.aload_n 0, 1) := by decide +kernel
theorem dX10_isAsSeen_14 : decode cX10_isAsSeen 14 = .ok (.getfield 22, 3) := by decide +kernel
theorem dX10_isAsSeen_17 : decode cX10_isAsSeen 17 = .ok (.aload_n 0, 1) := by decide +kernel
theorem dX10_isAsSeen_18 : decode cX10_isAsSeen 18 = .ok (.getfield 32, 3) := by decide +kernel
theorem dX10_isAsSeen_21 : decode cX10_isAsSeen 21 = .ok (.getfield 153, 3) := by decide +kernel
theorem dX10_isAsSeen_24 : decode cX10_isAsSeen 24 = .ok (.iload_n 1, 1) := by decide +kernel
theorem dX10_isAsSeen_25 : decode cX10_isAsSeen 25 = .ok (.iaload, 1) := by decide +kernel
theorem tw_1296 : (Jvm.Cond.methodLinkNest "MarshBells$Trials" (156 : Nat) ({ cls := "MarshBells$Day", name := "late", desc := "(I)I" } : Jvm.MethodName) "MarshBells") ∈ lw_tbl := tk_6 (List.mem_of_getElem? (i := 96) rfl)
theorem li_X10_156 : kLN RX10 156 RX1 yX1_late "MarshBells" cX1_late 2 (some .int) 1 := ⟨tw_1296, tw_658, se_X1_late, tw_659, tw_7, by decide +kernel⟩
theorem dX10_isAsSeen_26 : decode cX10_isAsSeen 26 = .ok (.invokevirtual 156, 3) := by decide +kernel
theorem dX10_isAsSeen_29 : decode cX10_isAsSeen 29 = .ok (.aload_n 0, 1) := by decide +kernel
theorem dX10_isAsSeen_30 : decode cX10_isAsSeen 30 = .ok (.getfield 32, 3) := by decide +kernel
theorem dX10_isAsSeen_33 : decode cX10_isAsSeen 33 = .ok (.getfield 159, 3) := by decide +kernel
theorem dX10_isAsSeen_36 : decode cX10_isAsSeen 36 = .ok (.iload_n 1, 1) := by decide +kernel
theorem dX10_isAsSeen_37 : decode cX10_isAsSeen 37 = .ok (.iaload, 1) := by decide +kernel
theorem dX10_isAsSeen_38 : decode cX10_isAsSeen 38 = .ok (.if_icmp .eq 5, 3) := by decide +kernel
theorem dX10_isAsSeen_43 : decode cX10_isAsSeen 43 = .ok (.iinc 1 1, 3) := by decide +kernel
theorem dX10_isAsSeen_46 : decode cX10_isAsSeen 46 = .ok (.goto (-44), 3) := by decide +kernel
theorem dX10_isAsSeen_41 : decode cX10_isAsSeen 41 = .ok (.iconst 0, 1) := by decide +kernel
theorem dX10_isAsSeen_42 : decode cX10_isAsSeen 42 = .ok (.ireturn, 1) := by decide +kernel
theorem tw_373 : (Jvm.Cond.fieldLink "MarshBells$Trials" (134 : Nat) "MarshBells$Trials" "fitting" "I") ∈ lw_tbl := tk_2 (List.mem_of_getElem? (i := 133) rfl)
theorem fl_X10_134 : kFL RX10 134 10 7 4 := ⟨RX10, TX10, rfl, by decide, inWX10, tw_373⟩
theorem tw_377 : (Jvm.Cond.fieldLink "MarshBells$Trials" (140 : Nat) "MarshBells$Trials" "surely" "I") ∈ lw_tbl := tk_2 (List.mem_of_getElem? (i := 137) rfl)
theorem fl_X10_140 : kFL RX10 140 10 7 6 := ⟨RX10, TX10, rfl, by decide, inWX10, tw_377⟩
theorem dX10_addBeginner_0 : decode cX10_addBeginner 0 = .ok (.aload_n 0, 1) := by decide +kernel
theorem dX10_addBeginner_1 : decode cX10_addBeginner 1 = .ok (.getfield 134, 3) := by decide +kernel
theorem dX10_addBeginner_38 : decode cX10_addBeginner 38 = .ok (.aload_n 0, 1) := by decide +kernel
theorem dX10_addBeginner_39 : decode cX10_addBeginner 39 = .ok (.dup, 1) := by decide +kernel
theorem dX10_addBeginner_40 : decode cX10_addBeginner 40 = .ok (.getfield 134, 3) := by decide +kernel
theorem dX10_addBeginner_43 : decode cX10_addBeginner 43 = .ok (.iconst 1, 1) := by decide +kernel
theorem dX10_addBeginner_44 : decode cX10_addBeginner 44 = .ok (.iadd, 1) := by decide +kernel
theorem ft_X10_4 : kFT 10 4 .int false RX10 := ⟨RX10, TX10, 7, tyX10, rfl, tyX10_ok, nmX10, rfl, by decide +kernel, rfl⟩
theorem dX10_addBeginner_45 : decode cX10_addBeginner 45 = .ok (.putfield 134, 3) := by decide +kernel
theorem dX10_addBeginner_48 : decode cX10_addBeginner 48 = .ok (.return_, 1) := by decide +kernel
theorem dX10_addBeginner_4 : decode cX10_addBeginner 4 = .ok (.ifCond .ne 21, 3) := by decide +kernel
theorem dX10_addBeginner_25 : decode cX10_addBeginner 25 = .ok (.aload_n 0, 1) := by decide +kernel
theorem dX10_addBeginner_26 : decode cX10_addBeginner 26 = .ok (.getfield 140, 3) := by decide +kernel
theorem dX10_addBeginner_29 : decode cX10_addBeginner 29 = .ok (.iload_n 1, 1) := by decide +kernel
theorem dX10_addBeginner_30 : decode cX10_addBeginner 30 = .ok (.if_icmp .eq 8, 3) := by decide +kernel
theorem dX10_addBeginner_33 : decode cX10_addBeginner 33 = .ok (.aload_n 0, 1) := by decide +kernel
theorem dX10_addBeginner_34 : decode cX10_addBeginner 34 = .ok (.iconst (-1), 1) := by decide +kernel
theorem ft_X10_6 : kFT 10 6 .int false RX10 := ⟨RX10, TX10, 7, tyX10, rfl, tyX10_ok, nmX10, rfl, by decide +kernel, rfl⟩
theorem dX10_addBeginner_35 : decode cX10_addBeginner 35 = .ok (.putfield 140, 3) := by decide +kernel
theorem dX10_addBeginner_7 : decode cX10_addBeginner 7 = .ok (.aload_n 0, 1) := by decide +kernel
theorem dX10_addBeginner_8 : decode cX10_addBeginner 8 = .ok (.bipush 100, 2) := by decide +kernel
theorem dX10_addBeginner_10 : decode cX10_addBeginner 10 = .ok (.iload_n 1, 1) := by decide +kernel
theorem dX10_addBeginner_11 : decode cX10_addBeginner 11 = .ok (.imul, 1) := by decide +kernel
theorem dX10_addBeginner_12 : decode cX10_addBeginner 12 = .ok (.iload_n 2, 1) := by decide +kernel
theorem dX10_addBeginner_13 : decode cX10_addBeginner 13 = .ok (.iadd, 1) := by decide +kernel
theorem tw_375 : (Jvm.Cond.fieldLink "MarshBells$Trials" (137 : Nat) "MarshBells$Trials" "firstFitting" "I") ∈ lw_tbl := tk_2 (List.mem_of_getElem? (i := 135) rfl)
theorem fl_X10_137 : kFL RX10 137 10 7 5 := ⟨RX10, TX10, rfl, by decide, inWX10, tw_375⟩
theorem ft_X10_5 : kFT 10 5 .int false RX10 := ⟨RX10, TX10, 7, tyX10, rfl, tyX10_ok, nmX10, rfl, by decide +kernel, rfl⟩
theorem dX10_addBeginner_14 : decode cX10_addBeginner 14 = .ok (.putfield 137, 3) := by decide +kernel
theorem dX10_addBeginner_17 : decode cX10_addBeginner 17 = .ok (.aload_n 0, 1) := by decide +kernel
theorem dX10_addBeginner_18 : decode cX10_addBeginner 18 = .ok (.iload_n 1, 1) := by decide +kernel
theorem dX10_addBeginner_19 : decode cX10_addBeginner 19 = .ok (.putfield 140, 3) := by decide +kernel
theorem dX10_addBeginner_22 : decode cX10_addBeginner 22 = .ok (.goto 16, 3) := by decide +kernel
theorem dX10_findBeginners_0 : decode cX10_findBeginners 0 = .ok (.aload_n 0, 1) := by decide +kernel
theorem dX10_findBeginners_1 : decode cX10_findBeginners 1 = .ok (.iconst 0, 1) := by decide +kernel
theorem dX10_findBeginners_2 : decode cX10_findBeginners 2 = .ok (.putfield 134, 3) := by decide +kernel
theorem dX10_findBeginners_5 : decode cX10_findBeginners 5 = .ok (.aload_n 0, 1) := by decide +kernel
theorem dX10_findBeginners_6 : decode cX10_findBeginners 6 = .ok (.iconst (-1), 1) := by decide +kernel
theorem dX10_findBeginners_7 : decode cX10_findBeginners 7 = .ok (.putfield 137, 3) := by decide +kernel
theorem dX10_findBeginners_10 : decode cX10_findBeginners 10 = .ok (.aload_n 0, 1) := by decide +kernel
theorem dX10_findBeginners_11 : decode cX10_findBeginners 11 = .ok (.iconst (-1), 1) := by decide +kernel
theorem dX10_findBeginners_12 : decode cX10_findBeginners 12 = .ok (.putfield 140, 3) := by decide +kernel
theorem dX10_findBeginners_15 : decode cX10_findBeginners 15 = .ok (.iconst 0, 1) := by decide +kernel
theorem dX10_findBeginners_16 : decode cX10_findBeginners 16 = .ok (.istore_n 1, 1) := by decide +kernel
theorem dX10_findBeginners_17 : decode cX10_findBeginners 17 = .ok (.iload_n 1, 1) := by decide +kernel
theorem dX10_findBeginners_18 : decode cX10_findBeginners 18 = .ok (.aload_n 0, 1) := by decide +kernel
theorem dX10_findBeginners_19 : decode cX10_findBeginners 19 = .ok (.invokevirtual 64, 3) := by decide +kernel
theorem dX10_findBeginners_22 : decode cX10_findBeginners 22 = .ok (.if_icmp .ge 82, 3) := by decide +kernel
theorem dX10_findBeginners_104 : decode cX10_findBeginners 104 = .ok (.return_, 1) := by decide +kernel
theorem dX10_findBeginners_25 : decode cX10_findBeginners 25 = .ok (.aload_n 0, 1) := by decide +kernel
theorem dX10_findBeginners_26 : decode cX10_findBeginners 26 = .ok (.getfield 22, 3) := by decide +kernel
theorem dX10_findBeginners_29 : decode cX10_findBeginners 29 = .ok (.iconst 0, 1) := by decide +kernel
theorem dX10_findBeginners_30 : decode cX10_findBeginners 30 = .ok (.invokevirtual 43, 3) := by decide +kernel
theorem dX10_findBeginners_33 : decode cX10_findBeginners 33 = .ok (.aload_n 0, 1) := by decide +kernel
theorem dX10_findBeginners_34 : decode cX10_findBeginners 34 = .ok (.getfield 32, 3) := by decide +kernel
theorem dX10_findBeginners_37 : decode cX10_findBeginners 37 = .ok (.getfield 56, 3) := by decide +kernel
theorem dX10_findBeginners_40 : decode cX10_findBeginners 40 = .ok (.iload_n 1, 1) := by decide +kernel
theorem dX10_findBeginners_41 : decode cX10_findBeginners 41 = .ok (.iaload, 1) := by decide +kernel
theorem dX10_findBeginners_42 : decode cX10_findBeginners 42 = .ok (.istore_n 2, 1) := by decide +kernel
theorem dX10_findBeginners_43 : decode cX10_findBeginners 43 = .ok (.iconst 0, 1) := by decide +kernel
theorem dX10_findBeginners_44 : decode cX10_findBeginners 44 = .ok (.istore_n 3, 1) := by decide +kernel
theorem dX10_findBeginners_45 : decode cX10_findBeginners 45 = .ok (.iload_n 3, 1) := by decide +kernel
theorem dX10_findBeginners_46 : decode cX10_findBeginners 46 = .ok (.bipush 30, 2) := by decide +kernel
theorem dX10_findBeginners_48 : decode cX10_findBeginners 48 = .ok (.if_icmp .gt 40, 3) := by decide +kernel
theorem dX10_findBeginners_88 : decode cX10_findBeginners 88 = .ok (.aload_n 0, 1) := by decide +kernel
theorem dX10_findBeginners_89 : decode cX10_findBeginners 89 = .ok (.getfield 32, 3) := by decide +kernel
theorem dX10_findBeginners_92 : decode cX10_findBeginners 92 = .ok (.getfield 56, 3) := by decide +kernel
theorem dX10_findBeginners_95 : decode cX10_findBeginners 95 = .ok (.iload_n 1, 1) := by decide +kernel
theorem dX10_findBeginners_96 : decode cX10_findBeginners 96 = .ok (.iload_n 2, 1) := by decide +kernel
theorem dX10_findBeginners_97 : decode cX10_findBeginners 97 = .ok (.iastore, 1) := by decide +kernel
theorem dX10_findBeginners_98 : decode cX10_findBeginners 98 = .ok (.iinc 1 1, 3) := by decide +kernel
theorem dX10_findBeginners_101 : decode cX10_findBeginners 101 = .ok (.goto (-84), 3) := by decide +kernel
theorem dX10_findBeginners_51 : decode cX10_findBeginners 51 = .ok (.aload_n 0, 1) := by decide +kernel
theorem dX10_findBeginners_52 : decode cX10_findBeginners 52 = .ok (.getfield 32, 3) := by decide +kernel
theorem dX10_findBeginners_55 : decode cX10_findBeginners 55 = .ok (.getfield 56, 3) := by decide +kernel
theorem dX10_findBeginners_58 : decode cX10_findBeginners 58 = .ok (.iload_n 1, 1) := by decide +kernel
theorem dX10_findBeginners_59 : decode cX10_findBeginners 59 = .ok (.iload_n 3, 1) := by decide +kernel
theorem dX10_findBeginners_60 : decode cX10_findBeginners 60 = .ok (.iastore, 1) := by decide +kernel
theorem dX10_findBeginners_61 : decode cX10_findBeginners 61 = .ok (.aload_n 0, 1) := by decide +kernel
theorem dX10_findBeginners_62 : decode cX10_findBeginners 62 = .ok (.getfield 22, 3) := by decide +kernel
theorem dX10_findBeginners_65 : decode cX10_findBeginners 65 = .ok (.iload_n 1, 1) := by decide +kernel
theorem dX10_findBeginners_66 : decode cX10_findBeginners 66 = .ok (.invokevirtual 43, 3) := by decide +kernel
theorem dX10_findBeginners_69 : decode cX10_findBeginners 69 = .ok (.aload_n 0, 1) := by decide +kernel
theorem tw_1292 : (Jvm.Cond.methodLink "MarshBells$Trials" (143 : Nat) ({ cls := "MarshBells$Trials", name := "isAsSeen", desc := "()Z" } : Jvm.MethodName)) ∈ lw_tbl := tk_6 (List.mem_of_getElem? (i := 92) rfl)
theorem tw_1295 : (Jvm.Cond.code ({ cls := "MarshBells$Trials", name := "isAsSeen", desc := "()Z" } : Jvm.MethodName) prog_12_method_19_code (2 : Nat) (Option.some Jvm.ClassFile.FieldType.boolean)) ∈ lw_tbl := tk_6 (List.mem_of_getElem? (i := 95) rfl)
theorem tw_1294 : (Jvm.Cond.instanceMethod ({ cls := "MarshBells$Trials", name := "isAsSeen", desc := "()Z" } : Jvm.MethodName)) ∈ lw_tbl := tk_6 (List.mem_of_getElem? (i := 94) rfl)
theorem se_X10_isAsSeen : Cond.selects RX10 yX10_isAsSeen yX10_isAsSeen ∈ lw_tbl := List.mem_append_left _ (List.mem_of_getElem? (i := 92) rfl)
theorem li_X10_143 : kLV RX10 143 RX10 yX10_isAsSeen cX10_isAsSeen 2 (some .boolean) 0 := ⟨tw_1292, tw_1294, se_X10_isAsSeen, tw_1295, tw_8, by decide +kernel⟩
theorem dX10_findBeginners_70 : decode cX10_findBeginners 70 = .ok (.invokevirtual 143, 3) := by decide +kernel
theorem dX10_findBeginners_82 : decode cX10_findBeginners 82 = .ok (.iinc 3 1, 3) := by decide +kernel
theorem dX10_findBeginners_85 : decode cX10_findBeginners 85 = .ok (.goto (-40), 3) := by decide +kernel
theorem dX10_findBeginners_73 : decode cX10_findBeginners 73 = .ok (.ifCond .eq 9, 3) := by decide +kernel
theorem dX10_findBeginners_76 : decode cX10_findBeginners 76 = .ok (.aload_n 0, 1) := by decide +kernel
theorem dX10_findBeginners_77 : decode cX10_findBeginners 77 = .ok (.iload_n 1, 1) := by decide +kernel
theorem dX10_findBeginners_78 : decode cX10_findBeginners 78 = .ok (.iload_n 3, 1) := by decide +kernel
theorem tw_1297 : (Jvm.Cond.methodLink "MarshBells$Trials" (147 : Nat) ({ cls := "MarshBells$Trials", name := "addBeginner", desc := "(II)V" } : Jvm.MethodName)) ∈ lw_tbl := tk_6 (List.mem_of_getElem? (i := 97) rfl)
theorem tw_1300 : (Jvm.Cond.code ({ cls := "MarshBells$Trials", name := "addBeginner", desc := "(II)V" } : Jvm.MethodName) prog_12_method_20_code (3 : Nat) (Option.none : Option Jvm.ClassFile.FieldType)) ∈ lw_tbl := tk_6 (List.mem_of_getElem? (i := 100) rfl)
theorem tw_1299 : (Jvm.Cond.instanceMethod ({ cls := "MarshBells$Trials", name := "addBeginner", desc := "(II)V" } : Jvm.MethodName)) ∈ lw_tbl := tk_6 (List.mem_of_getElem? (i := 99) rfl)
theorem se_X10_addBeginner : Cond.selects RX10 yX10_addBeginner yX10_addBeginner ∈ lw_tbl := List.mem_append_left _ (List.mem_of_getElem? (i := 93) rfl)
theorem li_X10_147 : kLV RX10 147 RX10 yX10_addBeginner cX10_addBeginner 3 none 2 := ⟨tw_1297, tw_1299, se_X10_addBeginner, tw_1300, tw_8, by decide +kernel⟩
theorem dX10_findBeginners_79 : decode cX10_findBeginners 79 = .ok (.invokevirtual 147, 3) := by decide +kernel
theorem tw_155 : (Jvm.Cond.fieldLinkNest "MarshBells$Trials" (162 : Nat) "MarshBells$Plan" "lessons" "[LMarshBells$Lesson;" "MarshBells") ∈ lw_tbl := tk_1 (List.mem_of_getElem? (i := 155) rfl)
theorem fl_X10_162 : kFN RX10 162 7 5 0 := ⟨RX7, TX7, rfl, by decide, inWX7, tw_155⟩
theorem tw_87 : (Jvm.Cond.fieldLinkNest "MarshBells$Trials" (166 : Nat) "MarshBells$Lesson" "from" "I" "MarshBells") ∈ lw_tbl := tk_1 (List.mem_of_getElem? (i := 87) rfl)
theorem fl_X10_166 : kFN RX10 166 5 14 3 := ⟨RX5, TX5, rfl, by decide, inWX5, tw_87⟩
theorem tw_91 : (Jvm.Cond.fieldLinkNest "MarshBells$Trials" (171 : Nat) "MarshBells$Lesson" "to" "I" "MarshBells") ∈ lw_tbl := tk_1 (List.mem_of_getElem? (i := 91) rfl)
theorem fl_X10_171 : kFN RX10 171 5 14 4 := ⟨RX5, TX5, rfl, by decide, inWX5, tw_91⟩
theorem dX10_leastByShift_0 : decode cX10_leastByShift 0 = .ok (.aload_n 0, 1) := by decide +kernel
theorem dX10_leastByShift_1 : decode cX10_leastByShift 1 = .ok (.getfield 22, 3) := by decide +kernel
theorem dX10_leastByShift_4 : decode cX10_leastByShift 4 = .ok (.getfield 33, 3) := by decide +kernel
theorem dX10_leastByShift_7 : decode cX10_leastByShift 7 = .ok (.getfield 162, 3) := by decide +kernel
theorem dX10_leastByShift_10 : decode cX10_leastByShift 10 = .ok (.iload_n 1, 1) := by decide +kernel
theorem dX10_leastByShift_11 : decode cX10_leastByShift 11 = .ok (.aaload, 1) := by decide +kernel
theorem dX10_leastByShift_12 : decode cX10_leastByShift 12 = .ok (.astore_n 3, 1) := by decide +kernel
theorem dX10_leastByShift_13 : decode cX10_leastByShift 13 = .ok (.aload_n 3, 1) := by decide +kernel
theorem dX10_leastByShift_14 : decode cX10_leastByShift 14 = .ok (.getfield 166, 3) := by decide +kernel
theorem dX10_leastByShift_17 : decode cX10_leastByShift 17 = .ok (.istore 4, 2) := by decide +kernel
theorem dX10_leastByShift_19 : decode cX10_leastByShift 19 = .ok (.aload_n 3, 1) := by decide +kernel
theorem dX10_leastByShift_20 : decode cX10_leastByShift 20 = .ok (.getfield 171, 3) := by decide +kernel
theorem dX10_leastByShift_23 : decode cX10_leastByShift 23 = .ok (.istore 5, 2) := by decide +kernel
theorem dX10_leastByShift_25 : decode cX10_leastByShift 25 = .ok (.aload_n 0, 1) := by decide +kernel
theorem dX10_leastByShift_26 : decode cX10_leastByShift 26 = .ok (.getfield 22, 3) := by decide +kernel
theorem dX10_leastByShift_29 : decode cX10_leastByShift 29 = .ok (.iconst 0, 1) := by decide +kernel
theorem dX10_leastByShift_30 : decode cX10_leastByShift 30 = .ok (.invokevirtual 43, 3) := by decide +kernel
theorem dX10_leastByShift_33 : decode cX10_leastByShift 33 = .ok (.aload_n 0, 1) := by decide +kernel
theorem dX10_leastByShift_34 : decode cX10_leastByShift 34 = .ok (.getfield 12, 3) := by decide +kernel
theorem dX10_leastByShift_37 : decode cX10_leastByShift 37 = .ok (.invokevirtual 81, 3) := by decide +kernel
theorem dX10_leastByShift_40 : decode cX10_leastByShift 40 = .ok (.bipush (-20), 2) := by decide +kernel
theorem dX10_leastByShift_42 : decode cX10_leastByShift 42 = .ok (.istore 6, 2) := by decide +kernel
theorem dX10_leastByShift_44 : decode cX10_leastByShift 44 = .ok (.iload 6, 2) := by decide +kernel
theorem dX10_leastByShift_46 : decode cX10_leastByShift 46 = .ok (.bipush 20, 2) := by decide +kernel
theorem dX10_leastByShift_48 : decode cX10_leastByShift 48 = .ok (.if_icmp .gt 63, 3) := by decide +kernel
theorem dX10_leastByShift_111 : decode cX10_leastByShift 111 = .ok (.aload_n 3, 1) := by decide +kernel
theorem dX10_leastByShift_112 : decode cX10_leastByShift 112 = .ok (.iload 4, 2) := by decide +kernel
theorem ft_X5_3 : kFT 5 3 .int false RX5 := ⟨RX5, TX5, 14, tyX5, rfl, tyX5_ok, nmX5, rfl, by decide +kernel, rfl⟩
theorem dX10_leastByShift_114 : decode cX10_leastByShift 114 = .ok (.putfield 166, 3) := by decide +kernel
theorem dX10_leastByShift_117 : decode cX10_leastByShift 117 = .ok (.aload_n 3, 1) := by decide +kernel
theorem dX10_leastByShift_118 : decode cX10_leastByShift 118 = .ok (.iload 5, 2) := by decide +kernel
theorem ft_X5_4 : kFT 5 4 .int false RX5 := ⟨RX5, TX5, 14, tyX5, rfl, tyX5_ok, nmX5, rfl, by decide +kernel, rfl⟩
theorem dX10_leastByShift_120 : decode cX10_leastByShift 120 = .ok (.putfield 171, 3) := by decide +kernel
theorem dX10_leastByShift_123 : decode cX10_leastByShift 123 = .ok (.aload_n 0, 1) := by decide +kernel
theorem dX10_leastByShift_124 : decode cX10_leastByShift 124 = .ok (.getfield 12, 3) := by decide +kernel
theorem dX10_leastByShift_127 : decode cX10_leastByShift 127 = .ok (.iload_n 2, 1) := by decide +kernel
theorem dX10_leastByShift_128 : decode cX10_leastByShift 128 = .ok (.invokevirtual 97, 3) := by decide +kernel
theorem dX10_leastByShift_131 : decode cX10_leastByShift 131 = .ok (.ireturn, 1) := by decide +kernel
theorem dX10_leastByShift_51 : decode cX10_leastByShift 51 = .ok (.iload 4, 2) := by decide +kernel
theorem dX10_leastByShift_53 : decode cX10_leastByShift 53 = .ok (.iload 6, 2) := by decide +kernel
theorem dX10_leastByShift_55 : decode cX10_leastByShift 55 = .ok (.iadd, 1) := by decide +kernel
theorem dX10_leastByShift_105 : decode cX10_leastByShift 105 = .ok (.iinc 6 1, 3) := by decide +kernel
theorem dX10_leastByShift_108 : decode cX10_leastByShift 108 = .ok (.goto (-64), 3) := by decide +kernel
theorem dX10_leastByShift_56 : decode cX10_leastByShift 56 = .ok (.ifCond .lt 49, 3) := by decide +kernel
theorem dX10_leastByShift_59 : decode cX10_leastByShift 59 = .ok (.iload 5, 2) := by decide +kernel
theorem dX10_leastByShift_61 : decode cX10_leastByShift 61 = .ok (.iload 6, 2) := by decide +kernel
theorem dX10_leastByShift_63 : decode cX10_leastByShift 63 = .ok (.iadd, 1) := by decide +kernel
theorem dX10_leastByShift_64 : decode cX10_leastByShift 64 = .ok (.sipush 999, 3) := by decide +kernel
theorem dX10_leastByShift_67 : decode cX10_leastByShift 67 = .ok (.if_icmp .gt 38, 3) := by decide +kernel
theorem dX10_leastByShift_70 : decode cX10_leastByShift 70 = .ok (.aload_n 3, 1) := by decide +kernel
theorem dX10_leastByShift_71 : decode cX10_leastByShift 71 = .ok (.iload 4, 2) := by decide +kernel
theorem dX10_leastByShift_73 : decode cX10_leastByShift 73 = .ok (.iload 6, 2) := by decide +kernel
theorem dX10_leastByShift_75 : decode cX10_leastByShift 75 = .ok (.iadd, 1) := by decide +kernel
theorem dX10_leastByShift_76 : decode cX10_leastByShift 76 = .ok (.putfield 166, 3) := by decide +kernel
theorem dX10_leastByShift_79 : decode cX10_leastByShift 79 = .ok (.aload_n 3, 1) := by decide +kernel
theorem dX10_leastByShift_80 : decode cX10_leastByShift 80 = .ok (.iload 5, 2) := by decide +kernel
theorem dX10_leastByShift_82 : decode cX10_leastByShift 82 = .ok (.iload 6, 2) := by decide +kernel
theorem dX10_leastByShift_84 : decode cX10_leastByShift 84 = .ok (.iadd, 1) := by decide +kernel
theorem dX10_leastByShift_85 : decode cX10_leastByShift 85 = .ok (.putfield 171, 3) := by decide +kernel
theorem dX10_leastByShift_88 : decode cX10_leastByShift 88 = .ok (.aload_n 0, 1) := by decide +kernel
theorem dX10_leastByShift_89 : decode cX10_leastByShift 89 = .ok (.getfield 12, 3) := by decide +kernel
theorem dX10_leastByShift_92 : decode cX10_leastByShift 92 = .ok (.iload 6, 2) := by decide +kernel
theorem dX10_leastByShift_94 : decode cX10_leastByShift 94 = .ok (.aload_n 0, 1) := by decide +kernel
theorem dX10_leastByShift_95 : decode cX10_leastByShift 95 = .ok (.getfield 22, 3) := by decide +kernel
theorem dX10_leastByShift_98 : decode cX10_leastByShift 98 = .ok (.iload_n 1, 1) := by decide +kernel
theorem dX10_leastByShift_99 : decode cX10_leastByShift 99 = .ok (.invokevirtual 77, 3) := by decide +kernel
theorem dX10_leastByShift_102 : decode cX10_leastByShift 102 = .ok (.invokevirtual 87, 3) := by decide +kernel
theorem dX10_harmDone_0 : decode cX10_harmDone 0 = .ok (.aload_n 0, 1) := by decide +kernel
theorem dX10_harmDone_1 : decode cX10_harmDone 1 = .ok (.getfield 22, 3) := by decide +kernel
theorem dX10_harmDone_4 : decode cX10_harmDone 4 = .ok (.iconst 0, 1) := by decide +kernel
theorem dX10_harmDone_5 : decode cX10_harmDone 5 = .ok (.invokevirtual 43, 3) := by decide +kernel
theorem dX10_harmDone_8 : decode cX10_harmDone 8 = .ok (.aload_n 0, 1) := by decide +kernel
theorem dX10_harmDone_9 : decode cX10_harmDone 9 = .ok (.getfield 22, 3) := by decide +kernel
theorem dX10_harmDone_12 : decode cX10_harmDone 12 = .ok (.iload_n 2, 1) := by decide +kernel
theorem dX10_harmDone_13 : decode cX10_harmDone 13 = .ok (.invokevirtual 156, 3) := by decide +kernel
theorem dX10_harmDone_16 : decode cX10_harmDone 16 = .ok (.istore_n 3, 1) := by decide +kernel
theorem dX10_harmDone_17 : decode cX10_harmDone 17 = .ok (.aload_n 0, 1) := by decide +kernel
theorem dX10_harmDone_18 : decode cX10_harmDone 18 = .ok (.getfield 32, 3) := by decide +kernel
theorem dX10_harmDone_21 : decode cX10_harmDone 21 = .ok (.getfield 56, 3) := by decide +kernel
theorem dX10_harmDone_24 : decode cX10_harmDone 24 = .ok (.iload_n 1, 1) := by decide +kernel
theorem dX10_harmDone_25 : decode cX10_harmDone 25 = .ok (.iaload, 1) := by decide +kernel
theorem dX10_harmDone_26 : decode cX10_harmDone 26 = .ok (.istore 4, 2) := by decide +kernel
theorem dX10_harmDone_28 : decode cX10_harmDone 28 = .ok (.aload_n 0, 1) := by decide +kernel
theorem dX10_harmDone_29 : decode cX10_harmDone 29 = .ok (.getfield 32, 3) := by decide +kernel
theorem dX10_harmDone_32 : decode cX10_harmDone 32 = .ok (.getfield 56, 3) := by decide +kernel
theorem dX10_harmDone_35 : decode cX10_harmDone 35 = .ok (.iload_n 1, 1) := by decide +kernel
theorem dX10_harmDone_36 : decode cX10_harmDone 36 = .ok (.iconst 0, 1) := by decide +kernel
theorem dX10_harmDone_37 : decode cX10_harmDone 37 = .ok (.iastore, 1) := by decide +kernel
theorem dX10_harmDone_38 : decode cX10_harmDone 38 = .ok (.aload_n 0, 1) := by decide +kernel
theorem dX10_harmDone_39 : decode cX10_harmDone 39 = .ok (.getfield 22, 3) := by decide +kernel
theorem dX10_harmDone_42 : decode cX10_harmDone 42 = .ok (.iload_n 1, 1) := by decide +kernel
theorem dX10_harmDone_43 : decode cX10_harmDone 43 = .ok (.invokevirtual 43, 3) := by decide +kernel
theorem dX10_harmDone_46 : decode cX10_harmDone 46 = .ok (.aload_n 0, 1) := by decide +kernel
theorem dX10_harmDone_47 : decode cX10_harmDone 47 = .ok (.getfield 32, 3) := by decide +kernel
theorem dX10_harmDone_50 : decode cX10_harmDone 50 = .ok (.getfield 56, 3) := by decide +kernel
theorem dX10_harmDone_53 : decode cX10_harmDone 53 = .ok (.iload_n 1, 1) := by decide +kernel
theorem dX10_harmDone_54 : decode cX10_harmDone 54 = .ok (.iload 4, 2) := by decide +kernel
theorem dX10_harmDone_56 : decode cX10_harmDone 56 = .ok (.iastore, 1) := by decide +kernel
theorem dX10_harmDone_57 : decode cX10_harmDone 57 = .ok (.iload_n 3, 1) := by decide +kernel
theorem dX10_harmDone_58 : decode cX10_harmDone 58 = .ok (.aload_n 0, 1) := by decide +kernel
theorem dX10_harmDone_59 : decode cX10_harmDone 59 = .ok (.getfield 22, 3) := by decide +kernel
theorem dX10_harmDone_62 : decode cX10_harmDone 62 = .ok (.iload_n 2, 1) := by decide +kernel
theorem dX10_harmDone_63 : decode cX10_harmDone 63 = .ok (.invokevirtual 156, 3) := by decide +kernel
theorem dX10_harmDone_66 : decode cX10_harmDone 66 = .ok (.isub, 1) := by decide +kernel
theorem dX10_harmDone_67 : decode cX10_harmDone 67 = .ok (.ireturn, 1) := by decide +kernel
theorem tw_244 : (Jvm.Cond.fieldLinkNest "MarshBells$Trials" (177 : Nat) "MarshBells$Held" "gaps" "[I" "MarshBells") ∈ lw_tbl := tk_2 (List.mem_of_getElem? (i := 4) rfl)
theorem fl_X10_177 : kFN RX10 177 3 12 1 := ⟨RX3, TX3, rfl, by decide, inWX3, tw_244⟩
theorem dX10_addGapFrom_0 : decode cX10_addGapFrom 0 = .ok (.iconst 0, 1) := by decide +kernel
theorem dX10_addGapFrom_1 : decode cX10_addGapFrom 1 = .ok (.istore_n 3, 1) := by decide +kernel
theorem dX10_addGapFrom_2 : decode cX10_addGapFrom 2 = .ok (.iload_n 3, 1) := by decide +kernel
theorem dX10_addGapFrom_3 : decode cX10_addGapFrom 3 = .ok (.aload_n 0, 1) := by decide +kernel
theorem dX10_addGapFrom_4 : decode cX10_addGapFrom 4 = .ok (.invokevirtual 64, 3) := by decide +kernel
theorem dX10_addGapFrom_7 : decode cX10_addGapFrom 7 = .ok (.if_icmp .ge 41, 3) := by decide +kernel
theorem dX10_addGapFrom_48 : decode cX10_addGapFrom 48 = .ok (.return_, 1) := by decide +kernel
theorem dX10_addGapFrom_10 : decode cX10_addGapFrom 10 = .ok (.aload_n 0, 1) := by decide +kernel
theorem dX10_addGapFrom_11 : decode cX10_addGapFrom 11 = .ok (.getfield 22, 3) := by decide +kernel
theorem dX10_addGapFrom_14 : decode cX10_addGapFrom 14 = .ok (.getfield 33, 3) := by decide +kernel
theorem dX10_addGapFrom_17 : decode cX10_addGapFrom 17 = .ok (.getfield 162, 3) := by decide +kernel
theorem dX10_addGapFrom_20 : decode cX10_addGapFrom 20 = .ok (.iload_n 3, 1) := by decide +kernel
theorem dX10_addGapFrom_21 : decode cX10_addGapFrom 21 = .ok (.aaload, 1) := by decide +kernel
theorem dX10_addGapFrom_22 : decode cX10_addGapFrom 22 = .ok (.getfield 166, 3) := by decide +kernel
theorem dX10_addGapFrom_25 : decode cX10_addGapFrom 25 = .ok (.iload_n 1, 1) := by decide +kernel
theorem dX10_addGapFrom_42 : decode cX10_addGapFrom 42 = .ok (.iinc 3 1, 3) := by decide +kernel
theorem dX10_addGapFrom_45 : decode cX10_addGapFrom 45 = .ok (.goto (-43), 3) := by decide +kernel
theorem dX10_addGapFrom_26 : decode cX10_addGapFrom 26 = .ok (.if_icmp .lt 16, 3) := by decide +kernel
theorem dX10_addGapFrom_29 : decode cX10_addGapFrom 29 = .ok (.aload_n 0, 1) := by decide +kernel
theorem dX10_addGapFrom_30 : decode cX10_addGapFrom 30 = .ok (.getfield 32, 3) := by decide +kernel
theorem dX10_addGapFrom_33 : decode cX10_addGapFrom 33 = .ok (.getfield 177, 3) := by decide +kernel
theorem dX10_addGapFrom_36 : decode cX10_addGapFrom 36 = .ok (.iload_n 3, 1) := by decide +kernel
theorem dX10_addGapFrom_37 : decode cX10_addGapFrom 37 = .ok (.dup2, 1) := by decide +kernel
theorem dX10_addGapFrom_38 : decode cX10_addGapFrom 38 = .ok (.iaload, 1) := by decide +kernel
theorem dX10_addGapFrom_39 : decode cX10_addGapFrom 39 = .ok (.iload_n 2, 1) := by decide +kernel
theorem dX10_addGapFrom_40 : decode cX10_addGapFrom 40 = .ok (.iadd, 1) := by decide +kernel
theorem dX10_addGapFrom_41 : decode cX10_addGapFrom 41 = .ok (.iastore, 1) := by decide +kernel
theorem dX10_leastByPause_0 : decode cX10_leastByPause 0 = .ok (.aload_n 0, 1) := by decide +kernel
theorem dX10_leastByPause_1 : decode cX10_leastByPause 1 = .ok (.getfield 12, 3) := by decide +kernel
theorem dX10_leastByPause_4 : decode cX10_leastByPause 4 = .ok (.invokevirtual 81, 3) := by decide +kernel
theorem dX10_leastByPause_7 : decode cX10_leastByPause 7 = .ok (.iconst 0, 1) := by decide +kernel
theorem dX10_leastByPause_8 : decode cX10_leastByPause 8 = .ok (.istore_n 3, 1) := by decide +kernel
theorem dX10_leastByPause_9 : decode cX10_leastByPause 9 = .ok (.iload_n 3, 1) := by decide +kernel
theorem dX10_leastByPause_10 : decode cX10_leastByPause 10 = .ok (.aload_n 0, 1) := by decide +kernel
theorem dX10_leastByPause_11 : decode cX10_leastByPause 11 = .ok (.invokevirtual 64, 3) := by decide +kernel
theorem dX10_leastByPause_14 : decode cX10_leastByPause 14 = .ok (.if_icmp .ge 58, 3) := by decide +kernel
theorem dX10_leastByPause_72 : decode cX10_leastByPause 72 = .ok (.aload_n 0, 1) := by decide +kernel
theorem dX10_leastByPause_73 : decode cX10_leastByPause 73 = .ok (.getfield 12, 3) := by decide +kernel
theorem dX10_leastByPause_76 : decode cX10_leastByPause 76 = .ok (.iload_n 2, 1) := by decide +kernel
theorem dX10_leastByPause_77 : decode cX10_leastByPause 77 = .ok (.invokevirtual 97, 3) := by decide +kernel
theorem dX10_leastByPause_80 : decode cX10_leastByPause 80 = .ok (.ireturn, 1) := by decide +kernel
theorem dX10_leastByPause_17 : decode cX10_leastByPause 17 = .ok (.aload_n 0, 1) := by decide +kernel
theorem dX10_leastByPause_18 : decode cX10_leastByPause 18 = .ok (.getfield 22, 3) := by decide +kernel
theorem dX10_leastByPause_21 : decode cX10_leastByPause 21 = .ok (.getfield 33, 3) := by decide +kernel
theorem dX10_leastByPause_24 : decode cX10_leastByPause 24 = .ok (.getfield 162, 3) := by decide +kernel
theorem dX10_leastByPause_27 : decode cX10_leastByPause 27 = .ok (.iload_n 3, 1) := by decide +kernel
theorem dX10_leastByPause_28 : decode cX10_leastByPause 28 = .ok (.aaload, 1) := by decide +kernel
theorem dX10_leastByPause_29 : decode cX10_leastByPause 29 = .ok (.getfield 166, 3) := by decide +kernel
theorem dX10_leastByPause_32 : decode cX10_leastByPause 32 = .ok (.istore 4, 2) := by decide +kernel
theorem dX10_leastByPause_34 : decode cX10_leastByPause 34 = .ok (.aload_n 0, 1) := by decide +kernel
theorem dX10_leastByPause_35 : decode cX10_leastByPause 35 = .ok (.iload 4, 2) := by decide +kernel
theorem dX10_leastByPause_37 : decode cX10_leastByPause 37 = .ok (.iload_n 1, 1) := by decide +kernel
theorem tw_1413 : (Jvm.Cond.methodLink "MarshBells$Trials" (174 : Nat) ({ cls := "MarshBells$Trials", name := "addGapFrom", desc := "(II)V" } : Jvm.MethodName)) ∈ lw_tbl := tk_6 (List.mem_of_getElem? (i := 213) rfl)
theorem tw_1416 : (Jvm.Cond.code ({ cls := "MarshBells$Trials", name := "addGapFrom", desc := "(II)V" } : Jvm.MethodName) prog_12_method_24_code (4 : Nat) (Option.none : Option Jvm.ClassFile.FieldType)) ∈ lw_tbl := tk_6 (List.mem_of_getElem? (i := 216) rfl)
theorem tw_1415 : (Jvm.Cond.instanceMethod ({ cls := "MarshBells$Trials", name := "addGapFrom", desc := "(II)V" } : Jvm.MethodName)) ∈ lw_tbl := tk_6 (List.mem_of_getElem? (i := 215) rfl)
theorem se_X10_addGapFrom : Cond.selects RX10 yX10_addGapFrom yX10_addGapFrom ∈ lw_tbl := List.mem_append_left _ (List.mem_of_getElem? (i := 107) rfl)
theorem li_X10_174 : kLV RX10 174 RX10 yX10_addGapFrom cX10_addGapFrom 4 none 2 := ⟨tw_1413, tw_1415, se_X10_addGapFrom, tw_1416, tw_8, by decide +kernel⟩
theorem dX10_leastByPause_38 : decode cX10_leastByPause 38 = .ok (.invokevirtual 174, 3) := by decide +kernel
theorem dX10_leastByPause_41 : decode cX10_leastByPause 41 = .ok (.aload_n 0, 1) := by decide +kernel
theorem dX10_leastByPause_42 : decode cX10_leastByPause 42 = .ok (.getfield 12, 3) := by decide +kernel
theorem dX10_leastByPause_45 : decode cX10_leastByPause 45 = .ok (.iload 4, 2) := by decide +kernel
theorem dX10_leastByPause_47 : decode cX10_leastByPause 47 = .ok (.aload_n 0, 1) := by decide +kernel
theorem dX10_leastByPause_48 : decode cX10_leastByPause 48 = .ok (.getfield 22, 3) := by decide +kernel
theorem dX10_leastByPause_51 : decode cX10_leastByPause 51 = .ok (.iconst 0, 1) := by decide +kernel
theorem dX10_leastByPause_52 : decode cX10_leastByPause 52 = .ok (.invokevirtual 77, 3) := by decide +kernel
theorem dX10_leastByPause_55 : decode cX10_leastByPause 55 = .ok (.invokevirtual 87, 3) := by decide +kernel
theorem dX10_leastByPause_58 : decode cX10_leastByPause 58 = .ok (.aload_n 0, 1) := by decide +kernel
theorem dX10_leastByPause_59 : decode cX10_leastByPause 59 = .ok (.iload 4, 2) := by decide +kernel
theorem dX10_leastByPause_61 : decode cX10_leastByPause 61 = .ok (.iload_n 1, 1) := by decide +kernel
theorem dX10_leastByPause_62 : decode cX10_leastByPause 62 = .ok (.ineg, 1) := by decide +kernel
theorem dX10_leastByPause_63 : decode cX10_leastByPause 63 = .ok (.invokevirtual 174, 3) := by decide +kernel
theorem dX10_leastByPause_66 : decode cX10_leastByPause 66 = .ok (.iinc 3 1, 3) := by decide +kernel
theorem dX10_leastByPause_69 : decode cX10_leastByPause 69 = .ok (.goto (-60), 3) := by decide +kernel
def fX10_keepEnds_9 (fu : Nat) (g : Nat → Nat → Int32) (L : Nat → Nat → Int64) : Option ((Unit) × zS) :=
  cb (fX1_runFrom_8 fu 0 g L) (fun x1 g2 L3 =>
  stA g2 49 (va_cpy (g2 44) (g2 49) (Int32.toNatClampNeg 0) (Int32.toNatClampNeg 0) (Int32.toNatClampNeg 12)) (fun g5 =>
  some ((), (g5, L3))))
set_option maxHeartbeats 4000000 in
set_option maxRecDepth 100000 in
theorem rX10_keepEnds_9 (l : Launch) (G : kG) (sz : Nat) (b : Nat) (a : Nat → Nat) (fu : Nat) (g : Nat → Nat → Int32) (L : Nat → Nat → Int64) (res : Unit) (s9 : zS) (h : fX10_keepEnds_9 fu g L = some (res, s9)) : kM l yX10_keepEnds cX10_keepEnds 1 none { frames := 11, cells := 0, slots := 0, locals := 225 } G [.ref (a 9)] (zw G (XS b) 105 a g L) sz (kQv G (S := Unit) (fun _ => True) (fun _ => zw G (XS b) 105 a s9.1 s9.2)) := by
  refine kM.of (by decide) (Nat.le_of_ble_eq_true rfl) ?_
  intro p e s m below meth c A ls H C hr hlk hnm hP hD hS hl
  have C : kC G p s m c cX10_keepEnds 1 RX10 A := C
  have hx := C.1
  have hb := C.2.1
  have hl : lv_has ls 1 [(0, .ref (a 9))] := hl
  obtain ⟨locs, hlocs⟩ : ∃ q : List Loc, q = [] := ⟨_, rfl⟩
  rw [← hlocs] at hS
  rw [← hlocs]
  unfold fX10_keepEnds_9 at h
  refine lv_aload_n hx hb dX10_keepEnds_0 rfl (lv_at hl 0 rfl) ?_
  refine x_getr (Or.inl fl_X10_22) C hP (by decide) xs_9 rfl dX10_keepEnds_1 ?_
  refine lv_iconst (v := 0) hx hb dX10_keepEnds_4 (by decide) ?_
  obtain ⟨z_, g2, L3, hf4, h⟩ := cb_some h
  refine x_callNv (rest := []) li_X10_43 C (rX1_runFrom_8 l G H.size b a fu g L 0 z_ (g2, L3) hf4) (kR rfl) hP hD hS 8 1 rfl (zat (by decide) xs_8) rfl hl.1 rfl (Nat.le_of_ble_eq_true rfl) dX10_keepEnds_5 (fun u_ H locs e_ hP hD hS => ?_)
  have hP : va_P G.1 vwCl (zw G (XS b) 105 a g2 L3) H := hP
  have hD : va_D A (zw G (XS b) 105 a g2 L3) := hD
  refine lv_aload_n hx hb dX10_keepEnds_8 rfl (lv_at hl 0 rfl) ?_
  refine x_getr (Or.inl fl_X10_22) C hP (by decide) xs_9 rfl dX10_keepEnds_9 ?_
  refine x_getr (Or.inr fl_X10_47) C hP (by decide) xs_8 rfl dX10_keepEnds_12 ?_
  refine lv_iconst (v := 0) hx hb dX10_keepEnds_15 (by decide) ?_
  refine lv_aload_n hx hb dX10_keepEnds_16 rfl (lv_at hl 0 rfl) ?_
  refine x_getr (Or.inl fl_X10_18) C hP (by decide) xs_9 rfl dX10_keepEnds_17 ?_
  refine lv_iconst (v := 0) hx hb dX10_keepEnds_20 (by decide) ?_
  refine lv_bipush (v := 12) hx hb dX10_keepEnds_21 (by decide) ?_
  refine y_copy lc_X10_50 C hl.1 hP hD hS (by decide) (by decide) xs_44 xs_49 (by decide) (by decide) (by decide) (by decide) (by decide) (Nat.le_of_ble_eq_true rfl) (Nat.le_of_ble_eq_true rfl) dX10_keepEnds_23 h (fun g5 H locs h hP hD hS => ?_)
  exact y_vret C hr hlk hP hD hS h (Nat.le_of_ble_eq_true rfl) (Nat.le_of_ble_eq_true rfl) dX10_keepEnds_26
def fX10_runMore_9 (fu : Nat) (p1 : Int32) (p2 : Int32) (g : Nat → Nat → Int32) (L : Nat → Nat → Int64) : Option ((Unit) × zS) :=
  ck p1 12 (
  lti (g 25 (Int32.toNatClampNeg p1)) (fun x1 =>
  ck p1 12 (sti g 25 (Int32.toNatClampNeg p1) (x1 + p2) (fun g2 =>
  sti g2 8 9 p1 (fun g3 =>
  cb (fX1_runFrom_8 fu p1 g3 L) (fun x4 g5 L6 =>
  sti g5 8 9 (-1) (fun g8 =>
  ck p1 12 (sti g8 25 (Int32.toNatClampNeg p1) x1 (fun g9 =>
  some ((), (g9, L6)))))))))))
set_option maxHeartbeats 4000000 in
set_option maxRecDepth 100000 in
theorem rX10_runMore_9 (l : Launch) (G : kG) (sz : Nat) (b : Nat) (a : Nat → Nat) (fu : Nat) (g : Nat → Nat → Int32) (L : Nat → Nat → Int64) (p1 : Int32) (p2 : Int32) (res : Unit) (s9 : zS) (h : fX10_runMore_9 fu p1 p2 g L = some (res, s9)) : kM l yX10_runMore cX10_runMore 4 none { frames := 11, cells := 0, slots := 0, locals := 225 } G [.ref (a 9), .int p1, .int p2] (zw G (XS b) 105 a g L) sz (kQv G (S := Unit) (fun _ => True) (fun _ => zw G (XS b) 105 a s9.1 s9.2)) := by
  refine kM.of (by decide) (Nat.le_of_ble_eq_true rfl) ?_
  intro p e s m below meth c A ls H C hr hlk hnm hP hD hS hl
  have C : kC G p s m c cX10_runMore 4 RX10 A := C
  have hx := C.1
  have hb := C.2.1
  have hl : lv_has ls 4 [(0, .ref (a 9)), (1, .int p1), (2, .int p2)] := hl
  obtain ⟨locs, hlocs⟩ : ∃ q : List Loc, q = [] := ⟨_, rfl⟩
  rw [← hlocs] at hS
  rw [← hlocs]
  unfold fX10_runMore_9 at h
  refine lv_aload_n hx hb dX10_runMore_0 rfl (lv_at hl 0 rfl) ?_
  refine x_getr (Or.inl fl_X10_32) C hP (by decide) xs_9 rfl dX10_runMore_1 ?_
  refine x_getr (Or.inr fl_X10_56) C hP (by decide) xs_6 rfl dX10_runMore_4 ?_
  refine lv_iload_n hx hb dX10_runMore_7 rfl (lv_at hl 1 rfl) ?_
  refine y_ald C hP (by decide) xs_25 dX10_runMore_8 h (fun h => ?_)
  refine y_let h (fun x1 h => ?_)
  refine lv_istore_n (lv' := [(3, .int x1), (0, .ref (a 9)), (1, .int p1), (2, .int p2)]) hx hb dX10_runMore_9 rfl hl (by decide) rfl (fun ls hl => ?_)
  refine lv_aload_n hx hb dX10_runMore_10 rfl (lv_at hl 1 rfl) ?_
  refine x_getr (Or.inl fl_X10_32) C hP (by decide) xs_9 rfl dX10_runMore_11 ?_
  refine x_getr (Or.inr fl_X10_56) C hP (by decide) xs_6 rfl dX10_runMore_14 ?_
  refine lv_iload_n hx hb dX10_runMore_17 rfl (lv_at hl 2 rfl) ?_
  refine lv_iload_n hx hb dX10_runMore_18 rfl (lv_at hl 0 rfl) ?_
  refine lv_iload_n hx hb dX10_runMore_19 rfl (lv_at hl 3 rfl) ?_
  refine lv_iadd hx hb dX10_runMore_20 ?_
  refine y_ast C hP hD hS (by decide) xs_25 dX10_runMore_21 h (fun g2 H locs h hP hD hS => ?_)
  refine lv_aload_n hx hb dX10_runMore_22 rfl (lv_at hl 1 rfl) ?_
  refine x_getr (Or.inl fl_X10_22) C hP (by decide) xs_9 rfl dX10_runMore_23 ?_
  refine lv_iload_n hx hb dX10_runMore_26 rfl (lv_at hl 2 rfl) ?_
  refine y_puti (Or.inr fl_X10_61) ft_X1_9 C hP hD hS (by decide) xs_8 rfl rfl rfl dX10_runMore_27 h (fun g3 H locs h hP hD hS => ?_)
  refine lv_aload_n hx hb dX10_runMore_30 rfl (lv_at hl 1 rfl) ?_
  refine x_getr (Or.inl fl_X10_22) C hP (by decide) xs_9 rfl dX10_runMore_31 ?_
  refine lv_iload_n hx hb dX10_runMore_34 rfl (lv_at hl 2 rfl) ?_
  obtain ⟨z_, g5, L6, hf7, h⟩ := cb_some h
  refine x_callNv (rest := []) li_X10_43 C (rX1_runFrom_8 l G H.size b a fu g3 L p1 z_ (g5, L6) hf7) (kR rfl) hP hD hS 8 1 rfl (zat (by decide) xs_8) rfl hl.1 rfl (Nat.le_of_ble_eq_true rfl) dX10_runMore_35 (fun u_ H locs e_ hP hD hS => ?_)
  have hP : va_P G.1 vwCl (zw G (XS b) 105 a g5 L6) H := hP
  have hD : va_D A (zw G (XS b) 105 a g5 L6) := hD
  refine lv_aload_n hx hb dX10_runMore_38 rfl (lv_at hl 1 rfl) ?_
  refine x_getr (Or.inl fl_X10_22) C hP (by decide) xs_9 rfl dX10_runMore_39 ?_
  refine lv_iconst (v := -1) hx hb dX10_runMore_42 (by decide) ?_
  refine y_puti (Or.inr fl_X10_61) ft_X1_9 C hP hD hS (by decide) xs_8 rfl rfl rfl dX10_runMore_43 h (fun g8 H locs h hP hD hS => ?_)
  refine lv_aload_n hx hb dX10_runMore_46 rfl (lv_at hl 1 rfl) ?_
  refine x_getr (Or.inl fl_X10_32) C hP (by decide) xs_9 rfl dX10_runMore_47 ?_
  refine x_getr (Or.inr fl_X10_56) C hP (by decide) xs_6 rfl dX10_runMore_50 ?_
  refine lv_iload_n hx hb dX10_runMore_53 rfl (lv_at hl 2 rfl) ?_
  refine lv_iload_n hx hb dX10_runMore_54 rfl (lv_at hl 0 rfl) ?_
  refine y_ast C hP hD hS (by decide) xs_25 dX10_runMore_55 h (fun g9 H locs h hP hD hS => ?_)
  exact y_vret C hr hlk hP hD hS h (Nat.le_of_ble_eq_true rfl) (Nat.le_of_ble_eq_true rfl) dX10_runMore_56
def fX10_lessonCount_9 (fu : Nat) (g : Nat → Nat → Int32) (L : Nat → Nat → Int64) : Option ((Int32) × zS) :=
  some ((g 1 2), (g, L))
set_option maxHeartbeats 4000000 in
set_option maxRecDepth 100000 in
theorem rX10_lessonCount_9 (l : Launch) (G : kG) (sz : Nat) (b : Nat) (a : Nat → Nat) (fu : Nat) (g : Nat → Nat → Int32) (L : Nat → Nat → Int64) (res : Int32) (s9 : zS) (h : fX10_lessonCount_9 fu g L = some (res, s9)) : kM l yX10_lessonCount cX10_lessonCount 1 (some .int) { frames := 6, cells := 0, slots := 0, locals := 110 } G [.ref (a 9)] (zw G (XS b) 105 a g L) sz (kQi G (S := Unit) (fun r' _ => r' = res) (fun _ => zw G (XS b) 105 a s9.1 s9.2)) := by
  refine kM.of (by decide) (Nat.le_of_ble_eq_true rfl) ?_
  intro p e s m below meth c A ls H C hr hlk hnm hP hD hS hl
  have C : kC G p s m c cX10_lessonCount 1 RX10 A := C
  have hx := C.1
  have hb := C.2.1
  have hl : lv_has ls 1 [(0, .ref (a 9))] := hl
  obtain ⟨locs, hlocs⟩ : ∃ q : List Loc, q = [] := ⟨_, rfl⟩
  rw [← hlocs] at hS
  rw [← hlocs]
  unfold fX10_lessonCount_9 at h
  refine lv_aload_n hx hb dX10_lessonCount_0 rfl (lv_at hl 0 rfl) ?_
  refine x_getr (Or.inl fl_X10_22) C hP (by decide) xs_9 rfl dX10_lessonCount_1 ?_
  refine x_getr (Or.inr fl_X10_33) C hP (by decide) xs_8 rfl dX10_lessonCount_4 ?_
  refine x_getv (v := .int (g 1 2)) (Or.inr fl_X10_37) C hP (by decide) xs_1 rfl dX10_lessonCount_7 ?_
  exact y_iret C hr hlk hP hD hS h (Nat.le_of_ble_eq_true rfl) (Nat.le_of_ble_eq_true rfl) dX10_lessonCount_10
def fX10_laterBits_9_p36 (fu : Nat) (k4 : Int32 × Int32 × (Nat → Nat → Int32) × (Nat → Nat → Int64) → Option ((Int32) × zS)) (v1 : Int32) (v2 : Int32) (g : Nat → Nat → Int32) (L : Nat → Nat → Int64) : Option ((Int32) × zS) :=
  k4 (v1, (v2 + 1), g, L)
def fX10_laterBits_9_s4 (fu : Nat) (k4 : Int32 × Int32 × (Nat → Nat → Int32) × (Nat → Nat → Int64) → Option ((Int32) × zS)) (v1 : Int32) (v2 : Int32) (g : Nat → Nat → Int32) (L : Nat → Nat → Int64) : Option ((Int32) × zS) :=
  cb (fX10_lessonCount_9 fu g L) (fun x1 g2 L3 =>
  if x1 ≤ (v2 : Int32) then some (v1, (g2, L3))
  else ck v2 12 (
  ck v2 12 (
  if (g2 44 (Int32.toNatClampNeg v2)) ≤ (g2 49 (Int32.toNatClampNeg v2)) then fX10_laterBits_9_p36 fu k4 v1 v2 g2 L3
  else lti (v1 ||| ((1 : Int32) <<< ((v2 : Int32) &&& 31) : Int32)) (fun x7 =>
  fX10_laterBits_9_p36 fu k4 x7 v2 g2 L3))))
def fX10_laterBits_9_l4 (fu : Nat) (v1 : Int32) (v2 : Int32) (g : Nat → Nat → Int32) (L : Nat → Nat → Int64) : Option ((Int32) × zS) :=
  whileK (fun k v => fX10_laterBits_9_s4 fu k v.1 v.2.1 v.2.2.1 v.2.2.2) fu (v1, v2, g, L)
def fX10_laterBits_9 (fu : Nat) (g : Nat → Nat → Int32) (L : Nat → Nat → Int64) : Option ((Int32) × zS) :=
  fX10_laterBits_9_l4 fu 0 0 g L
set_option maxHeartbeats 4000000 in
set_option maxRecDepth 100000 in
theorem rX10_laterBits_9 (l : Launch) (G : kG) (sz : Nat) (b : Nat) (a : Nat → Nat) (fu : Nat) (g : Nat → Nat → Int32) (L : Nat → Nat → Int64) (res : Int32) (s9 : zS) (h : fX10_laterBits_9 fu g L = some (res, s9)) : kM l yX10_laterBits cX10_laterBits 3 (some .int) { frames := 7, cells := 0, slots := 0, locals := 130 } G [.ref (a 9)] (zw G (XS b) 105 a g L) sz (kQi G (S := Unit) (fun r' _ => r' = res) (fun _ => zw G (XS b) 105 a s9.1 s9.2)) := by
  refine kM.of (by decide) (Nat.le_of_ble_eq_true rfl) ?_
  intro p e s m below meth c A ls H C hr hlk hnm hP hD hS hl
  have C : kC G p s m c cX10_laterBits 3 RX10 A := C
  have hx := C.1
  have hb := C.2.1
  have hl : lv_has ls 3 [(0, .ref (a 9))] := hl
  obtain ⟨locs, hlocs⟩ : ∃ q : List Loc, q = [] := ⟨_, rfl⟩
  rw [← hlocs] at hS
  rw [← hlocs]
  unfold fX10_laterBits_9 at h
  refine lv_iconst (v := 0) hx hb dX10_laterBits_0 (by decide) ?_
  refine lv_istore_n (lv' := [(1, .int 0), (0, .ref (a 9))]) hx hb dX10_laterBits_1 rfl hl (by decide) rfl (fun ls hl => ?_)
  refine lv_iconst (v := 0) hx hb dX10_laterBits_2 (by decide) ?_
  refine lv_istore_n (lv' := [(2, .int 0), (1, .int 0), (0, .ref (a 9))]) hx hb dX10_laterBits_3 rfl hl (by decide) rfl (fun ls hl => ?_)
  have lp4 : ∀ (_ : True), ∀ (n : Nat) (v : Int32 × Int32 × (Nat → Nat → Int32) × (Nat → Nat → Int64)), whileK (fun k v => fX10_laterBits_9_s4 fu k v.1 v.2.1 v.2.2.1 v.2.2.2) n v = some (res, s9) → ∀ (H : Heap) (locs : List Loc) (ls : Array Slot), va_P G.1 vwCl (zw G (XS b) 105 a (v.2.2.1) (v.2.2.2)) H → va_D A (zw G (XS b) 105 a (v.2.2.1) (v.2.2.2)) → va_S A s.heap H locs → lv_has ls 3 [(0, .ref (a 9)), (1, .int (v.1)), (2, .int (v.2.1))] → W p l e { frames := 7, cells := 0, slots := 0, locals := 130 } s m [.ref (a 9)].toArray below meth c H locs 0 0 (MQ below ((kQi G (S := Unit) (fun r' _ => r' = res) (fun _ => zw G (XS b) 105 a s9.1 s9.2)) A) [.ref (a 9)].toArray s 0 0 A) (F0 m 4 ls []) := by
    intro _
    refine while_ind (fun k4 ih4 v h => ?_)
    obtain ⟨v1, v2, g, L⟩ := v
    intro H locs ls hP hD hS hl
    have h : fX10_laterBits_9_s4 fu k4 v1 v2 g L = some (res, s9) := h
    have hP : va_P G.1 vwCl (zw G (XS b) 105 a g L) H := hP
    have hD : va_D A (zw G (XS b) 105 a g L) := hD
    have hl : lv_has ls 3 [(0, .ref (a 9)), (1, .int v1), (2, .int v2)] := hl
    show W p l e { frames := 7, cells := 0, slots := 0, locals := 130 } s m [.ref (a 9)].toArray below meth c H locs 0 0 (MQ below ((kQi G (S := Unit) (fun r' _ => r' = res) (fun _ => zw G (XS b) 105 a s9.1 s9.2)) A) [.ref (a 9)].toArray s 0 0 A) (F0 m 4 ls [])
    unfold fX10_laterBits_9_s4 at h
    refine lv_iload_n hx hb dX10_laterBits_4 rfl (lv_at hl 2 rfl) ?_
    refine lv_aload_n hx hb dX10_laterBits_5 rfl (lv_at hl 0 rfl) ?_
    obtain ⟨z_, g2, L3, hf4, h⟩ := cb_some h
    refine x_callVi (rest := [.int v2]) li_X10_64 C (rX10_lessonCount_9 l G H.size b a fu g L z_ (g2, L3) hf4) (kR rfl) hP hD hS 9 10 rfl (zat (by decide) xs_9) rfl hl.1 rfl (Nat.le_of_ble_eq_true rfl) dX10_laterBits_6 (fun x1 u_ H locs e_ hP hD hS => ?_)
    have e_ : x1 = z_ := e_
    subst e_
    have hP : va_P G.1 vwCl (zw G (XS b) 105 a g2 L3) H := hP
    have hD : va_D A (zw G (XS b) 105 a g2 L3) := hD
    refine lv_icmp_ge (x := v2) (y := x1) (tgt := 42) hx hb dX10_laterBits_9 (by decide) (fun c5 => ?_) (fun c5 => ?_)
    ·
      have h := ite_t c5 h
      refine lv_iload_n hx hb dX10_laterBits_42 rfl (lv_at hl 1 rfl) ?_
      exact y_iret C hr hlk hP hD hS h (Nat.le_of_ble_eq_true rfl) (Nat.le_of_ble_eq_true rfl) dX10_laterBits_43
    ·
      have h := ite_e c5 h
      refine lv_aload_n hx hb dX10_laterBits_12 rfl (lv_at hl 0 rfl) ?_
      refine x_getr (Or.inl fl_X10_22) C hP (by decide) xs_9 rfl dX10_laterBits_13 ?_
      refine x_getr (Or.inr fl_X10_47) C hP (by decide) xs_8 rfl dX10_laterBits_16 ?_
      refine lv_iload_n hx hb dX10_laterBits_19 rfl (lv_at hl 2 rfl) ?_
      refine y_ald C hP (by decide) xs_44 dX10_laterBits_20 h (fun h => ?_)
      refine lv_aload_n hx hb dX10_laterBits_21 rfl (lv_at hl 0 rfl) ?_
      refine x_getr (Or.inl fl_X10_18) C hP (by decide) xs_9 rfl dX10_laterBits_22 ?_
      refine lv_iload_n hx hb dX10_laterBits_25 rfl (lv_at hl 2 rfl) ?_
      refine y_ald C hP (by decide) xs_49 dX10_laterBits_26 h (fun h => ?_)
      have J36 : ∀ (v1 : Int32) (v2 : Int32) (g : Nat → Nat → Int32) (L : Nat → Nat → Int64) (H : Heap) (locs : List Loc) (ls : Array Slot), fX10_laterBits_9_p36 fu k4 v1 v2 g L = some (res, s9) → va_P G.1 vwCl (zw G (XS b) 105 a g L) H → va_D A (zw G (XS b) 105 a g L) → va_S A s.heap H locs → lv_has ls 3 [(0, .ref (a 9)), (1, .int v1), (2, .int v2)] → W p l e { frames := 7, cells := 0, slots := 0, locals := 130 } s m [.ref (a 9)].toArray below meth c H locs 0 0 (MQ below ((kQi G (S := Unit) (fun r' _ => r' = res) (fun _ => zw G (XS b) 105 a s9.1 s9.2)) A) [.ref (a 9)].toArray s 0 0 A) (F0 m 36 ls []) := by
        intro v1 v2 g L H locs ls h hP hD hS hl
        unfold fX10_laterBits_9_p36 at h
        refine lv_iinc (v := (v2 + 1)) (lv' := [(2, .int (v2 + 1)), (0, .ref (a 9)), (1, .int v1)]) hx hb dX10_laterBits_36 hl (k := 2) rfl rfl (by decide) rfl (fun ls hl => ?_)
        refine lv_goto (tgt := 4) hx hb dX10_laterBits_39 (by decide) ?_
        exact ih4 (v1, (v2 + 1), g, L) h H locs ls hP hD hS (lv_sub hl [1, 2, 0] rfl)
      refine lv_icmp_le (x := (g2 44 (Int32.toNatClampNeg v2))) (y := (g2 49 (Int32.toNatClampNeg v2))) (tgt := 36) hx hb dX10_laterBits_27 (by decide) (fun c6 => ?_) (fun c6 => ?_)
      ·
        have h := ite_t c6 h
        exact J36 v1 v2 g2 L3 H locs ls h hP hD hS (lv_sub hl [0, 1, 2] rfl)
      ·
        have h := ite_e c6 h
        refine lv_iload_n hx hb dX10_laterBits_30 rfl (lv_at hl 1 rfl) ?_
        refine lv_iconst (v := 1) hx hb dX10_laterBits_31 (by decide) ?_
        refine lv_iload_n hx hb dX10_laterBits_32 rfl (lv_at hl 2 rfl) ?_
        refine lv_ishl hx hb dX10_laterBits_33 ?_
        refine lv_ior hx hb dX10_laterBits_34 ?_
        refine y_let h (fun x7 h => ?_)
        refine lv_istore_n (lv' := [(1, .int x7), (0, .ref (a 9)), (2, .int v2)]) hx hb dX10_laterBits_35 rfl hl (by decide) rfl (fun ls hl => ?_)
        exact J36 x7 v2 g2 L3 H locs ls h hP hD hS (lv_sub hl [1, 0, 2] rfl)
  exact lp4 trivial fu (0, 0, g, L) h H locs ls hP hD hS (lv_sub hl [2, 1, 0] rfl)
def fX10_laterMinutes_9_s4 (fu : Nat) (k4 : Int32 × Int32 × (Nat → Nat → Int32) × (Nat → Nat → Int64) → Option ((Int32) × zS)) (v1 : Int32) (v2 : Int32) (g : Nat → Nat → Int32) (L : Nat → Nat → Int64) : Option ((Int32) × zS) :=
  cb (fX10_lessonCount_9 fu g L) (fun x1 g2 L3 =>
  if x1 ≤ (v2 : Int32) then some (v1, (g2, L3))
  else ck v2 12 (
  ck v2 12 (
  lti (v1 + ((g2 44 (Int32.toNatClampNeg v2)) - (g2 49 (Int32.toNatClampNeg v2)))) (fun x6 =>
  k4 (x6, (v2 + 1), g2, L3)))))
def fX10_laterMinutes_9_l4 (fu : Nat) (v1 : Int32) (v2 : Int32) (g : Nat → Nat → Int32) (L : Nat → Nat → Int64) : Option ((Int32) × zS) :=
  whileK (fun k v => fX10_laterMinutes_9_s4 fu k v.1 v.2.1 v.2.2.1 v.2.2.2) fu (v1, v2, g, L)
def fX10_laterMinutes_9 (fu : Nat) (g : Nat → Nat → Int32) (L : Nat → Nat → Int64) : Option ((Int32) × zS) :=
  fX10_laterMinutes_9_l4 fu 0 0 g L
set_option maxHeartbeats 4000000 in
set_option maxRecDepth 100000 in
theorem rX10_laterMinutes_9 (l : Launch) (G : kG) (sz : Nat) (b : Nat) (a : Nat → Nat) (fu : Nat) (g : Nat → Nat → Int32) (L : Nat → Nat → Int64) (res : Int32) (s9 : zS) (h : fX10_laterMinutes_9 fu g L = some (res, s9)) : kM l yX10_laterMinutes cX10_laterMinutes 3 (some .int) { frames := 7, cells := 0, slots := 0, locals := 130 } G [.ref (a 9)] (zw G (XS b) 105 a g L) sz (kQi G (S := Unit) (fun r' _ => r' = res) (fun _ => zw G (XS b) 105 a s9.1 s9.2)) := by
  refine kM.of (by decide) (Nat.le_of_ble_eq_true rfl) ?_
  intro p e s m below meth c A ls H C hr hlk hnm hP hD hS hl
  have C : kC G p s m c cX10_laterMinutes 3 RX10 A := C
  have hx := C.1
  have hb := C.2.1
  have hl : lv_has ls 3 [(0, .ref (a 9))] := hl
  obtain ⟨locs, hlocs⟩ : ∃ q : List Loc, q = [] := ⟨_, rfl⟩
  rw [← hlocs] at hS
  rw [← hlocs]
  unfold fX10_laterMinutes_9 at h
  refine lv_iconst (v := 0) hx hb dX10_laterMinutes_0 (by decide) ?_
  refine lv_istore_n (lv' := [(1, .int 0), (0, .ref (a 9))]) hx hb dX10_laterMinutes_1 rfl hl (by decide) rfl (fun ls hl => ?_)
  refine lv_iconst (v := 0) hx hb dX10_laterMinutes_2 (by decide) ?_
  refine lv_istore_n (lv' := [(2, .int 0), (1, .int 0), (0, .ref (a 9))]) hx hb dX10_laterMinutes_3 rfl hl (by decide) rfl (fun ls hl => ?_)
  have lp4 : ∀ (_ : True), ∀ (n : Nat) (v : Int32 × Int32 × (Nat → Nat → Int32) × (Nat → Nat → Int64)), whileK (fun k v => fX10_laterMinutes_9_s4 fu k v.1 v.2.1 v.2.2.1 v.2.2.2) n v = some (res, s9) → ∀ (H : Heap) (locs : List Loc) (ls : Array Slot), va_P G.1 vwCl (zw G (XS b) 105 a (v.2.2.1) (v.2.2.2)) H → va_D A (zw G (XS b) 105 a (v.2.2.1) (v.2.2.2)) → va_S A s.heap H locs → lv_has ls 3 [(0, .ref (a 9)), (1, .int (v.1)), (2, .int (v.2.1))] → W p l e { frames := 7, cells := 0, slots := 0, locals := 130 } s m [.ref (a 9)].toArray below meth c H locs 0 0 (MQ below ((kQi G (S := Unit) (fun r' _ => r' = res) (fun _ => zw G (XS b) 105 a s9.1 s9.2)) A) [.ref (a 9)].toArray s 0 0 A) (F0 m 4 ls []) := by
    intro _
    refine while_ind (fun k4 ih4 v h => ?_)
    obtain ⟨v1, v2, g, L⟩ := v
    intro H locs ls hP hD hS hl
    have h : fX10_laterMinutes_9_s4 fu k4 v1 v2 g L = some (res, s9) := h
    have hP : va_P G.1 vwCl (zw G (XS b) 105 a g L) H := hP
    have hD : va_D A (zw G (XS b) 105 a g L) := hD
    have hl : lv_has ls 3 [(0, .ref (a 9)), (1, .int v1), (2, .int v2)] := hl
    show W p l e { frames := 7, cells := 0, slots := 0, locals := 130 } s m [.ref (a 9)].toArray below meth c H locs 0 0 (MQ below ((kQi G (S := Unit) (fun r' _ => r' = res) (fun _ => zw G (XS b) 105 a s9.1 s9.2)) A) [.ref (a 9)].toArray s 0 0 A) (F0 m 4 ls [])
    unfold fX10_laterMinutes_9_s4 at h
    refine lv_iload_n hx hb dX10_laterMinutes_4 rfl (lv_at hl 2 rfl) ?_
    refine lv_aload_n hx hb dX10_laterMinutes_5 rfl (lv_at hl 0 rfl) ?_
    obtain ⟨z_, g2, L3, hf4, h⟩ := cb_some h
    refine x_callVi (rest := [.int v2]) li_X10_64 C (rX10_lessonCount_9 l G H.size b a fu g L z_ (g2, L3) hf4) (kR rfl) hP hD hS 9 10 rfl (zat (by decide) xs_9) rfl hl.1 rfl (Nat.le_of_ble_eq_true rfl) dX10_laterMinutes_6 (fun x1 u_ H locs e_ hP hD hS => ?_)
    have e_ : x1 = z_ := e_
    subst e_
    have hP : va_P G.1 vwCl (zw G (XS b) 105 a g2 L3) H := hP
    have hD : va_D A (zw G (XS b) 105 a g2 L3) := hD
    refine lv_icmp_ge (x := v2) (y := x1) (tgt := 37) hx hb dX10_laterMinutes_9 (by decide) (fun c5 => ?_) (fun c5 => ?_)
    ·
      have h := ite_t c5 h
      refine lv_iload_n hx hb dX10_laterMinutes_37 rfl (lv_at hl 1 rfl) ?_
      exact y_iret C hr hlk hP hD hS h (Nat.le_of_ble_eq_true rfl) (Nat.le_of_ble_eq_true rfl) dX10_laterMinutes_38
    ·
      have h := ite_e c5 h
      refine lv_iload_n hx hb dX10_laterMinutes_12 rfl (lv_at hl 1 rfl) ?_
      refine lv_aload_n hx hb dX10_laterMinutes_13 rfl (lv_at hl 0 rfl) ?_
      refine x_getr (Or.inl fl_X10_22) C hP (by decide) xs_9 rfl dX10_laterMinutes_14 ?_
      refine x_getr (Or.inr fl_X10_47) C hP (by decide) xs_8 rfl dX10_laterMinutes_17 ?_
      refine lv_iload_n hx hb dX10_laterMinutes_20 rfl (lv_at hl 2 rfl) ?_
      refine y_ald C hP (by decide) xs_44 dX10_laterMinutes_21 h (fun h => ?_)
      refine lv_aload_n hx hb dX10_laterMinutes_22 rfl (lv_at hl 0 rfl) ?_
      refine x_getr (Or.inl fl_X10_18) C hP (by decide) xs_9 rfl dX10_laterMinutes_23 ?_
      refine lv_iload_n hx hb dX10_laterMinutes_26 rfl (lv_at hl 2 rfl) ?_
      refine y_ald C hP (by decide) xs_49 dX10_laterMinutes_27 h (fun h => ?_)
      refine lv_isub hx hb dX10_laterMinutes_28 ?_
      refine lv_iadd hx hb dX10_laterMinutes_29 ?_
      refine y_let h (fun x6 h => ?_)
      refine lv_istore_n (lv' := [(1, .int x6), (0, .ref (a 9)), (2, .int v2)]) hx hb dX10_laterMinutes_30 rfl hl (by decide) rfl (fun ls hl => ?_)
      refine lv_iinc (v := (v2 + 1)) (lv' := [(2, .int (v2 + 1)), (1, .int x6), (0, .ref (a 9))]) hx hb dX10_laterMinutes_31 hl (k := 2) rfl rfl (by decide) rfl (fun ls hl => ?_)
      refine lv_goto (tgt := 4) hx hb dX10_laterMinutes_34 (by decide) ?_
      exact ih4 (x6, (v2 + 1), g2, L3) h H locs ls hP hD hS (lv_sub hl [2, 1, 0] rfl)
  exact lp4 trivial fu (0, 0, g, L) h H locs ls hP hD hS (lv_sub hl [2, 1, 0] rfl)
def fX10_leastThatReaches_9_s6 (fu : Nat) (v1 : Int32) (v2 : Int32) (k6 : Int32 × (Nat → Nat → Int32) × (Nat → Nat → Int64) → Option ((Int32) × zS)) (v3 : Int32) (g : Nat → Nat → Int32) (L : Nat → Nat → Int64) : Option ((Int32) × zS) :=
  if 120 < (v3 : Int32) then some ((-1), (g, L))
  else cb (fX10_runMore_9 fu v1 v3 g L) (fun x6 g7 L8 =>
  ck v2 12 (
  ck v2 12 (
  if (g7 44 (Int32.toNatClampNeg v2)) ≤ (g7 49 (Int32.toNatClampNeg v2)) then k6 ((v3 + 1), g7, L8)
  else some (v3, (g7, L8)))))
def fX10_leastThatReaches_9_l6 (fu : Nat) (v1 : Int32) (v2 : Int32) (v3 : Int32) (g : Nat → Nat → Int32) (L : Nat → Nat → Int64) : Option ((Int32) × zS) :=
  whileK (fun k v => fX10_leastThatReaches_9_s6 fu v1 v2 k v.1 v.2.1 v.2.2) fu (v3, g, L)
def fX10_leastThatReaches_9 (fu : Nat) (p1 : Int32) (p2 : Int32) (g : Nat → Nat → Int32) (L : Nat → Nat → Int64) : Option ((Int32) × zS) :=
  cb (fX10_keepEnds_9 fu g L) (fun x1 g2 L3 =>
  fX10_leastThatReaches_9_l6 fu p1 p2 1 g2 L3)
set_option maxHeartbeats 4000000 in
set_option maxRecDepth 100000 in
theorem rX10_leastThatReaches_9 (l : Launch) (G : kG) (sz : Nat) (b : Nat) (a : Nat → Nat) (fu : Nat) (g : Nat → Nat → Int32) (L : Nat → Nat → Int64) (p1 : Int32) (p2 : Int32) (res : Int32) (s9 : zS) (h : fX10_leastThatReaches_9 fu p1 p2 g L = some (res, s9)) : kM l yX10_leastThatReaches cX10_leastThatReaches 4 (some .int) { frames := 12, cells := 0, slots := 0, locals := 248 } G [.ref (a 9), .int p1, .int p2] (zw G (XS b) 105 a g L) sz (kQi G (S := Unit) (fun r' _ => r' = res) (fun _ => zw G (XS b) 105 a s9.1 s9.2)) := by
  refine kM.of (by decide) (Nat.le_of_ble_eq_true rfl) ?_
  intro p e s m below meth c A ls H C hr hlk hnm hP hD hS hl
  have C : kC G p s m c cX10_leastThatReaches 4 RX10 A := C
  have hx := C.1
  have hb := C.2.1
  have hl : lv_has ls 4 [(0, .ref (a 9)), (1, .int p1), (2, .int p2)] := hl
  obtain ⟨locs, hlocs⟩ : ∃ q : List Loc, q = [] := ⟨_, rfl⟩
  rw [← hlocs] at hS
  rw [← hlocs]
  unfold fX10_leastThatReaches_9 at h
  refine lv_aload_n hx hb dX10_leastThatReaches_0 rfl (lv_at hl 0 rfl) ?_
  obtain ⟨z_, g2, L3, hf4, h⟩ := cb_some h
  refine x_callVv (rest := []) li_X10_67 C (rX10_keepEnds_9 l G H.size b a fu g L z_ (g2, L3) hf4) (kR rfl) hP hD hS 9 10 rfl (zat (by decide) xs_9) rfl hl.1 rfl (Nat.le_of_ble_eq_true rfl) dX10_leastThatReaches_1 (fun u_ H locs e_ hP hD hS => ?_)
  have hP : va_P G.1 vwCl (zw G (XS b) 105 a g2 L3) H := hP
  have hD : va_D A (zw G (XS b) 105 a g2 L3) := hD
  refine lv_iconst (v := 1) hx hb dX10_leastThatReaches_4 (by decide) ?_
  refine lv_istore_n (lv' := [(3, .int 1), (0, .ref (a 9)), (1, .int p1), (2, .int p2)]) hx hb dX10_leastThatReaches_5 rfl hl (by decide) rfl (fun ls hl => ?_)
  have lp6 : ∀ (v1 : Int32) (v2 : Int32), ∀ (n : Nat) (v : Int32 × (Nat → Nat → Int32) × (Nat → Nat → Int64)), whileK (fun k v => fX10_leastThatReaches_9_s6 fu v1 v2 k v.1 v.2.1 v.2.2) n v = some (res, s9) → ∀ (H : Heap) (locs : List Loc) (ls : Array Slot), va_P G.1 vwCl (zw G (XS b) 105 a (v.2.1) (v.2.2)) H → va_D A (zw G (XS b) 105 a (v.2.1) (v.2.2)) → va_S A s.heap H locs → lv_has ls 4 [(0, .ref (a 9)), (1, .int v1), (2, .int v2), (3, .int (v.1))] → W p l e { frames := 12, cells := 0, slots := 0, locals := 248 } s m [.ref (a 9), .int p1, .int p2].toArray below meth c H locs 0 0 (MQ below ((kQi G (S := Unit) (fun r' _ => r' = res) (fun _ => zw G (XS b) 105 a s9.1 s9.2)) A) [.ref (a 9), .int p1, .int p2].toArray s 0 0 A) (F0 m 6 ls []) := by
    intro v1 v2
    refine while_ind (fun k6 ih6 v h => ?_)
    obtain ⟨v3, g, L⟩ := v
    intro H locs ls hP hD hS hl
    have h : fX10_leastThatReaches_9_s6 fu v1 v2 k6 v3 g L = some (res, s9) := h
    have hP : va_P G.1 vwCl (zw G (XS b) 105 a g L) H := hP
    have hD : va_D A (zw G (XS b) 105 a g L) := hD
    have hl : lv_has ls 4 [(0, .ref (a 9)), (1, .int v1), (2, .int v2), (3, .int v3)] := hl
    show W p l e { frames := 12, cells := 0, slots := 0, locals := 248 } s m [.ref (a 9), .int p1, .int p2].toArray below meth c H locs 0 0 (MQ below ((kQi G (S := Unit) (fun r' _ => r' = res) (fun _ => zw G (XS b) 105 a s9.1 s9.2)) A) [.ref (a 9), .int p1, .int p2].toArray s 0 0 A) (F0 m 6 ls [])
    unfold fX10_leastThatReaches_9_s6 at h
    refine lv_iload_n hx hb dX10_leastThatReaches_6 rfl (lv_at hl 3 rfl) ?_
    refine lv_bipush (v := 120) hx hb dX10_leastThatReaches_7 (by decide) ?_
    refine lv_icmp_gt (x := v3) (y := 120) (tgt := 44) hx hb dX10_leastThatReaches_9 (by decide) (fun c5 => ?_) (fun c5 => ?_)
    ·
      have h := ite_t c5 h
      refine lv_iconst (v := -1) hx hb dX10_leastThatReaches_44 (by decide) ?_
      exact y_iret C hr hlk hP hD hS h (Nat.le_of_ble_eq_true rfl) (Nat.le_of_ble_eq_true rfl) dX10_leastThatReaches_45
    ·
      have h := ite_e c5 h
      refine lv_aload_n hx hb dX10_leastThatReaches_12 rfl (lv_at hl 0 rfl) ?_
      refine lv_iload_n hx hb dX10_leastThatReaches_13 rfl (lv_at hl 1 rfl) ?_
      refine lv_iload_n hx hb dX10_leastThatReaches_14 rfl (lv_at hl 3 rfl) ?_
      obtain ⟨z_, g7, L8, hf9, h⟩ := cb_some h
      refine x_callVv (rest := []) li_X10_70 C (rX10_runMore_9 l G H.size b a fu g L v1 v3 z_ (g7, L8) hf9) (kR rfl) hP hD hS 9 10 rfl (zat (by decide) xs_9) rfl hl.1 rfl (Nat.le_of_ble_eq_true rfl) dX10_leastThatReaches_15 (fun u_ H locs e_ hP hD hS => ?_)
      have hP : va_P G.1 vwCl (zw G (XS b) 105 a g7 L8) H := hP
      have hD : va_D A (zw G (XS b) 105 a g7 L8) := hD
      refine lv_aload_n hx hb dX10_leastThatReaches_18 rfl (lv_at hl 0 rfl) ?_
      refine x_getr (Or.inl fl_X10_22) C hP (by decide) xs_9 rfl dX10_leastThatReaches_19 ?_
      refine x_getr (Or.inr fl_X10_47) C hP (by decide) xs_8 rfl dX10_leastThatReaches_22 ?_
      refine lv_iload_n hx hb dX10_leastThatReaches_25 rfl (lv_at hl 2 rfl) ?_
      refine y_ald C hP (by decide) xs_44 dX10_leastThatReaches_26 h (fun h => ?_)
      refine lv_aload_n hx hb dX10_leastThatReaches_27 rfl (lv_at hl 0 rfl) ?_
      refine x_getr (Or.inl fl_X10_18) C hP (by decide) xs_9 rfl dX10_leastThatReaches_28 ?_
      refine lv_iload_n hx hb dX10_leastThatReaches_31 rfl (lv_at hl 2 rfl) ?_
      refine y_ald C hP (by decide) xs_49 dX10_leastThatReaches_32 h (fun h => ?_)
      refine lv_icmp_le (x := (g7 44 (Int32.toNatClampNeg v2))) (y := (g7 49 (Int32.toNatClampNeg v2))) (tgt := 38) hx hb dX10_leastThatReaches_33 (by decide) (fun c10 => ?_) (fun c10 => ?_)
      ·
        have h := ite_t c10 h
        refine lv_iinc (v := (v3 + 1)) (lv' := [(3, .int (v3 + 1)), (0, .ref (a 9)), (1, .int v1), (2, .int v2)]) hx hb dX10_leastThatReaches_38 hl (k := 3) rfl rfl (by decide) rfl (fun ls hl => ?_)
        refine lv_goto (tgt := 6) hx hb dX10_leastThatReaches_41 (by decide) ?_
        exact ih6 ((v3 + 1), g7, L8) h H locs ls hP hD hS (lv_sub hl [1, 2, 3, 0] rfl)
      ·
        have h := ite_e c10 h
        refine lv_iload_n hx hb dX10_leastThatReaches_36 rfl (lv_at hl 3 rfl) ?_
        exact y_iret C hr hlk hP hD hS h (Nat.le_of_ble_eq_true rfl) (Nat.le_of_ble_eq_true rfl) dX10_leastThatReaches_37
  exact lp6 p1 p2 fu (1, g2, L3) h H locs ls hP hD hS (lv_sub hl [1, 2, 3, 0] rfl)
def fX10_mostThatDies_9_s7 (fu : Nat) (v1 : Int32) (k7 : Int32 × (Nat → Nat → Int32) × (Nat → Nat → Int64) → Option ((Int32) × zS)) (v2 : Int32) (g : Nat → Nat → Int32) (L : Nat → Nat → Int64) : Option ((Int32) × zS) :=
  if v2 ≤ 0 then some (0, (g, L))
  else cb (fX10_runMore_9 fu v1 v2 g L) (fun x6 g7 L8 =>
  cb (fX10_laterBits_9 fu g7 L8) (fun x10 g11 L12 =>
  if (x10 &&& (((1 : Int32) <<< ((v1 : Int32) &&& 31) : Int32) ^^^ (-1))) = 0 then some (v2, (g11, L12))
  else k7 ((v2 + (-1)), g11, L12)))
def fX10_mostThatDies_9_l7 (fu : Nat) (v1 : Int32) (v2 : Int32) (g : Nat → Nat → Int32) (L : Nat → Nat → Int64) : Option ((Int32) × zS) :=
  whileK (fun k v => fX10_mostThatDies_9_s7 fu v1 k v.1 v.2.1 v.2.2) fu (v2, g, L)
def fX10_mostThatDies_9 (fu : Nat) (p1 : Int32) (g : Nat → Nat → Int32) (L : Nat → Nat → Int64) : Option ((Int32) × zS) :=
  cb (fX10_keepEnds_9 fu g L) (fun x1 g2 L3 =>
  fX10_mostThatDies_9_l7 fu p1 120 g2 L3)
set_option maxHeartbeats 4000000 in
set_option maxRecDepth 100000 in
theorem rX10_mostThatDies_9 (l : Launch) (G : kG) (sz : Nat) (b : Nat) (a : Nat → Nat) (fu : Nat) (g : Nat → Nat → Int32) (L : Nat → Nat → Int64) (p1 : Int32) (res : Int32) (s9 : zS) (h : fX10_mostThatDies_9 fu p1 g L = some (res, s9)) : kM l yX10_mostThatDies cX10_mostThatDies 3 (some .int) { frames := 12, cells := 0, slots := 0, locals := 248 } G [.ref (a 9), .int p1] (zw G (XS b) 105 a g L) sz (kQi G (S := Unit) (fun r' _ => r' = res) (fun _ => zw G (XS b) 105 a s9.1 s9.2)) := by
  refine kM.of (by decide) (Nat.le_of_ble_eq_true rfl) ?_
  intro p e s m below meth c A ls H C hr hlk hnm hP hD hS hl
  have C : kC G p s m c cX10_mostThatDies 3 RX10 A := C
  have hx := C.1
  have hb := C.2.1
  have hl : lv_has ls 3 [(0, .ref (a 9)), (1, .int p1)] := hl
  obtain ⟨locs, hlocs⟩ : ∃ q : List Loc, q = [] := ⟨_, rfl⟩
  rw [← hlocs] at hS
  rw [← hlocs]
  unfold fX10_mostThatDies_9 at h
  refine lv_aload_n hx hb dX10_mostThatDies_0 rfl (lv_at hl 0 rfl) ?_
  obtain ⟨z_, g2, L3, hf4, h⟩ := cb_some h
  refine x_callVv (rest := []) li_X10_67 C (rX10_keepEnds_9 l G H.size b a fu g L z_ (g2, L3) hf4) (kR rfl) hP hD hS 9 10 rfl (zat (by decide) xs_9) rfl hl.1 rfl (Nat.le_of_ble_eq_true rfl) dX10_mostThatDies_1 (fun u_ H locs e_ hP hD hS => ?_)
  have hP : va_P G.1 vwCl (zw G (XS b) 105 a g2 L3) H := hP
  have hD : va_D A (zw G (XS b) 105 a g2 L3) := hD
  refine lv_bipush (v := 120) hx hb dX10_mostThatDies_4 (by decide) ?_
  refine lv_istore_n (lv' := [(2, .int 120), (0, .ref (a 9)), (1, .int p1)]) hx hb dX10_mostThatDies_6 rfl hl (by decide) rfl (fun ls hl => ?_)
  have lp7 : ∀ (v1 : Int32), ∀ (n : Nat) (v : Int32 × (Nat → Nat → Int32) × (Nat → Nat → Int64)), whileK (fun k v => fX10_mostThatDies_9_s7 fu v1 k v.1 v.2.1 v.2.2) n v = some (res, s9) → ∀ (H : Heap) (locs : List Loc) (ls : Array Slot), va_P G.1 vwCl (zw G (XS b) 105 a (v.2.1) (v.2.2)) H → va_D A (zw G (XS b) 105 a (v.2.1) (v.2.2)) → va_S A s.heap H locs → lv_has ls 3 [(0, .ref (a 9)), (1, .int v1), (2, .int (v.1))] → W p l e { frames := 12, cells := 0, slots := 0, locals := 248 } s m [.ref (a 9), .int p1].toArray below meth c H locs 0 0 (MQ below ((kQi G (S := Unit) (fun r' _ => r' = res) (fun _ => zw G (XS b) 105 a s9.1 s9.2)) A) [.ref (a 9), .int p1].toArray s 0 0 A) (F0 m 7 ls []) := by
    intro v1
    refine while_ind (fun k7 ih7 v h => ?_)
    obtain ⟨v2, g, L⟩ := v
    intro H locs ls hP hD hS hl
    have h : fX10_mostThatDies_9_s7 fu v1 k7 v2 g L = some (res, s9) := h
    have hP : va_P G.1 vwCl (zw G (XS b) 105 a g L) H := hP
    have hD : va_D A (zw G (XS b) 105 a g L) := hD
    have hl : lv_has ls 3 [(0, .ref (a 9)), (1, .int v1), (2, .int v2)] := hl
    show W p l e { frames := 12, cells := 0, slots := 0, locals := 248 } s m [.ref (a 9), .int p1].toArray below meth c H locs 0 0 (MQ below ((kQi G (S := Unit) (fun r' _ => r' = res) (fun _ => zw G (XS b) 105 a s9.1 s9.2)) A) [.ref (a 9), .int p1].toArray s 0 0 A) (F0 m 7 ls [])
    unfold fX10_mostThatDies_9_s7 at h
    refine lv_iload_n hx hb dX10_mostThatDies_7 rfl (lv_at hl 2 rfl) ?_
    refine lv_if_le (x := v2) (tgt := 38) hx hb dX10_mostThatDies_8 (by decide) (fun c5 => ?_) (fun c5 => ?_)
    ·
      have h := ite_t c5 h
      refine lv_iconst (v := 0) hx hb dX10_mostThatDies_38 (by decide) ?_
      exact y_iret C hr hlk hP hD hS h (Nat.le_of_ble_eq_true rfl) (Nat.le_of_ble_eq_true rfl) dX10_mostThatDies_39
    ·
      have h := ite_e c5 h
      refine lv_aload_n hx hb dX10_mostThatDies_11 rfl (lv_at hl 0 rfl) ?_
      refine lv_iload_n hx hb dX10_mostThatDies_12 rfl (lv_at hl 1 rfl) ?_
      refine lv_iload_n hx hb dX10_mostThatDies_13 rfl (lv_at hl 2 rfl) ?_
      obtain ⟨z_, g7, L8, hf9, h⟩ := cb_some h
      refine x_callVv (rest := []) li_X10_70 C (rX10_runMore_9 l G H.size b a fu g L v1 v2 z_ (g7, L8) hf9) (kR rfl) hP hD hS 9 10 rfl (zat (by decide) xs_9) rfl hl.1 rfl (Nat.le_of_ble_eq_true rfl) dX10_mostThatDies_14 (fun u_ H locs e_ hP hD hS => ?_)
      have hP : va_P G.1 vwCl (zw G (XS b) 105 a g7 L8) H := hP
      have hD : va_D A (zw G (XS b) 105 a g7 L8) := hD
      refine lv_aload_n hx hb dX10_mostThatDies_17 rfl (lv_at hl 0 rfl) ?_
      obtain ⟨z_, g11, L12, hf13, h⟩ := cb_some h
      refine x_callVi (rest := []) li_X10_74 C (rX10_laterBits_9 l G H.size b a fu g7 L8 z_ (g11, L12) hf13) (kR rfl) hP hD hS 9 10 rfl (zat (by decide) xs_9) rfl hl.1 rfl (Nat.le_of_ble_eq_true rfl) dX10_mostThatDies_18 (fun x10 u_ H locs e_ hP hD hS => ?_)
      have e_ : x10 = z_ := e_
      subst e_
      have hP : va_P G.1 vwCl (zw G (XS b) 105 a g11 L12) H := hP
      have hD : va_D A (zw G (XS b) 105 a g11 L12) := hD
      refine lv_iconst (v := 1) hx hb dX10_mostThatDies_21 (by decide) ?_
      refine lv_iload_n hx hb dX10_mostThatDies_22 rfl (lv_at hl 1 rfl) ?_
      refine lv_ishl hx hb dX10_mostThatDies_23 ?_
      refine lv_iconst (v := -1) hx hb dX10_mostThatDies_24 (by decide) ?_
      refine lv_ixor hx hb dX10_mostThatDies_25 ?_
      refine lv_iand hx hb dX10_mostThatDies_26 ?_
      refine lv_if_ne (x := (x10 &&& (((1 : Int32) <<< ((v1 : Int32) &&& 31) : Int32) ^^^ (-1)))) (tgt := 32) hx hb dX10_mostThatDies_27 (by decide) (fun c14 => ?_) (fun c14 => ?_)
      ·
        have h := ite_e c14 h
        refine lv_iinc (v := (v2 + (-1))) (lv' := [(2, .int (v2 + (-1))), (0, .ref (a 9)), (1, .int v1)]) hx hb dX10_mostThatDies_32 hl (k := 2) rfl rfl (by decide) rfl (fun ls hl => ?_)
        refine lv_goto (tgt := 7) hx hb dX10_mostThatDies_35 (by decide) ?_
        exact ih7 ((v2 + (-1)), g11, L12) h H locs ls hP hD hS (lv_sub hl [1, 2, 0] rfl)
      ·
        have h := ite_t c14 h
        refine lv_iload_n hx hb dX10_mostThatDies_30 rfl (lv_at hl 2 rfl) ?_
        exact y_iret C hr hlk hP hD hS h (Nat.le_of_ble_eq_true rfl) (Nat.le_of_ble_eq_true rfl) dX10_mostThatDies_31
  exact lp7 p1 fu (120, g2, L3) h H locs ls hP hD hS (lv_sub hl [1, 2, 0] rfl)
def fX4_clear_13 (fu : Nat) (g : Nat → Nat → Int32) (L : Nat → Nat → Int64) : Option ((Unit) × zS) :=
  sti g 13 0 0 (fun g1 =>
  some ((), (g1, L)))
set_option maxHeartbeats 4000000 in
set_option maxRecDepth 100000 in
theorem rX4_clear_13 (l : Launch) (G : kG) (sz : Nat) (b : Nat) (a : Nat → Nat) (fu : Nat) (g : Nat → Nat → Int32) (L : Nat → Nat → Int64) (res : Unit) (s9 : zS) (h : fX4_clear_13 fu g L = some (res, s9)) : kM l yX4_clear cX4_clear 1 none { frames := 6, cells := 0, slots := 0, locals := 110 } G [.ref (a 13)] (zw G (XS b) 105 a g L) sz (kQv G (S := Unit) (fun _ => True) (fun _ => zw G (XS b) 105 a s9.1 s9.2)) := by
  refine kM.of (by decide) (Nat.le_of_ble_eq_true rfl) ?_
  intro p e s m below meth c A ls H C hr hlk hnm hP hD hS hl
  have C : kC G p s m c cX4_clear 1 RX4 A := C
  have hx := C.1
  have hb := C.2.1
  have hl : lv_has ls 1 [(0, .ref (a 13))] := hl
  obtain ⟨locs, hlocs⟩ : ∃ q : List Loc, q = [] := ⟨_, rfl⟩
  rw [← hlocs] at hS
  rw [← hlocs]
  unfold fX4_clear_13 at h
  refine lv_aload_n hx hb dX4_clear_0 rfl (lv_at hl 0 rfl) ?_
  refine lv_iconst (v := 0) hx hb dX4_clear_1 (by decide) ?_
  refine y_puti (Or.inl fl_X4_9) ft_X4_0 C hP hD hS (by decide) xs_13 rfl rfl rfl dX4_clear_2 h (fun g1 H locs h hP hD hS => ?_)
  exact y_vret C hr hlk hP hD hS h (Nat.le_of_ble_eq_true rfl) (Nat.le_of_ble_eq_true rfl) dX4_clear_5
def fX10_exchange_9 (fu : Nat) (p1 : Int32) (p2 : Int32) (g : Nat → Nat → Int32) (L : Nat → Nat → Int64) : Option ((Unit) × zS) :=
  ck p1 12 (
  lti (g 25 (Int32.toNatClampNeg p1)) (fun x1 =>
  ck p2 12 (
  ck p1 12 (sti g 25 (Int32.toNatClampNeg p1) (g 25 (Int32.toNatClampNeg p2)) (fun g2 =>
  ck p2 12 (sti g2 25 (Int32.toNatClampNeg p2) x1 (fun g3 =>
  some ((), (g3, L)))))))))
set_option maxHeartbeats 4000000 in
set_option maxRecDepth 100000 in
theorem rX10_exchange_9 (l : Launch) (G : kG) (sz : Nat) (b : Nat) (a : Nat → Nat) (fu : Nat) (g : Nat → Nat → Int32) (L : Nat → Nat → Int64) (p1 : Int32) (p2 : Int32) (res : Unit) (s9 : zS) (h : fX10_exchange_9 fu p1 p2 g L = some (res, s9)) : kM l yX10_exchange cX10_exchange 4 none { frames := 6, cells := 0, slots := 0, locals := 110 } G [.ref (a 9), .int p1, .int p2] (zw G (XS b) 105 a g L) sz (kQv G (S := Unit) (fun _ => True) (fun _ => zw G (XS b) 105 a s9.1 s9.2)) := by
  refine kM.of (by decide) (Nat.le_of_ble_eq_true rfl) ?_
  intro p e s m below meth c A ls H C hr hlk hnm hP hD hS hl
  have C : kC G p s m c cX10_exchange 4 RX10 A := C
  have hx := C.1
  have hb := C.2.1
  have hl : lv_has ls 4 [(0, .ref (a 9)), (1, .int p1), (2, .int p2)] := hl
  obtain ⟨locs, hlocs⟩ : ∃ q : List Loc, q = [] := ⟨_, rfl⟩
  rw [← hlocs] at hS
  rw [← hlocs]
  unfold fX10_exchange_9 at h
  refine lv_aload_n hx hb dX10_exchange_0 rfl (lv_at hl 0 rfl) ?_
  refine x_getr (Or.inl fl_X10_32) C hP (by decide) xs_9 rfl dX10_exchange_1 ?_
  refine x_getr (Or.inr fl_X10_56) C hP (by decide) xs_6 rfl dX10_exchange_4 ?_
  refine lv_iload_n hx hb dX10_exchange_7 rfl (lv_at hl 1 rfl) ?_
  refine y_ald C hP (by decide) xs_25 dX10_exchange_8 h (fun h => ?_)
  refine y_let h (fun x1 h => ?_)
  refine lv_istore_n (lv' := [(3, .int x1), (0, .ref (a 9)), (1, .int p1), (2, .int p2)]) hx hb dX10_exchange_9 rfl hl (by decide) rfl (fun ls hl => ?_)
  refine lv_aload_n hx hb dX10_exchange_10 rfl (lv_at hl 1 rfl) ?_
  refine x_getr (Or.inl fl_X10_32) C hP (by decide) xs_9 rfl dX10_exchange_11 ?_
  refine x_getr (Or.inr fl_X10_56) C hP (by decide) xs_6 rfl dX10_exchange_14 ?_
  refine lv_iload_n hx hb dX10_exchange_17 rfl (lv_at hl 2 rfl) ?_
  refine lv_aload_n hx hb dX10_exchange_18 rfl (lv_at hl 1 rfl) ?_
  refine x_getr (Or.inl fl_X10_32) C hP (by decide) xs_9 rfl dX10_exchange_19 ?_
  refine x_getr (Or.inr fl_X10_56) C hP (by decide) xs_6 rfl dX10_exchange_22 ?_
  refine lv_iload_n hx hb dX10_exchange_25 rfl (lv_at hl 3 rfl) ?_
  refine y_ald C hP (by decide) xs_25 dX10_exchange_26 h (fun h => ?_)
  refine y_ast C hP hD hS (by decide) xs_25 dX10_exchange_27 h (fun g2 H locs h hP hD hS => ?_)
  refine lv_aload_n hx hb dX10_exchange_28 rfl (lv_at hl 1 rfl) ?_
  refine x_getr (Or.inl fl_X10_32) C hP (by decide) xs_9 rfl dX10_exchange_29 ?_
  refine x_getr (Or.inr fl_X10_56) C hP (by decide) xs_6 rfl dX10_exchange_32 ?_
  refine lv_iload_n hx hb dX10_exchange_35 rfl (lv_at hl 3 rfl) ?_
  refine lv_iload_n hx hb dX10_exchange_36 rfl (lv_at hl 0 rfl) ?_
  refine y_ast C hP hD hS (by decide) xs_25 dX10_exchange_37 h (fun g3 H locs h hP hD hS => ?_)
  exact y_vret C hr hlk hP hD hS h (Nat.le_of_ble_eq_true rfl) (Nat.le_of_ble_eq_true rfl) dX10_exchange_38
def fX4_told_13_p24 (fu : Nat) (t0 : Int32) (g : Nat → Nat → Int32) (L : Nat → Nat → Int64) : Option ((Int32) × zS) :=
  some (t0, (g, L))
def fX4_told_13 (fu : Nat) (p1 : Int32) (g : Nat → Nat → Int32) (L : Nat → Nat → Int64) : Option ((Int32) × zS) :=
  if (g 13 0) = 0 then some ((-1), (g, L))
  else if p1 = 0 then fX4_told_13_p24 fu (g 13 1) g L
  else fX4_told_13_p24 fu (g 13 2) g L
set_option maxHeartbeats 4000000 in
set_option maxRecDepth 100000 in
theorem rX4_told_13 (l : Launch) (G : kG) (sz : Nat) (b : Nat) (a : Nat → Nat) (fu : Nat) (g : Nat → Nat → Int32) (L : Nat → Nat → Int64) (p1 : Int32) (res : Int32) (s9 : zS) (h : fX4_told_13 fu p1 g L = some (res, s9)) : kM l yX4_told cX4_told 2 (some .int) { frames := 6, cells := 0, slots := 0, locals := 110 } G [.ref (a 13), .int p1] (zw G (XS b) 105 a g L) sz (kQi G (S := Unit) (fun r' _ => r' = res) (fun _ => zw G (XS b) 105 a s9.1 s9.2)) := by
  refine kM.of (by decide) (Nat.le_of_ble_eq_true rfl) ?_
  intro p e s m below meth c A ls H C hr hlk hnm hP hD hS hl
  have C : kC G p s m c cX4_told 2 RX4 A := C
  have hx := C.1
  have hb := C.2.1
  have hl : lv_has ls 2 [(0, .ref (a 13)), (1, .int p1)] := hl
  obtain ⟨locs, hlocs⟩ : ∃ q : List Loc, q = [] := ⟨_, rfl⟩
  rw [← hlocs] at hS
  rw [← hlocs]
  unfold fX4_told_13 at h
  refine lv_aload_n hx hb dX4_told_0 rfl (lv_at hl 0 rfl) ?_
  refine x_getv (v := .int (g 13 0)) (Or.inl fl_X4_9) C hP (by decide) xs_13 rfl dX4_told_1 ?_
  refine lv_if_ne (x := (g 13 0)) (tgt := 9) hx hb dX4_told_4 (by decide) (fun c1 => ?_) (fun c1 => ?_)
  ·
    have h := ite_e c1 h
    refine lv_iload_n hx hb dX4_told_9 rfl (lv_at hl 1 rfl) ?_
    have J24 : ∀ (t0 : Int32) (g : Nat → Nat → Int32) (L : Nat → Nat → Int64) (H : Heap) (locs : List Loc) (ls : Array Slot), fX4_told_13_p24 fu t0 g L = some (res, s9) → va_P G.1 vwCl (zw G (XS b) 105 a g L) H → va_D A (zw G (XS b) 105 a g L) → va_S A s.heap H locs → lv_has ls 2 [] → W p l e { frames := 6, cells := 0, slots := 0, locals := 110 } s m [.ref (a 13), .int p1].toArray below meth c H locs 0 0 (MQ below ((kQi G (S := Unit) (fun r' _ => r' = res) (fun _ => zw G (XS b) 105 a s9.1 s9.2)) A) [.ref (a 13), .int p1].toArray s 0 0 A) (F0 m 24 ls [.int t0]) := by
      intro t0 g L H locs ls h hP hD hS hl
      unfold fX4_told_13_p24 at h
      exact y_iret C hr hlk hP hD hS h (Nat.le_of_ble_eq_true rfl) (Nat.le_of_ble_eq_true rfl) dX4_told_24
    refine lv_if_ne (x := p1) (tgt := 20) hx hb dX4_told_10 (by decide) (fun c2 => ?_) (fun c2 => ?_)
    ·
      have h := ite_e c2 h
      refine lv_aload_n hx hb dX4_told_20 rfl (lv_at hl 0 rfl) ?_
      refine x_getv (v := .int (g 13 2)) (Or.inl fl_X4_15) C hP (by decide) xs_13 rfl dX4_told_21 ?_
      exact J24 (g 13 2) g L H locs ls h hP hD hS (lv_sub hl [] rfl)
    ·
      have h := ite_t c2 h
      refine lv_aload_n hx hb dX4_told_13 rfl (lv_at hl 0 rfl) ?_
      refine x_getv (v := .int (g 13 1)) (Or.inl fl_X4_19) C hP (by decide) xs_13 rfl dX4_told_14 ?_
      refine lv_goto (tgt := 24) hx hb dX4_told_17 (by decide) ?_
      exact J24 (g 13 1) g L H locs ls h hP hD hS (lv_sub hl [] rfl)
  ·
    have h := ite_t c1 h
    refine lv_iconst (v := -1) hx hb dX4_told_7 (by decide) ?_
    exact y_iret C hr hlk hP hD hS h (Nat.le_of_ble_eq_true rfl) (Nat.le_of_ble_eq_true rfl) dX4_told_8
def fX4_offer_13_p46 (fu : Nat) (g : Nat → Nat → Int32) (L : Nat → Nat → Int64) : Option ((Unit) × zS) :=
  some ((), (g, L))
def fX4_offer_13_p31 (fu : Nat) (v1 : Int32) (v2 : Int32) (g : Nat → Nat → Int32) (L : Nat → Nat → Int64) : Option ((Unit) × zS) :=
  sti g 13 0 1 (fun g1 =>
  sti g1 13 1 v1 (fun g2 =>
  sti g2 13 2 v2 (fun g3 =>
  fX4_offer_13_p46 fu g3 L)))
def fX4_offer_13 (fu : Nat) (p1 : Int32) (p2 : Int32) (g : Nat → Nat → Int32) (L : Nat → Nat → Int64) : Option ((Unit) × zS) :=
  if (g 13 0) = 0 then fX4_offer_13_p31 fu p1 p2 g L
  else if p2 < (g 13 2) then fX4_offer_13_p31 fu p1 p2 g L
  else if p2 = (g 13 2) then (if (g 13 1) ≤ p1 then fX4_offer_13_p46 fu g L
  else fX4_offer_13_p31 fu p1 p2 g L)
  else fX4_offer_13_p46 fu g L
set_option maxHeartbeats 4000000 in
set_option maxRecDepth 100000 in
theorem rX4_offer_13 (l : Launch) (G : kG) (sz : Nat) (b : Nat) (a : Nat → Nat) (fu : Nat) (g : Nat → Nat → Int32) (L : Nat → Nat → Int64) (p1 : Int32) (p2 : Int32) (res : Unit) (s9 : zS) (h : fX4_offer_13 fu p1 p2 g L = some (res, s9)) : kM l yX4_offer cX4_offer 3 none { frames := 6, cells := 0, slots := 0, locals := 110 } G [.ref (a 13), .int p1, .int p2] (zw G (XS b) 105 a g L) sz (kQv G (S := Unit) (fun _ => True) (fun _ => zw G (XS b) 105 a s9.1 s9.2)) := by
  refine kM.of (by decide) (Nat.le_of_ble_eq_true rfl) ?_
  intro p e s m below meth c A ls H C hr hlk hnm hP hD hS hl
  have C : kC G p s m c cX4_offer 3 RX4 A := C
  have hx := C.1
  have hb := C.2.1
  have hl : lv_has ls 3 [(0, .ref (a 13)), (1, .int p1), (2, .int p2)] := hl
  obtain ⟨locs, hlocs⟩ : ∃ q : List Loc, q = [] := ⟨_, rfl⟩
  rw [← hlocs] at hS
  rw [← hlocs]
  unfold fX4_offer_13 at h
  refine lv_aload_n hx hb dX4_offer_0 rfl (lv_at hl 0 rfl) ?_
  refine x_getv (v := .int (g 13 0)) (Or.inl fl_X4_9) C hP (by decide) xs_13 rfl dX4_offer_1 ?_
  have J46 : ∀ (g : Nat → Nat → Int32) (L : Nat → Nat → Int64) (H : Heap) (locs : List Loc) (ls : Array Slot), fX4_offer_13_p46 fu g L = some (res, s9) → va_P G.1 vwCl (zw G (XS b) 105 a g L) H → va_D A (zw G (XS b) 105 a g L) → va_S A s.heap H locs → lv_has ls 3 [] → W p l e { frames := 6, cells := 0, slots := 0, locals := 110 } s m [.ref (a 13), .int p1, .int p2].toArray below meth c H locs 0 0 (MQ below ((kQv G (S := Unit) (fun _ => True) (fun _ => zw G (XS b) 105 a s9.1 s9.2)) A) [.ref (a 13), .int p1, .int p2].toArray s 0 0 A) (F0 m 46 ls []) := by
    intro g L H locs ls h hP hD hS hl
    unfold fX4_offer_13_p46 at h
    exact y_vret C hr hlk hP hD hS h (Nat.le_of_ble_eq_true rfl) (Nat.le_of_ble_eq_true rfl) dX4_offer_46
  have J31 : ∀ (v1 : Int32) (v2 : Int32) (g : Nat → Nat → Int32) (L : Nat → Nat → Int64) (H : Heap) (locs : List Loc) (ls : Array Slot), fX4_offer_13_p31 fu v1 v2 g L = some (res, s9) → va_P G.1 vwCl (zw G (XS b) 105 a g L) H → va_D A (zw G (XS b) 105 a g L) → va_S A s.heap H locs → lv_has ls 3 [(0, .ref (a 13)), (1, .int v1), (2, .int v2)] → W p l e { frames := 6, cells := 0, slots := 0, locals := 110 } s m [.ref (a 13), .int p1, .int p2].toArray below meth c H locs 0 0 (MQ below ((kQv G (S := Unit) (fun _ => True) (fun _ => zw G (XS b) 105 a s9.1 s9.2)) A) [.ref (a 13), .int p1, .int p2].toArray s 0 0 A) (F0 m 31 ls []) := by
    intro v1 v2 g L H locs ls h hP hD hS hl
    unfold fX4_offer_13_p31 at h
    refine lv_aload_n hx hb dX4_offer_31 rfl (lv_at hl 0 rfl) ?_
    refine lv_iconst (v := 1) hx hb dX4_offer_32 (by decide) ?_
    refine y_puti (Or.inl fl_X4_9) ft_X4_0 C hP hD hS (by decide) xs_13 rfl rfl rfl dX4_offer_33 h (fun g1 H locs h hP hD hS => ?_)
    refine lv_aload_n hx hb dX4_offer_36 rfl (lv_at hl 0 rfl) ?_
    refine lv_iload_n hx hb dX4_offer_37 rfl (lv_at hl 1 rfl) ?_
    refine y_puti (Or.inl fl_X4_19) ft_X4_1 C hP hD hS (by decide) xs_13 rfl rfl rfl dX4_offer_38 h (fun g2 H locs h hP hD hS => ?_)
    refine lv_aload_n hx hb dX4_offer_41 rfl (lv_at hl 0 rfl) ?_
    refine lv_iload_n hx hb dX4_offer_42 rfl (lv_at hl 2 rfl) ?_
    refine y_puti (Or.inl fl_X4_15) ft_X4_2 C hP hD hS (by decide) xs_13 rfl rfl rfl dX4_offer_43 h (fun g3 H locs h hP hD hS => ?_)
    exact J46 g3 L H locs ls h hP hD hS (lv_sub hl [] rfl)
  refine lv_if_eq (x := (g 13 0)) (tgt := 31) hx hb dX4_offer_4 (by decide) (fun c4 => ?_) (fun c4 => ?_)
  ·
    have h := ite_t c4 h
    exact J31 p1 p2 g L H locs ls h hP hD hS (lv_sub hl [0, 1, 2] rfl)
  ·
    have h := ite_e c4 h
    refine lv_iload_n hx hb dX4_offer_7 rfl (lv_at hl 2 rfl) ?_
    refine lv_aload_n hx hb dX4_offer_8 rfl (lv_at hl 0 rfl) ?_
    refine x_getv (v := .int (g 13 2)) (Or.inl fl_X4_15) C hP (by decide) xs_13 rfl dX4_offer_9 ?_
    refine lv_icmp_lt (x := p2) (y := (g 13 2)) (tgt := 31) hx hb dX4_offer_12 (by decide) (fun c5 => ?_) (fun c5 => ?_)
    ·
      have h := ite_t c5 h
      exact J31 p1 p2 g L H locs ls h hP hD hS (lv_sub hl [0, 1, 2] rfl)
    ·
      have h := ite_e c5 h
      refine lv_iload_n hx hb dX4_offer_15 rfl (lv_at hl 2 rfl) ?_
      refine lv_aload_n hx hb dX4_offer_16 rfl (lv_at hl 0 rfl) ?_
      refine x_getv (v := .int (g 13 2)) (Or.inl fl_X4_15) C hP (by decide) xs_13 rfl dX4_offer_17 ?_
      refine lv_icmp_ne (x := p2) (y := (g 13 2)) (tgt := 46) hx hb dX4_offer_20 (by decide) (fun c6 => ?_) (fun c6 => ?_)
      ·
        have h := ite_e c6 h
        exact J46 g L H locs ls h hP hD hS (lv_sub hl [] rfl)
      ·
        have h := ite_t c6 h
        refine lv_iload_n hx hb dX4_offer_23 rfl (lv_at hl 1 rfl) ?_
        refine lv_aload_n hx hb dX4_offer_24 rfl (lv_at hl 0 rfl) ?_
        refine x_getv (v := .int (g 13 1)) (Or.inl fl_X4_19) C hP (by decide) xs_13 rfl dX4_offer_25 ?_
        refine lv_icmp_ge (x := p1) (y := (g 13 1)) (tgt := 46) hx hb dX4_offer_28 (by decide) (fun c7 => ?_) (fun c7 => ?_)
        ·
          have h := ite_t c7 h
          exact J46 g L H locs ls h hP hD hS (lv_sub hl [] rfl)
        ·
          have h := ite_e c7 h
          exact J31 p1 p2 g L H locs ls h hP hD hS (lv_sub hl [0, 1, 2] rfl)
def fX10_swapped_9_p121 (fu : Nat) (t0 : Int32) (g : Nat → Nat → Int32) (L : Nat → Nat → Int64) : Option ((Int32) × zS) :=
  some (t0, (g, L))
def fX10_swapped_9_p120 (fu : Nat) (g : Nat → Nat → Int32) (L : Nat → Nat → Int64) : Option ((Int32) × zS) :=
  fX10_swapped_9_p121 fu (-1) g L
def fX10_swapped_9_s31 (fu : Nat) (k18 : Int32 × (Nat → Nat → Int32) × (Nat → Nat → Int64) → Option ((Int32) × zS)) (v1 : Int32) (v2 : Int32) (v3 : Int32) (k31 : Int32 × (Nat → Nat → Int32) × (Nat → Nat → Int64) → Option ((Int32) × zS)) (v4 : Int32) (g : Nat → Nat → Int32) (L : Nat → Nat → Int64) : Option ((Int32) × zS) :=
  cb (fX10_lessonCount_9 fu g L) (fun x21 g22 L23 =>
  if x21 ≤ (v4 : Int32) then k18 ((v3 + 1), g22, L23)
  else cb (fX10_exchange_9 fu v3 v4 g22 L23) (fun x26 g27 L28 =>
  cb (fX1_lostFrom_8 fu 0 g27 L28) (fun x30 g31 L32 =>
  cb (fX4_offer_13 fu ((100 * v3) + v4) x30 g31 L32) (fun x34 g35 L36 =>
  cb (fX10_exchange_9 fu v3 v4 g35 L36) (fun x38 g39 L40 =>
  k31 ((v4 + 1), g39, L40))))))
def fX10_swapped_9_l31 (fu : Nat) (k18 : Int32 × (Nat → Nat → Int32) × (Nat → Nat → Int64) → Option ((Int32) × zS)) (v1 : Int32) (v2 : Int32) (v3 : Int32) (v4 : Int32) (g : Nat → Nat → Int32) (L : Nat → Nat → Int64) : Option ((Int32) × zS) :=
  whileK (fun k v => fX10_swapped_9_s31 fu k18 v1 v2 v3 k v.1 v.2.1 v.2.2) fu (v4, g, L)
def fX10_swapped_9_s18 (fu : Nat) (v1 : Int32) (v2 : Int32) (k18 : Int32 × (Nat → Nat → Int32) × (Nat → Nat → Int64) → Option ((Int32) × zS)) (v3 : Int32) (g : Nat → Nat → Int32) (L : Nat → Nat → Int64) : Option ((Int32) × zS) :=
  cb (fX10_lessonCount_9 fu g L) (fun x9 g10 L11 =>
  if x9 ≤ (v3 : Int32) then (if (g10 13 0) = 0 then fX10_swapped_9_p120 fu g10 L11
  else if v2 ≤ (g10 13 2) then fX10_swapped_9_p120 fu g10 L11
  else cb (fX4_told_13 fu v1 g10 L11) (fun x16 g17 L18 =>
  fX10_swapped_9_p121 fu x16 g17 L18))
  else lti (v3 + 1) (fun x20 =>
  fX10_swapped_9_l31 fu k18 v1 v2 v3 x20 g10 L11))
def fX10_swapped_9_l18 (fu : Nat) (v1 : Int32) (v2 : Int32) (v3 : Int32) (g : Nat → Nat → Int32) (L : Nat → Nat → Int64) : Option ((Int32) × zS) :=
  whileK (fun k v => fX10_swapped_9_s18 fu v1 v2 k v.1 v.2.1 v.2.2) fu (v3, g, L)
def fX10_swapped_9 (fu : Nat) (p1 : Int32) (g : Nat → Nat → Int32) (L : Nat → Nat → Int64) : Option ((Int32) × zS) :=
  cb (fX1_lostFrom_8 fu 0 g L) (fun x1 g2 L3 =>
  cb (fX4_clear_13 fu g2 L3) (fun x5 g6 L7 =>
  fX10_swapped_9_l18 fu p1 x1 0 g6 L7))
set_option maxHeartbeats 4000000 in
set_option maxRecDepth 100000 in
theorem rX10_swapped_9 (l : Launch) (G : kG) (sz : Nat) (b : Nat) (a : Nat → Nat) (fu : Nat) (g : Nat → Nat → Int32) (L : Nat → Nat → Int64) (p1 : Int32) (res : Int32) (s9 : zS) (h : fX10_swapped_9 fu p1 g L = some (res, s9)) : kM l yX10_swapped cX10_swapped 5 (some .int) { frames := 11, cells := 0, slots := 0, locals := 225 } G [.ref (a 9), .int p1] (zw G (XS b) 105 a g L) sz (kQi G (S := Unit) (fun r' _ => r' = res) (fun _ => zw G (XS b) 105 a s9.1 s9.2)) := by
  refine kM.of (by decide) (Nat.le_of_ble_eq_true rfl) ?_
  intro p e s m below meth c A ls H C hr hlk hnm hP hD hS hl
  have C : kC G p s m c cX10_swapped 5 RX10 A := C
  have hx := C.1
  have hb := C.2.1
  have hl : lv_has ls 5 [(0, .ref (a 9)), (1, .int p1)] := hl
  obtain ⟨locs, hlocs⟩ : ∃ q : List Loc, q = [] := ⟨_, rfl⟩
  rw [← hlocs] at hS
  rw [← hlocs]
  unfold fX10_swapped_9 at h
  refine lv_aload_n hx hb dX10_swapped_0 rfl (lv_at hl 0 rfl) ?_
  refine x_getr (Or.inl fl_X10_22) C hP (by decide) xs_9 rfl dX10_swapped_1 ?_
  refine lv_iconst (v := 0) hx hb dX10_swapped_4 (by decide) ?_
  obtain ⟨z_, g2, L3, hf4, h⟩ := cb_some h
  refine x_callNi (rest := []) li_X10_77 C (rX1_lostFrom_8 l G H.size b a fu g L 0 z_ (g2, L3) hf4) (kR rfl) hP hD hS 8 1 rfl (zat (by decide) xs_8) rfl hl.1 rfl (Nat.le_of_ble_eq_true rfl) dX10_swapped_5 (fun x1 u_ H locs e_ hP hD hS => ?_)
  have e_ : x1 = z_ := e_
  subst e_
  have hP : va_P G.1 vwCl (zw G (XS b) 105 a g2 L3) H := hP
  have hD : va_D A (zw G (XS b) 105 a g2 L3) := hD
  refine lv_istore_n (lv' := [(2, .int x1), (0, .ref (a 9)), (1, .int p1)]) hx hb dX10_swapped_8 rfl hl (by decide) rfl (fun ls hl => ?_)
  refine lv_aload_n hx hb dX10_swapped_9 rfl (lv_at hl 1 rfl) ?_
  refine x_getr (Or.inl fl_X10_12) C hP (by decide) xs_9 rfl dX10_swapped_10 ?_
  obtain ⟨z_, g6, L7, hf8, h⟩ := cb_some h
  refine x_callNv (rest := []) li_X10_81 C (rX4_clear_13 l G H.size b a fu g2 L3 z_ (g6, L7) hf8) (kR rfl) hP hD hS 13 4 rfl (zat (by decide) xs_13) rfl hl.1 rfl (Nat.le_of_ble_eq_true rfl) dX10_swapped_13 (fun u_ H locs e_ hP hD hS => ?_)
  have hP : va_P G.1 vwCl (zw G (XS b) 105 a g6 L7) H := hP
  have hD : va_D A (zw G (XS b) 105 a g6 L7) := hD
  refine lv_iconst (v := 0) hx hb dX10_swapped_16 (by decide) ?_
  refine lv_istore_n (lv' := [(3, .int 0), (2, .int x1), (0, .ref (a 9)), (1, .int p1)]) hx hb dX10_swapped_17 rfl hl (by decide) rfl (fun ls hl => ?_)
  have lp18 : ∀ (v1 : Int32) (v2 : Int32), ∀ (n : Nat) (v : Int32 × (Nat → Nat → Int32) × (Nat → Nat → Int64)), whileK (fun k v => fX10_swapped_9_s18 fu v1 v2 k v.1 v.2.1 v.2.2) n v = some (res, s9) → ∀ (H : Heap) (locs : List Loc) (ls : Array Slot), va_P G.1 vwCl (zw G (XS b) 105 a (v.2.1) (v.2.2)) H → va_D A (zw G (XS b) 105 a (v.2.1) (v.2.2)) → va_S A s.heap H locs → lv_has ls 5 [(0, .ref (a 9)), (1, .int v1), (2, .int v2), (3, .int (v.1))] → W p l e { frames := 11, cells := 0, slots := 0, locals := 225 } s m [.ref (a 9), .int p1].toArray below meth c H locs 0 0 (MQ below ((kQi G (S := Unit) (fun r' _ => r' = res) (fun _ => zw G (XS b) 105 a s9.1 s9.2)) A) [.ref (a 9), .int p1].toArray s 0 0 A) (F0 m 18 ls []) := by
    intro v1 v2
    refine while_ind (fun k18 ih18 v h => ?_)
    obtain ⟨v3, g, L⟩ := v
    intro H locs ls hP hD hS hl
    have h : fX10_swapped_9_s18 fu v1 v2 k18 v3 g L = some (res, s9) := h
    have hP : va_P G.1 vwCl (zw G (XS b) 105 a g L) H := hP
    have hD : va_D A (zw G (XS b) 105 a g L) := hD
    have hl : lv_has ls 5 [(0, .ref (a 9)), (1, .int v1), (2, .int v2), (3, .int v3)] := hl
    show W p l e { frames := 11, cells := 0, slots := 0, locals := 225 } s m [.ref (a 9), .int p1].toArray below meth c H locs 0 0 (MQ below ((kQi G (S := Unit) (fun r' _ => r' = res) (fun _ => zw G (XS b) 105 a s9.1 s9.2)) A) [.ref (a 9), .int p1].toArray s 0 0 A) (F0 m 18 ls [])
    unfold fX10_swapped_9_s18 at h
    refine lv_iload_n hx hb dX10_swapped_18 rfl (lv_at hl 3 rfl) ?_
    refine lv_aload_n hx hb dX10_swapped_19 rfl (lv_at hl 0 rfl) ?_
    obtain ⟨z_, g10, L11, hf12, h⟩ := cb_some h
    refine x_callVi (rest := [.int v3]) li_X10_64 C (rX10_lessonCount_9 l G H.size b a fu g L z_ (g10, L11) hf12) (kR rfl) hP hD hS 9 10 rfl (zat (by decide) xs_9) rfl hl.1 rfl (Nat.le_of_ble_eq_true rfl) dX10_swapped_20 (fun x9 u_ H locs e_ hP hD hS => ?_)
    have e_ : x9 = z_ := e_
    subst e_
    have hP : va_P G.1 vwCl (zw G (XS b) 105 a g10 L11) H := hP
    have hD : va_D A (zw G (XS b) 105 a g10 L11) := hD
    refine lv_icmp_ge (x := v3) (y := x9) (tgt := 88) hx hb dX10_swapped_23 (by decide) (fun c13 => ?_) (fun c13 => ?_)
    ·
      have h := ite_t c13 h
      refine lv_aload_n hx hb dX10_swapped_88 rfl (lv_at hl 0 rfl) ?_
      refine x_getr (Or.inl fl_X10_12) C hP (by decide) xs_9 rfl dX10_swapped_89 ?_
      refine x_getv (v := .int (g10 13 0)) (Or.inr fl_X10_90) C hP (by decide) xs_13 rfl dX10_swapped_92 ?_
      have J121 : ∀ (t0 : Int32) (g : Nat → Nat → Int32) (L : Nat → Nat → Int64) (H : Heap) (locs : List Loc) (ls : Array Slot), fX10_swapped_9_p121 fu t0 g L = some (res, s9) → va_P G.1 vwCl (zw G (XS b) 105 a g L) H → va_D A (zw G (XS b) 105 a g L) → va_S A s.heap H locs → lv_has ls 5 [] → W p l e { frames := 11, cells := 0, slots := 0, locals := 225 } s m [.ref (a 9), .int p1].toArray below meth c H locs 0 0 (MQ below ((kQi G (S := Unit) (fun r' _ => r' = res) (fun _ => zw G (XS b) 105 a s9.1 s9.2)) A) [.ref (a 9), .int p1].toArray s 0 0 A) (F0 m 121 ls [.int t0]) := by
        intro t0 g L H locs ls h hP hD hS hl
        unfold fX10_swapped_9_p121 at h
        exact y_iret C hr hlk hP hD hS h (Nat.le_of_ble_eq_true rfl) (Nat.le_of_ble_eq_true rfl) dX10_swapped_121
      have J120 : ∀ (g : Nat → Nat → Int32) (L : Nat → Nat → Int64) (H : Heap) (locs : List Loc) (ls : Array Slot), fX10_swapped_9_p120 fu g L = some (res, s9) → va_P G.1 vwCl (zw G (XS b) 105 a g L) H → va_D A (zw G (XS b) 105 a g L) → va_S A s.heap H locs → lv_has ls 5 [] → W p l e { frames := 11, cells := 0, slots := 0, locals := 225 } s m [.ref (a 9), .int p1].toArray below meth c H locs 0 0 (MQ below ((kQi G (S := Unit) (fun r' _ => r' = res) (fun _ => zw G (XS b) 105 a s9.1 s9.2)) A) [.ref (a 9), .int p1].toArray s 0 0 A) (F0 m 120 ls []) := by
        intro g L H locs ls h hP hD hS hl
        unfold fX10_swapped_9_p120 at h
        refine lv_iconst (v := -1) hx hb dX10_swapped_120 (by decide) ?_
        exact J121 (-1) g L H locs ls h hP hD hS (lv_sub hl [] rfl)
      refine lv_if_eq (x := (g10 13 0)) (tgt := 120) hx hb dX10_swapped_95 (by decide) (fun c14 => ?_) (fun c14 => ?_)
      ·
        have h := ite_t c14 h
        exact J120 g10 L11 H locs ls h hP hD hS (lv_sub hl [] rfl)
      ·
        have h := ite_e c14 h
        refine lv_aload_n hx hb dX10_swapped_98 rfl (lv_at hl 0 rfl) ?_
        refine x_getr (Or.inl fl_X10_12) C hP (by decide) xs_9 rfl dX10_swapped_99 ?_
        refine x_getv (v := .int (g10 13 2)) (Or.inr fl_X10_94) C hP (by decide) xs_13 rfl dX10_swapped_102 ?_
        refine lv_iload_n hx hb dX10_swapped_105 rfl (lv_at hl 2 rfl) ?_
        refine lv_icmp_ge (x := (g10 13 2)) (y := v2) (tgt := 120) hx hb dX10_swapped_106 (by decide) (fun c15 => ?_) (fun c15 => ?_)
        ·
          have h := ite_t c15 h
          exact J120 g10 L11 H locs ls h hP hD hS (lv_sub hl [] rfl)
        ·
          have h := ite_e c15 h
          refine lv_aload_n hx hb dX10_swapped_109 rfl (lv_at hl 0 rfl) ?_
          refine x_getr (Or.inl fl_X10_12) C hP (by decide) xs_9 rfl dX10_swapped_110 ?_
          refine lv_iload_n hx hb dX10_swapped_113 rfl (lv_at hl 1 rfl) ?_
          obtain ⟨z_, g17, L18, hf19, h⟩ := cb_some h
          refine x_callNi (rest := []) li_X10_97 C (rX4_told_13 l G H.size b a fu g10 L11 v1 z_ (g17, L18) hf19) (kR rfl) hP hD hS 13 4 rfl (zat (by decide) xs_13) rfl hl.1 rfl (Nat.le_of_ble_eq_true rfl) dX10_swapped_114 (fun x16 u_ H locs e_ hP hD hS => ?_)
          have e_ : x16 = z_ := e_
          subst e_
          have hP : va_P G.1 vwCl (zw G (XS b) 105 a g17 L18) H := hP
          have hD : va_D A (zw G (XS b) 105 a g17 L18) := hD
          refine lv_goto (tgt := 121) hx hb dX10_swapped_117 (by decide) ?_
          exact J121 x16 g17 L18 H locs ls h hP hD hS (lv_sub hl [] rfl)
    ·
      have h := ite_e c13 h
      refine lv_iload_n hx hb dX10_swapped_26 rfl (lv_at hl 3 rfl) ?_
      refine lv_iconst (v := 1) hx hb dX10_swapped_27 (by decide) ?_
      refine lv_iadd hx hb dX10_swapped_28 ?_
      refine y_let h (fun x20 h => ?_)
      refine lv_istore (lv' := [(4, .int x20), (0, .ref (a 9)), (1, .int v1), (2, .int v2), (3, .int v3)]) hx hb dX10_swapped_29 hl (by decide) rfl (fun ls hl => ?_)
      have lp31 : ∀ (v3 : Int32), ∀ (n : Nat) (v : Int32 × (Nat → Nat → Int32) × (Nat → Nat → Int64)), whileK (fun k v => fX10_swapped_9_s31 fu k18 v1 v2 v3 k v.1 v.2.1 v.2.2) n v = some (res, s9) → ∀ (H : Heap) (locs : List Loc) (ls : Array Slot), va_P G.1 vwCl (zw G (XS b) 105 a (v.2.1) (v.2.2)) H → va_D A (zw G (XS b) 105 a (v.2.1) (v.2.2)) → va_S A s.heap H locs → lv_has ls 5 [(0, .ref (a 9)), (1, .int v1), (2, .int v2), (3, .int v3), (4, .int (v.1))] → W p l e { frames := 11, cells := 0, slots := 0, locals := 225 } s m [.ref (a 9), .int p1].toArray below meth c H locs 0 0 (MQ below ((kQi G (S := Unit) (fun r' _ => r' = res) (fun _ => zw G (XS b) 105 a s9.1 s9.2)) A) [.ref (a 9), .int p1].toArray s 0 0 A) (F0 m 31 ls []) := by
        intro v3
        refine while_ind (fun k31 ih31 v h => ?_)
        obtain ⟨v4, g, L⟩ := v
        intro H locs ls hP hD hS hl
        have h : fX10_swapped_9_s31 fu k18 v1 v2 v3 k31 v4 g L = some (res, s9) := h
        have hP : va_P G.1 vwCl (zw G (XS b) 105 a g L) H := hP
        have hD : va_D A (zw G (XS b) 105 a g L) := hD
        have hl : lv_has ls 5 [(0, .ref (a 9)), (1, .int v1), (2, .int v2), (3, .int v3), (4, .int v4)] := hl
        show W p l e { frames := 11, cells := 0, slots := 0, locals := 225 } s m [.ref (a 9), .int p1].toArray below meth c H locs 0 0 (MQ below ((kQi G (S := Unit) (fun r' _ => r' = res) (fun _ => zw G (XS b) 105 a s9.1 s9.2)) A) [.ref (a 9), .int p1].toArray s 0 0 A) (F0 m 31 ls [])
        unfold fX10_swapped_9_s31 at h
        refine lv_iload hx hb dX10_swapped_31 (lv_at hl 4 rfl) ?_
        refine lv_aload_n hx hb dX10_swapped_33 rfl (lv_at hl 0 rfl) ?_
        obtain ⟨z_, g22, L23, hf24, h⟩ := cb_some h
        refine x_callVi (rest := [.int v4]) li_X10_64 C (rX10_lessonCount_9 l G H.size b a fu g L z_ (g22, L23) hf24) (kR rfl) hP hD hS 9 10 rfl (zat (by decide) xs_9) rfl hl.1 rfl (Nat.le_of_ble_eq_true rfl) dX10_swapped_34 (fun x21 u_ H locs e_ hP hD hS => ?_)
        have e_ : x21 = z_ := e_
        subst e_
        have hP : va_P G.1 vwCl (zw G (XS b) 105 a g22 L23) H := hP
        have hD : va_D A (zw G (XS b) 105 a g22 L23) := hD
        refine lv_icmp_ge (x := v4) (y := x21) (tgt := 82) hx hb dX10_swapped_37 (by decide) (fun c25 => ?_) (fun c25 => ?_)
        ·
          have h := ite_t c25 h
          refine lv_iinc (v := (v3 + 1)) (lv' := [(3, .int (v3 + 1)), (0, .ref (a 9)), (1, .int v1), (2, .int v2), (4, .int v4)]) hx hb dX10_swapped_82 hl (k := 3) rfl rfl (by decide) rfl (fun ls hl => ?_)
          refine lv_goto (tgt := 18) hx hb dX10_swapped_85 (by decide) ?_
          exact ih18 ((v3 + 1), g22, L23) h H locs ls hP hD hS (lv_sub hl [1, 2, 3, 0] rfl)
        ·
          have h := ite_e c25 h
          refine lv_aload_n hx hb dX10_swapped_40 rfl (lv_at hl 0 rfl) ?_
          refine lv_iload_n hx hb dX10_swapped_41 rfl (lv_at hl 3 rfl) ?_
          refine lv_iload hx hb dX10_swapped_42 (lv_at hl 4 rfl) ?_
          obtain ⟨z_, g27, L28, hf29, h⟩ := cb_some h
          refine x_callVv (rest := []) li_X10_84 C (rX10_exchange_9 l G H.size b a fu g22 L23 v3 v4 z_ (g27, L28) hf29) (kR rfl) hP hD hS 9 10 rfl (zat (by decide) xs_9) rfl hl.1 rfl (Nat.le_of_ble_eq_true rfl) dX10_swapped_44 (fun u_ H locs e_ hP hD hS => ?_)
          have hP : va_P G.1 vwCl (zw G (XS b) 105 a g27 L28) H := hP
          have hD : va_D A (zw G (XS b) 105 a g27 L28) := hD
          refine lv_aload_n hx hb dX10_swapped_47 rfl (lv_at hl 0 rfl) ?_
          refine x_getr (Or.inl fl_X10_12) C hP (by decide) xs_9 rfl dX10_swapped_48 ?_
          refine lv_bipush (v := 100) hx hb dX10_swapped_51 (by decide) ?_
          refine lv_iload_n hx hb dX10_swapped_53 rfl (lv_at hl 3 rfl) ?_
          refine lv_imul hx hb dX10_swapped_54 ?_
          refine lv_iload hx hb dX10_swapped_55 (lv_at hl 4 rfl) ?_
          refine lv_iadd hx hb dX10_swapped_57 ?_
          refine lv_aload_n hx hb dX10_swapped_58 rfl (lv_at hl 0 rfl) ?_
          refine x_getr (Or.inl fl_X10_22) C hP (by decide) xs_9 rfl dX10_swapped_59 ?_
          refine lv_iconst (v := 0) hx hb dX10_swapped_62 (by decide) ?_
          obtain ⟨z_, g31, L32, hf33, h⟩ := cb_some h
          refine x_callNi (rest := [.int ((100 * v3) + v4), .ref (a 13)]) li_X10_77 C (rX1_lostFrom_8 l G H.size b a fu g27 L28 0 z_ (g31, L32) hf33) (kR rfl) hP hD hS 8 1 rfl (zat (by decide) xs_8) rfl hl.1 rfl (Nat.le_of_ble_eq_true rfl) dX10_swapped_63 (fun x30 u_ H locs e_ hP hD hS => ?_)
          have e_ : x30 = z_ := e_
          subst e_
          have hP : va_P G.1 vwCl (zw G (XS b) 105 a g31 L32) H := hP
          have hD : va_D A (zw G (XS b) 105 a g31 L32) := hD
          obtain ⟨z_, g35, L36, hf37, h⟩ := cb_some h
          refine x_callNv (rest := []) li_X10_87 C (rX4_offer_13 l G H.size b a fu g31 L32 ((100 * v3) + v4) x30 z_ (g35, L36) hf37) (kR rfl) hP hD hS 13 4 rfl (zat (by decide) xs_13) rfl hl.1 rfl (Nat.le_of_ble_eq_true rfl) dX10_swapped_66 (fun u_ H locs e_ hP hD hS => ?_)
          have hP : va_P G.1 vwCl (zw G (XS b) 105 a g35 L36) H := hP
          have hD : va_D A (zw G (XS b) 105 a g35 L36) := hD
          refine lv_aload_n hx hb dX10_swapped_69 rfl (lv_at hl 0 rfl) ?_
          refine lv_iload_n hx hb dX10_swapped_70 rfl (lv_at hl 3 rfl) ?_
          refine lv_iload hx hb dX10_swapped_71 (lv_at hl 4 rfl) ?_
          obtain ⟨z_, g39, L40, hf41, h⟩ := cb_some h
          refine x_callVv (rest := []) li_X10_84 C (rX10_exchange_9 l G H.size b a fu g35 L36 v3 v4 z_ (g39, L40) hf41) (kR rfl) hP hD hS 9 10 rfl (zat (by decide) xs_9) rfl hl.1 rfl (Nat.le_of_ble_eq_true rfl) dX10_swapped_73 (fun u_ H locs e_ hP hD hS => ?_)
          have hP : va_P G.1 vwCl (zw G (XS b) 105 a g39 L40) H := hP
          have hD : va_D A (zw G (XS b) 105 a g39 L40) := hD
          refine lv_iinc (v := (v4 + 1)) (lv' := [(4, .int (v4 + 1)), (0, .ref (a 9)), (1, .int v1), (2, .int v2), (3, .int v3)]) hx hb dX10_swapped_76 hl (k := 4) rfl rfl (by decide) rfl (fun ls hl => ?_)
          refine lv_goto (tgt := 31) hx hb dX10_swapped_79 (by decide) ?_
          exact ih31 ((v4 + 1), g39, L40) h H locs ls hP hD hS (lv_sub hl [1, 2, 3, 4, 0] rfl)
      exact lp31 v3 fu (x20, g10, L11) h H locs ls hP hD hS (lv_sub hl [1, 2, 3, 4, 0] rfl)
  exact lp18 p1 x1 fu (0, g6, L7) h H locs ls hP hD hS (lv_sub hl [2, 3, 1, 0] rfl)
def fX11_mostOf (fu : Nat) (p1 : Int32) (g : Nat → Nat → Int32) (L : Nat → Nat → Int64) : Option ((Int32) × zS) :=
  if (Int32.toInt p1) = 0 then (some (60, (g, L))) else
  if (Int32.toInt p1) = 1 then (some (30, (g, L))) else
  if (Int32.toInt p1) = 2 then (some (9, (g, L))) else
  some (99, (g, L))
set_option maxHeartbeats 4000000 in
set_option maxRecDepth 100000 in
theorem rX11_mostOf (l : Launch) (G : kG) (sz : Nat) (b : Nat) (a : Nat → Nat) (fu : Nat) (g : Nat → Nat → Int32) (L : Nat → Nat → Int64) (p1 : Int32) (res : Int32) (s9 : zS) (h : fX11_mostOf fu p1 g L = some (res, s9)) : kM l yX11_mostOf cX11_mostOf 1 (some .int) { frames := 6, cells := 0, slots := 0, locals := 110 } G [.int p1] (zw G (XS b) 105 a g L) sz (kQi G (S := Unit) (fun r' _ => r' = res) (fun _ => zw G (XS b) 105 a s9.1 s9.2)) := by
  refine kM.of (by decide) (Nat.le_of_ble_eq_true rfl) ?_
  intro p e s m below meth c A ls H C hr hlk hnm hP hD hS hl
  have C : kC G p s m c cX11_mostOf 1 RX11 A := C
  have hx := C.1
  have hb := C.2.1
  have hl : lv_has ls 1 [(0, .int p1)] := hl
  obtain ⟨locs, hlocs⟩ : ∃ q : List Loc, q = [] := ⟨_, rfl⟩
  rw [← hlocs] at hS
  rw [← hlocs]
  unfold fX11_mostOf at h
  refine lv_iload_n hx hb dX11_mostOf_0 rfl (lv_at hl 0 rfl) ?_
  by_cases c1 : (Int32.toInt p1) = 0
  ·
    have h := ite_t c1 h
    refine lv_tableIn (off := 27) (tgt := 28) hx hb dX11_mostOf_1 (by omega) (by omega) (by rw [c1]; rfl) (by decide) ?_
    refine lv_bipush (v := 60) hx hb dX11_mostOf_28 (by decide) ?_
    exact y_iret C hr hlk hP hD hS h (Nat.le_of_ble_eq_true rfl) (Nat.le_of_ble_eq_true rfl) dX11_mostOf_30
  have h := ite_e c1 h
  by_cases c2 : (Int32.toInt p1) = 1
  ·
    have h := ite_t c2 h
    refine lv_tableIn (off := 30) (tgt := 31) hx hb dX11_mostOf_1 (by omega) (by omega) (by rw [c2]; rfl) (by decide) ?_
    refine lv_bipush (v := 30) hx hb dX11_mostOf_31 (by decide) ?_
    exact y_iret C hr hlk hP hD hS h (Nat.le_of_ble_eq_true rfl) (Nat.le_of_ble_eq_true rfl) dX11_mostOf_33
  have h := ite_e c2 h
  by_cases c3 : (Int32.toInt p1) = 2
  ·
    have h := ite_t c3 h
    refine lv_tableIn (off := 33) (tgt := 34) hx hb dX11_mostOf_1 (by omega) (by omega) (by rw [c3]; rfl) (by decide) ?_
    refine lv_bipush (v := 9) hx hb dX11_mostOf_34 (by decide) ?_
    exact y_iret C hr hlk hP hD hS h (Nat.le_of_ble_eq_true rfl) (Nat.le_of_ble_eq_true rfl) dX11_mostOf_36
  have h := ite_e c3 h
  refine lv_tableOut (tgt := 37) hx hb dX11_mostOf_1 (by omega) (by decide) ?_
  refine lv_bipush (v := 99) hx hb dX11_mostOf_37 (by decide) ?_
  exact y_iret C hr hlk hP hD hS h (Nat.le_of_ble_eq_true rfl) (Nat.le_of_ble_eq_true rfl) dX11_mostOf_39
def fX10_leastBy_9_s29 (fu : Nat) (v1 : Int32) (v2 : Int32) (v3 : Int32) (v4 : Int32) (k29 : Int32 × (Nat → Nat → Int32) × (Nat → Nat → Int64) → Option ((Int32) × zS)) (v5 : Int32) (g : Nat → Nat → Int32) (L : Nat → Nat → Int64) : Option ((Int32) × zS) :=
  cb (fX11_mostOf fu v1 g L) (fun x13 g14 L15 =>
  if x13 < (v5 : Int32) then cb (fX3_put_6 fu v1 v2 v4 g14 L15) (fun x18 g19 L20 =>
  cb (fX4_told_13 fu v3 g19 L20) (fun x22 g23 L24 =>
  some (x22, (g23, L24))))
  else cb (fX3_put_6 fu v1 v2 v5 g14 L15) (fun x26 g27 L28 =>
  cb (fX1_lostFrom_8 fu v2 g27 L28) (fun x30 g31 L32 =>
  cb (fX4_offer_13 fu v5 x30 g31 L32) (fun x34 g35 L36 =>
  k29 ((v5 + 1), g35, L36)))))
def fX10_leastBy_9_l29 (fu : Nat) (v1 : Int32) (v2 : Int32) (v3 : Int32) (v4 : Int32) (v5 : Int32) (g : Nat → Nat → Int32) (L : Nat → Nat → Int64) : Option ((Int32) × zS) :=
  whileK (fun k v => fX10_leastBy_9_s29 fu v1 v2 v3 v4 k v.1 v.2.1 v.2.2) fu (v5, g, L)
def fX10_leastBy_9 (fu : Nat) (p1 : Int32) (p2 : Int32) (p3 : Int32) (g : Nat → Nat → Int32) (L : Nat → Nat → Int64) : Option ((Int32) × zS) :=
  cb (fX3_value_6 fu p1 p2 g L) (fun x1 g2 L3 =>
  cb (fX1_runFrom_8 fu 0 g2 L3) (fun x5 g6 L7 =>
  cb (fX4_clear_13 fu g6 L7) (fun x9 g10 L11 =>
  fX10_leastBy_9_l29 fu p1 p2 p3 x1 0 g10 L11)))
set_option maxHeartbeats 4000000 in
set_option maxRecDepth 100000 in
theorem rX10_leastBy_9 (l : Launch) (G : kG) (sz : Nat) (b : Nat) (a : Nat → Nat) (fu : Nat) (g : Nat → Nat → Int32) (L : Nat → Nat → Int64) (p1 : Int32) (p2 : Int32) (p3 : Int32) (res : Int32) (s9 : zS) (h : fX10_leastBy_9 fu p1 p2 p3 g L = some (res, s9)) : kM l yX10_leastBy cX10_leastBy 6 (some .int) { frames := 11, cells := 0, slots := 0, locals := 225 } G [.ref (a 9), .int p1, .int p2, .int p3] (zw G (XS b) 105 a g L) sz (kQi G (S := Unit) (fun r' _ => r' = res) (fun _ => zw G (XS b) 105 a s9.1 s9.2)) := by
  refine kM.of (by decide) (Nat.le_of_ble_eq_true rfl) ?_
  intro p e s m below meth c A ls H C hr hlk hnm hP hD hS hl
  have C : kC G p s m c cX10_leastBy 6 RX10 A := C
  have hx := C.1
  have hb := C.2.1
  have hl : lv_has ls 6 [(0, .ref (a 9)), (1, .int p1), (2, .int p2), (3, .int p3)] := hl
  obtain ⟨locs, hlocs⟩ : ∃ q : List Loc, q = [] := ⟨_, rfl⟩
  rw [← hlocs] at hS
  rw [← hlocs]
  unfold fX10_leastBy_9 at h
  refine lv_aload_n hx hb dX10_leastBy_0 rfl (lv_at hl 0 rfl) ?_
  refine x_getr (Or.inl fl_X10_32) C hP (by decide) xs_9 rfl dX10_leastBy_1 ?_
  refine lv_iload_n hx hb dX10_leastBy_4 rfl (lv_at hl 1 rfl) ?_
  refine lv_iload_n hx hb dX10_leastBy_5 rfl (lv_at hl 2 rfl) ?_
  obtain ⟨z_, g2, L3, hf4, h⟩ := cb_some h
  refine x_callNi (rest := []) li_X10_100 C (rX3_value_6 l G H.size b a fu g L p1 p2 z_ (g2, L3) hf4) (kR rfl) hP hD hS 6 3 rfl (zat (by decide) xs_6) rfl hl.1 rfl (Nat.le_of_ble_eq_true rfl) dX10_leastBy_6 (fun x1 u_ H locs e_ hP hD hS => ?_)
  have e_ : x1 = z_ := e_
  subst e_
  have hP : va_P G.1 vwCl (zw G (XS b) 105 a g2 L3) H := hP
  have hD : va_D A (zw G (XS b) 105 a g2 L3) := hD
  refine lv_istore (lv' := [(4, .int x1), (0, .ref (a 9)), (1, .int p1), (2, .int p2), (3, .int p3)]) hx hb dX10_leastBy_9 hl (by decide) rfl (fun ls hl => ?_)
  refine lv_aload_n hx hb dX10_leastBy_11 rfl (lv_at hl 1 rfl) ?_
  refine x_getr (Or.inl fl_X10_22) C hP (by decide) xs_9 rfl dX10_leastBy_12 ?_
  refine lv_iconst (v := 0) hx hb dX10_leastBy_15 (by decide) ?_
  obtain ⟨z_, g6, L7, hf8, h⟩ := cb_some h
  refine x_callNv (rest := []) li_X10_43 C (rX1_runFrom_8 l G H.size b a fu g2 L3 0 z_ (g6, L7) hf8) (kR rfl) hP hD hS 8 1 rfl (zat (by decide) xs_8) rfl hl.1 rfl (Nat.le_of_ble_eq_true rfl) dX10_leastBy_16 (fun u_ H locs e_ hP hD hS => ?_)
  have hP : va_P G.1 vwCl (zw G (XS b) 105 a g6 L7) H := hP
  have hD : va_D A (zw G (XS b) 105 a g6 L7) := hD
  refine lv_aload_n hx hb dX10_leastBy_19 rfl (lv_at hl 1 rfl) ?_
  refine x_getr (Or.inl fl_X10_12) C hP (by decide) xs_9 rfl dX10_leastBy_20 ?_
  obtain ⟨z_, g10, L11, hf12, h⟩ := cb_some h
  refine x_callNv (rest := []) li_X10_81 C (rX4_clear_13 l G H.size b a fu g6 L7 z_ (g10, L11) hf12) (kR rfl) hP hD hS 13 4 rfl (zat (by decide) xs_13) rfl hl.1 rfl (Nat.le_of_ble_eq_true rfl) dX10_leastBy_23 (fun u_ H locs e_ hP hD hS => ?_)
  have hP : va_P G.1 vwCl (zw G (XS b) 105 a g10 L11) H := hP
  have hD : va_D A (zw G (XS b) 105 a g10 L11) := hD
  refine lv_iconst (v := 0) hx hb dX10_leastBy_26 (by decide) ?_
  refine lv_istore (lv' := [(5, .int 0), (4, .int x1), (0, .ref (a 9)), (1, .int p1), (2, .int p2), (3, .int p3)]) hx hb dX10_leastBy_27 hl (by decide) rfl (fun ls hl => ?_)
  have lp29 : ∀ (v1 : Int32) (v2 : Int32) (v3 : Int32) (v4 : Int32), ∀ (n : Nat) (v : Int32 × (Nat → Nat → Int32) × (Nat → Nat → Int64)), whileK (fun k v => fX10_leastBy_9_s29 fu v1 v2 v3 v4 k v.1 v.2.1 v.2.2) n v = some (res, s9) → ∀ (H : Heap) (locs : List Loc) (ls : Array Slot), va_P G.1 vwCl (zw G (XS b) 105 a (v.2.1) (v.2.2)) H → va_D A (zw G (XS b) 105 a (v.2.1) (v.2.2)) → va_S A s.heap H locs → lv_has ls 6 [(0, .ref (a 9)), (1, .int v1), (2, .int v2), (3, .int v3), (4, .int v4), (5, .int (v.1))] → W p l e { frames := 11, cells := 0, slots := 0, locals := 225 } s m [.ref (a 9), .int p1, .int p2, .int p3].toArray below meth c H locs 0 0 (MQ below ((kQi G (S := Unit) (fun r' _ => r' = res) (fun _ => zw G (XS b) 105 a s9.1 s9.2)) A) [.ref (a 9), .int p1, .int p2, .int p3].toArray s 0 0 A) (F0 m 29 ls []) := by
    intro v1 v2 v3 v4
    refine while_ind (fun k29 ih29 v h => ?_)
    obtain ⟨v5, g, L⟩ := v
    intro H locs ls hP hD hS hl
    have h : fX10_leastBy_9_s29 fu v1 v2 v3 v4 k29 v5 g L = some (res, s9) := h
    have hP : va_P G.1 vwCl (zw G (XS b) 105 a g L) H := hP
    have hD : va_D A (zw G (XS b) 105 a g L) := hD
    have hl : lv_has ls 6 [(0, .ref (a 9)), (1, .int v1), (2, .int v2), (3, .int v3), (4, .int v4), (5, .int v5)] := hl
    show W p l e { frames := 11, cells := 0, slots := 0, locals := 225 } s m [.ref (a 9), .int p1, .int p2, .int p3].toArray below meth c H locs 0 0 (MQ below ((kQi G (S := Unit) (fun r' _ => r' = res) (fun _ => zw G (XS b) 105 a s9.1 s9.2)) A) [.ref (a 9), .int p1, .int p2, .int p3].toArray s 0 0 A) (F0 m 29 ls [])
    unfold fX10_leastBy_9_s29 at h
    refine lv_iload hx hb dX10_leastBy_29 (lv_at hl 5 rfl) ?_
    refine lv_iload_n hx hb dX10_leastBy_31 rfl (lv_at hl 1 rfl) ?_
    obtain ⟨z_, g14, L15, hf16, h⟩ := cb_some h
    refine x_callTi (rest := [.int v5]) li_X10_104 C (rX11_mostOf l G H.size b a fu g L v1 z_ (g14, L15) hf16) (kR rfl) hP hD hS rfl hl.1 rfl (Nat.le_of_ble_eq_true rfl) dX10_leastBy_32 (fun x13 u_ H locs e_ hP hD hS => ?_)
    have e_ : x13 = z_ := e_
    subst e_
    have hP : va_P G.1 vwCl (zw G (XS b) 105 a g14 L15) H := hP
    have hD : va_D A (zw G (XS b) 105 a g14 L15) := hD
    refine lv_icmp_gt (x := v5) (y := x13) (tgt := 72) hx hb dX10_leastBy_35 (by decide) (fun c17 => ?_) (fun c17 => ?_)
    ·
      have h := ite_t c17 h
      refine lv_aload_n hx hb dX10_leastBy_72 rfl (lv_at hl 0 rfl) ?_
      refine x_getr (Or.inl fl_X10_32) C hP (by decide) xs_9 rfl dX10_leastBy_73 ?_
      refine lv_iload_n hx hb dX10_leastBy_76 rfl (lv_at hl 1 rfl) ?_
      refine lv_iload_n hx hb dX10_leastBy_77 rfl (lv_at hl 2 rfl) ?_
      refine lv_iload hx hb dX10_leastBy_78 (lv_at hl 4 rfl) ?_
      obtain ⟨z_, g19, L20, hf21, h⟩ := cb_some h
      refine x_callNv (rest := []) li_X10_107 C (rX3_put_6 l G H.size b a fu g14 L15 v1 v2 v4 z_ (g19, L20) hf21) (kR rfl) hP hD hS 6 3 rfl (zat (by decide) xs_6) rfl hl.1 rfl (Nat.le_of_ble_eq_true rfl) dX10_leastBy_80 (fun u_ H locs e_ hP hD hS => ?_)
      have hP : va_P G.1 vwCl (zw G (XS b) 105 a g19 L20) H := hP
      have hD : va_D A (zw G (XS b) 105 a g19 L20) := hD
      refine lv_aload_n hx hb dX10_leastBy_83 rfl (lv_at hl 0 rfl) ?_
      refine x_getr (Or.inl fl_X10_12) C hP (by decide) xs_9 rfl dX10_leastBy_84 ?_
      refine lv_iload_n hx hb dX10_leastBy_87 rfl (lv_at hl 3 rfl) ?_
      obtain ⟨z_, g23, L24, hf25, h⟩ := cb_some h
      refine x_callNi (rest := []) li_X10_97 C (rX4_told_13 l G H.size b a fu g19 L20 v3 z_ (g23, L24) hf25) (kR rfl) hP hD hS 13 4 rfl (zat (by decide) xs_13) rfl hl.1 rfl (Nat.le_of_ble_eq_true rfl) dX10_leastBy_88 (fun x22 u_ H locs e_ hP hD hS => ?_)
      have e_ : x22 = z_ := e_
      subst e_
      have hP : va_P G.1 vwCl (zw G (XS b) 105 a g23 L24) H := hP
      have hD : va_D A (zw G (XS b) 105 a g23 L24) := hD
      exact y_iret C hr hlk hP hD hS h (Nat.le_of_ble_eq_true rfl) (Nat.le_of_ble_eq_true rfl) dX10_leastBy_91
    ·
      have h := ite_e c17 h
      refine lv_aload_n hx hb dX10_leastBy_38 rfl (lv_at hl 0 rfl) ?_
      refine x_getr (Or.inl fl_X10_32) C hP (by decide) xs_9 rfl dX10_leastBy_39 ?_
      refine lv_iload_n hx hb dX10_leastBy_42 rfl (lv_at hl 1 rfl) ?_
      refine lv_iload_n hx hb dX10_leastBy_43 rfl (lv_at hl 2 rfl) ?_
      refine lv_iload hx hb dX10_leastBy_44 (lv_at hl 5 rfl) ?_
      obtain ⟨z_, g27, L28, hf29, h⟩ := cb_some h
      refine x_callNv (rest := []) li_X10_107 C (rX3_put_6 l G H.size b a fu g14 L15 v1 v2 v5 z_ (g27, L28) hf29) (kR rfl) hP hD hS 6 3 rfl (zat (by decide) xs_6) rfl hl.1 rfl (Nat.le_of_ble_eq_true rfl) dX10_leastBy_46 (fun u_ H locs e_ hP hD hS => ?_)
      have hP : va_P G.1 vwCl (zw G (XS b) 105 a g27 L28) H := hP
      have hD : va_D A (zw G (XS b) 105 a g27 L28) := hD
      refine lv_aload_n hx hb dX10_leastBy_49 rfl (lv_at hl 0 rfl) ?_
      refine x_getr (Or.inl fl_X10_12) C hP (by decide) xs_9 rfl dX10_leastBy_50 ?_
      refine lv_iload hx hb dX10_leastBy_53 (lv_at hl 5 rfl) ?_
      refine lv_aload_n hx hb dX10_leastBy_55 rfl (lv_at hl 0 rfl) ?_
      refine x_getr (Or.inl fl_X10_22) C hP (by decide) xs_9 rfl dX10_leastBy_56 ?_
      refine lv_iload_n hx hb dX10_leastBy_59 rfl (lv_at hl 2 rfl) ?_
      obtain ⟨z_, g31, L32, hf33, h⟩ := cb_some h
      refine x_callNi (rest := [.int v5, .ref (a 13)]) li_X10_77 C (rX1_lostFrom_8 l G H.size b a fu g27 L28 v2 z_ (g31, L32) hf33) (kR rfl) hP hD hS 8 1 rfl (zat (by decide) xs_8) rfl hl.1 rfl (Nat.le_of_ble_eq_true rfl) dX10_leastBy_60 (fun x30 u_ H locs e_ hP hD hS => ?_)
      have e_ : x30 = z_ := e_
      subst e_
      have hP : va_P G.1 vwCl (zw G (XS b) 105 a g31 L32) H := hP
      have hD : va_D A (zw G (XS b) 105 a g31 L32) := hD
      obtain ⟨z_, g35, L36, hf37, h⟩ := cb_some h
      refine x_callNv (rest := []) li_X10_87 C (rX4_offer_13 l G H.size b a fu g31 L32 v5 x30 z_ (g35, L36) hf37) (kR rfl) hP hD hS 13 4 rfl (zat (by decide) xs_13) rfl hl.1 rfl (Nat.le_of_ble_eq_true rfl) dX10_leastBy_63 (fun u_ H locs e_ hP hD hS => ?_)
      have hP : va_P G.1 vwCl (zw G (XS b) 105 a g35 L36) H := hP
      have hD : va_D A (zw G (XS b) 105 a g35 L36) := hD
      refine lv_iinc (v := (v5 + 1)) (lv' := [(5, .int (v5 + 1)), (0, .ref (a 9)), (1, .int v1), (2, .int v2), (3, .int v3), (4, .int v4)]) hx hb dX10_leastBy_66 hl (k := 5) rfl rfl (by decide) rfl (fun ls hl => ?_)
      refine lv_goto (tgt := 29) hx hb dX10_leastBy_69 (by decide) ?_
      exact ih29 ((v5 + 1), g35, L36) h H locs ls hP hD hS (lv_sub hl [1, 2, 3, 4, 5, 0] rfl)
  exact lp29 p1 p2 p3 x1 fu (0, g10, L11) h H locs ls hP hD hS (lv_sub hl [2, 3, 4, 5, 1, 0] rfl)
def fX10_lostWithout_9 (fu : Nat) (p1 : Int32) (p2 : Int32) (g : Nat → Nat → Int32) (L : Nat → Nat → Int64) : Option ((Int32) × zS) :=
  ck p1 12 (
  lti (g 25 (Int32.toNatClampNeg p1)) (fun x1 =>
  ck p2 12 (
  lti (g 25 (Int32.toNatClampNeg p2)) (fun x2 =>
  ck p1 12 (sti g 25 (Int32.toNatClampNeg p1) 0 (fun g3 =>
  ck p2 12 (sti g3 25 (Int32.toNatClampNeg p2) 0 (fun g4 =>
  cb (fX1_lostFrom_8 fu 0 g4 L) (fun x5 g6 L7 =>
  ck p1 12 (sti g6 25 (Int32.toNatClampNeg p1) x1 (fun g9 =>
  ck p2 12 (sti g9 25 (Int32.toNatClampNeg p2) x2 (fun g10 =>
  some (x5, (g10, L7)))))))))))))))
set_option maxHeartbeats 4000000 in
set_option maxRecDepth 100000 in
theorem rX10_lostWithout_9 (l : Launch) (G : kG) (sz : Nat) (b : Nat) (a : Nat → Nat) (fu : Nat) (g : Nat → Nat → Int32) (L : Nat → Nat → Int64) (p1 : Int32) (p2 : Int32) (res : Int32) (s9 : zS) (h : fX10_lostWithout_9 fu p1 p2 g L = some (res, s9)) : kM l yX10_lostWithout cX10_lostWithout 6 (some .int) { frames := 11, cells := 0, slots := 0, locals := 225 } G [.ref (a 9), .int p1, .int p2] (zw G (XS b) 105 a g L) sz (kQi G (S := Unit) (fun r' _ => r' = res) (fun _ => zw G (XS b) 105 a s9.1 s9.2)) := by
  refine kM.of (by decide) (Nat.le_of_ble_eq_true rfl) ?_
  intro p e s m below meth c A ls H C hr hlk hnm hP hD hS hl
  have C : kC G p s m c cX10_lostWithout 6 RX10 A := C
  have hx := C.1
  have hb := C.2.1
  have hl : lv_has ls 6 [(0, .ref (a 9)), (1, .int p1), (2, .int p2)] := hl
  obtain ⟨locs, hlocs⟩ : ∃ q : List Loc, q = [] := ⟨_, rfl⟩
  rw [← hlocs] at hS
  rw [← hlocs]
  unfold fX10_lostWithout_9 at h
  refine lv_aload_n hx hb dX10_lostWithout_0 rfl (lv_at hl 0 rfl) ?_
  refine x_getr (Or.inl fl_X10_32) C hP (by decide) xs_9 rfl dX10_lostWithout_1 ?_
  refine x_getr (Or.inr fl_X10_56) C hP (by decide) xs_6 rfl dX10_lostWithout_4 ?_
  refine lv_iload_n hx hb dX10_lostWithout_7 rfl (lv_at hl 1 rfl) ?_
  refine y_ald C hP (by decide) xs_25 dX10_lostWithout_8 h (fun h => ?_)
  refine y_let h (fun x1 h => ?_)
  refine lv_istore_n (lv' := [(3, .int x1), (0, .ref (a 9)), (1, .int p1), (2, .int p2)]) hx hb dX10_lostWithout_9 rfl hl (by decide) rfl (fun ls hl => ?_)
  refine lv_aload_n hx hb dX10_lostWithout_10 rfl (lv_at hl 1 rfl) ?_
  refine x_getr (Or.inl fl_X10_32) C hP (by decide) xs_9 rfl dX10_lostWithout_11 ?_
  refine x_getr (Or.inr fl_X10_56) C hP (by decide) xs_6 rfl dX10_lostWithout_14 ?_
  refine lv_iload_n hx hb dX10_lostWithout_17 rfl (lv_at hl 3 rfl) ?_
  refine y_ald C hP (by decide) xs_25 dX10_lostWithout_18 h (fun h => ?_)
  refine y_let h (fun x2 h => ?_)
  refine lv_istore (lv' := [(4, .int x2), (3, .int x1), (0, .ref (a 9)), (1, .int p1), (2, .int p2)]) hx hb dX10_lostWithout_19 hl (by decide) rfl (fun ls hl => ?_)
  refine lv_aload_n hx hb dX10_lostWithout_21 rfl (lv_at hl 2 rfl) ?_
  refine x_getr (Or.inl fl_X10_32) C hP (by decide) xs_9 rfl dX10_lostWithout_22 ?_
  refine x_getr (Or.inr fl_X10_56) C hP (by decide) xs_6 rfl dX10_lostWithout_25 ?_
  refine lv_iload_n hx hb dX10_lostWithout_28 rfl (lv_at hl 3 rfl) ?_
  refine lv_iconst (v := 0) hx hb dX10_lostWithout_29 (by decide) ?_
  refine y_ast C hP hD hS (by decide) xs_25 dX10_lostWithout_30 h (fun g3 H locs h hP hD hS => ?_)
  refine lv_aload_n hx hb dX10_lostWithout_31 rfl (lv_at hl 2 rfl) ?_
  refine x_getr (Or.inl fl_X10_32) C hP (by decide) xs_9 rfl dX10_lostWithout_32 ?_
  refine x_getr (Or.inr fl_X10_56) C hP (by decide) xs_6 rfl dX10_lostWithout_35 ?_
  refine lv_iload_n hx hb dX10_lostWithout_38 rfl (lv_at hl 4 rfl) ?_
  refine lv_iconst (v := 0) hx hb dX10_lostWithout_39 (by decide) ?_
  refine y_ast C hP hD hS (by decide) xs_25 dX10_lostWithout_40 h (fun g4 H locs h hP hD hS => ?_)
  refine lv_aload_n hx hb dX10_lostWithout_41 rfl (lv_at hl 2 rfl) ?_
  refine x_getr (Or.inl fl_X10_22) C hP (by decide) xs_9 rfl dX10_lostWithout_42 ?_
  refine lv_iconst (v := 0) hx hb dX10_lostWithout_45 (by decide) ?_
  obtain ⟨z_, g6, L7, hf8, h⟩ := cb_some h
  refine x_callNi (rest := []) li_X10_77 C (rX1_lostFrom_8 l G H.size b a fu g4 L 0 z_ (g6, L7) hf8) (kR rfl) hP hD hS 8 1 rfl (zat (by decide) xs_8) rfl hl.1 rfl (Nat.le_of_ble_eq_true rfl) dX10_lostWithout_46 (fun x5 u_ H locs e_ hP hD hS => ?_)
  have e_ : x5 = z_ := e_
  subst e_
  have hP : va_P G.1 vwCl (zw G (XS b) 105 a g6 L7) H := hP
  have hD : va_D A (zw G (XS b) 105 a g6 L7) := hD
  refine lv_istore (lv' := [(5, .int x5), (4, .int x2), (3, .int x1), (0, .ref (a 9)), (1, .int p1), (2, .int p2)]) hx hb dX10_lostWithout_49 hl (by decide) rfl (fun ls hl => ?_)
  refine lv_aload_n hx hb dX10_lostWithout_51 rfl (lv_at hl 3 rfl) ?_
  refine x_getr (Or.inl fl_X10_32) C hP (by decide) xs_9 rfl dX10_lostWithout_52 ?_
  refine x_getr (Or.inr fl_X10_56) C hP (by decide) xs_6 rfl dX10_lostWithout_55 ?_
  refine lv_iload_n hx hb dX10_lostWithout_58 rfl (lv_at hl 4 rfl) ?_
  refine lv_iload_n hx hb dX10_lostWithout_59 rfl (lv_at hl 2 rfl) ?_
  refine y_ast C hP hD hS (by decide) xs_25 dX10_lostWithout_60 h (fun g9 H locs h hP hD hS => ?_)
  refine lv_aload_n hx hb dX10_lostWithout_61 rfl (lv_at hl 3 rfl) ?_
  refine x_getr (Or.inl fl_X10_32) C hP (by decide) xs_9 rfl dX10_lostWithout_62 ?_
  refine x_getr (Or.inr fl_X10_56) C hP (by decide) xs_6 rfl dX10_lostWithout_65 ?_
  refine lv_iload_n hx hb dX10_lostWithout_68 rfl (lv_at hl 5 rfl) ?_
  refine lv_iload hx hb dX10_lostWithout_69 (lv_at hl 1 rfl) ?_
  refine y_ast C hP hD hS (by decide) xs_25 dX10_lostWithout_71 h (fun g10 H locs h hP hD hS => ?_)
  refine lv_iload hx hb dX10_lostWithout_72 (lv_at hl 0 rfl) ?_
  exact y_iret C hr hlk hP hD hS h (Nat.le_of_ble_eq_true rfl) (Nat.le_of_ble_eq_true rfl) dX10_lostWithout_74
def fX10_withoutOne_9_s9 (fu : Nat) (k9 : Int32 × (Nat → Nat → Int32) × (Nat → Nat → Int64) → Option ((Int32) × zS)) (v1 : Int32) (g : Nat → Nat → Int32) (L : Nat → Nat → Int64) : Option ((Int32) × zS) :=
  cb (fX10_lessonCount_9 fu g L) (fun x5 g6 L7 =>
  if x5 ≤ (v1 : Int32) then cb (fX4_told_13 fu 0 g6 L7) (fun x10 g11 L12 =>
  some (x10, (g11, L12)))
  else cb (fX10_lostWithout_9 fu v1 v1 g6 L7) (fun x14 g15 L16 =>
  cb (fX4_offer_13 fu v1 x14 g15 L16) (fun x18 g19 L20 =>
  k9 ((v1 + 1), g19, L20))))
def fX10_withoutOne_9_l9 (fu : Nat) (v1 : Int32) (g : Nat → Nat → Int32) (L : Nat → Nat → Int64) : Option ((Int32) × zS) :=
  whileK (fun k v => fX10_withoutOne_9_s9 fu k v.1 v.2.1 v.2.2) fu (v1, g, L)
def fX10_withoutOne_9 (fu : Nat) (g : Nat → Nat → Int32) (L : Nat → Nat → Int64) : Option ((Int32) × zS) :=
  cb (fX4_clear_13 fu g L) (fun x1 g2 L3 =>
  fX10_withoutOne_9_l9 fu 0 g2 L3)
set_option maxHeartbeats 4000000 in
set_option maxRecDepth 100000 in
theorem rX10_withoutOne_9 (l : Launch) (G : kG) (sz : Nat) (b : Nat) (a : Nat → Nat) (fu : Nat) (g : Nat → Nat → Int32) (L : Nat → Nat → Int64) (res : Int32) (s9 : zS) (h : fX10_withoutOne_9 fu g L = some (res, s9)) : kM l yX10_withoutOne cX10_withoutOne 2 (some .int) { frames := 12, cells := 0, slots := 0, locals := 250 } G [.ref (a 9)] (zw G (XS b) 105 a g L) sz (kQi G (S := Unit) (fun r' _ => r' = res) (fun _ => zw G (XS b) 105 a s9.1 s9.2)) := by
  refine kM.of (by decide) (Nat.le_of_ble_eq_true rfl) ?_
  intro p e s m below meth c A ls H C hr hlk hnm hP hD hS hl
  have C : kC G p s m c cX10_withoutOne 2 RX10 A := C
  have hx := C.1
  have hb := C.2.1
  have hl : lv_has ls 2 [(0, .ref (a 9))] := hl
  obtain ⟨locs, hlocs⟩ : ∃ q : List Loc, q = [] := ⟨_, rfl⟩
  rw [← hlocs] at hS
  rw [← hlocs]
  unfold fX10_withoutOne_9 at h
  refine lv_aload_n hx hb dX10_withoutOne_0 rfl (lv_at hl 0 rfl) ?_
  refine x_getr (Or.inl fl_X10_12) C hP (by decide) xs_9 rfl dX10_withoutOne_1 ?_
  obtain ⟨z_, g2, L3, hf4, h⟩ := cb_some h
  refine x_callNv (rest := []) li_X10_81 C (rX4_clear_13 l G H.size b a fu g L z_ (g2, L3) hf4) (kR rfl) hP hD hS 13 4 rfl (zat (by decide) xs_13) rfl hl.1 rfl (Nat.le_of_ble_eq_true rfl) dX10_withoutOne_4 (fun u_ H locs e_ hP hD hS => ?_)
  have hP : va_P G.1 vwCl (zw G (XS b) 105 a g2 L3) H := hP
  have hD : va_D A (zw G (XS b) 105 a g2 L3) := hD
  refine lv_iconst (v := 0) hx hb dX10_withoutOne_7 (by decide) ?_
  refine lv_istore_n (lv' := [(1, .int 0), (0, .ref (a 9))]) hx hb dX10_withoutOne_8 rfl hl (by decide) rfl (fun ls hl => ?_)
  have lp9 : ∀ (_ : True), ∀ (n : Nat) (v : Int32 × (Nat → Nat → Int32) × (Nat → Nat → Int64)), whileK (fun k v => fX10_withoutOne_9_s9 fu k v.1 v.2.1 v.2.2) n v = some (res, s9) → ∀ (H : Heap) (locs : List Loc) (ls : Array Slot), va_P G.1 vwCl (zw G (XS b) 105 a (v.2.1) (v.2.2)) H → va_D A (zw G (XS b) 105 a (v.2.1) (v.2.2)) → va_S A s.heap H locs → lv_has ls 2 [(0, .ref (a 9)), (1, .int (v.1))] → W p l e { frames := 12, cells := 0, slots := 0, locals := 250 } s m [.ref (a 9)].toArray below meth c H locs 0 0 (MQ below ((kQi G (S := Unit) (fun r' _ => r' = res) (fun _ => zw G (XS b) 105 a s9.1 s9.2)) A) [.ref (a 9)].toArray s 0 0 A) (F0 m 9 ls []) := by
    intro _
    refine while_ind (fun k9 ih9 v h => ?_)
    obtain ⟨v1, g, L⟩ := v
    intro H locs ls hP hD hS hl
    have h : fX10_withoutOne_9_s9 fu k9 v1 g L = some (res, s9) := h
    have hP : va_P G.1 vwCl (zw G (XS b) 105 a g L) H := hP
    have hD : va_D A (zw G (XS b) 105 a g L) := hD
    have hl : lv_has ls 2 [(0, .ref (a 9)), (1, .int v1)] := hl
    show W p l e { frames := 12, cells := 0, slots := 0, locals := 250 } s m [.ref (a 9)].toArray below meth c H locs 0 0 (MQ below ((kQi G (S := Unit) (fun r' _ => r' = res) (fun _ => zw G (XS b) 105 a s9.1 s9.2)) A) [.ref (a 9)].toArray s 0 0 A) (F0 m 9 ls [])
    unfold fX10_withoutOne_9_s9 at h
    refine lv_iload_n hx hb dX10_withoutOne_9 rfl (lv_at hl 1 rfl) ?_
    refine lv_aload_n hx hb dX10_withoutOne_10 rfl (lv_at hl 0 rfl) ?_
    obtain ⟨z_, g6, L7, hf8, h⟩ := cb_some h
    refine x_callVi (rest := [.int v1]) li_X10_64 C (rX10_lessonCount_9 l G H.size b a fu g L z_ (g6, L7) hf8) (kR rfl) hP hD hS 9 10 rfl (zat (by decide) xs_9) rfl hl.1 rfl (Nat.le_of_ble_eq_true rfl) dX10_withoutOne_11 (fun x5 u_ H locs e_ hP hD hS => ?_)
    have e_ : x5 = z_ := e_
    subst e_
    have hP : va_P G.1 vwCl (zw G (XS b) 105 a g6 L7) H := hP
    have hD : va_D A (zw G (XS b) 105 a g6 L7) := hD
    refine lv_icmp_ge (x := v1) (y := x5) (tgt := 37) hx hb dX10_withoutOne_14 (by decide) (fun c9 => ?_) (fun c9 => ?_)
    ·
      have h := ite_t c9 h
      refine lv_aload_n hx hb dX10_withoutOne_37 rfl (lv_at hl 0 rfl) ?_
      refine x_getr (Or.inl fl_X10_12) C hP (by decide) xs_9 rfl dX10_withoutOne_38 ?_
      refine lv_iconst (v := 0) hx hb dX10_withoutOne_41 (by decide) ?_
      obtain ⟨z_, g11, L12, hf13, h⟩ := cb_some h
      refine x_callNi (rest := []) li_X10_97 C (rX4_told_13 l G H.size b a fu g6 L7 0 z_ (g11, L12) hf13) (kR rfl) hP hD hS 13 4 rfl (zat (by decide) xs_13) rfl hl.1 rfl (Nat.le_of_ble_eq_true rfl) dX10_withoutOne_42 (fun x10 u_ H locs e_ hP hD hS => ?_)
      have e_ : x10 = z_ := e_
      subst e_
      have hP : va_P G.1 vwCl (zw G (XS b) 105 a g11 L12) H := hP
      have hD : va_D A (zw G (XS b) 105 a g11 L12) := hD
      exact y_iret C hr hlk hP hD hS h (Nat.le_of_ble_eq_true rfl) (Nat.le_of_ble_eq_true rfl) dX10_withoutOne_45
    ·
      have h := ite_e c9 h
      refine lv_aload_n hx hb dX10_withoutOne_17 rfl (lv_at hl 0 rfl) ?_
      refine x_getr (Or.inl fl_X10_12) C hP (by decide) xs_9 rfl dX10_withoutOne_18 ?_
      refine lv_iload_n hx hb dX10_withoutOne_21 rfl (lv_at hl 1 rfl) ?_
      refine lv_aload_n hx hb dX10_withoutOne_22 rfl (lv_at hl 0 rfl) ?_
      refine lv_iload_n hx hb dX10_withoutOne_23 rfl (lv_at hl 1 rfl) ?_
      refine lv_iload_n hx hb dX10_withoutOne_24 rfl (lv_at hl 1 rfl) ?_
      obtain ⟨z_, g15, L16, hf17, h⟩ := cb_some h
      refine x_callVi (rest := [.int v1, .ref (a 13)]) li_X10_111 C (rX10_lostWithout_9 l G H.size b a fu g6 L7 v1 v1 z_ (g15, L16) hf17) (kR rfl) hP hD hS 9 10 rfl (zat (by decide) xs_9) rfl hl.1 rfl (Nat.le_of_ble_eq_true rfl) dX10_withoutOne_25 (fun x14 u_ H locs e_ hP hD hS => ?_)
      have e_ : x14 = z_ := e_
      subst e_
      have hP : va_P G.1 vwCl (zw G (XS b) 105 a g15 L16) H := hP
      have hD : va_D A (zw G (XS b) 105 a g15 L16) := hD
      obtain ⟨z_, g19, L20, hf21, h⟩ := cb_some h
      refine x_callNv (rest := []) li_X10_87 C (rX4_offer_13 l G H.size b a fu g15 L16 v1 x14 z_ (g19, L20) hf21) (kR rfl) hP hD hS 13 4 rfl (zat (by decide) xs_13) rfl hl.1 rfl (Nat.le_of_ble_eq_true rfl) dX10_withoutOne_28 (fun u_ H locs e_ hP hD hS => ?_)
      have hP : va_P G.1 vwCl (zw G (XS b) 105 a g19 L20) H := hP
      have hD : va_D A (zw G (XS b) 105 a g19 L20) := hD
      refine lv_iinc (v := (v1 + 1)) (lv' := [(1, .int (v1 + 1)), (0, .ref (a 9))]) hx hb dX10_withoutOne_31 hl (k := 1) rfl rfl (by decide) rfl (fun ls hl => ?_)
      refine lv_goto (tgt := 9) hx hb dX10_withoutOne_34 (by decide) ?_
      exact ih9 ((v1 + 1), g19, L20) h H locs ls hP hD hS (lv_sub hl [1, 0] rfl)
  exact lp9 trivial fu (0, g2, L3) h H locs ls hP hD hS (lv_sub hl [1, 0] rfl)
def fX10_withoutTwo_9_s21 (fu : Nat) (k9 : Int32 × (Nat → Nat → Int32) × (Nat → Nat → Int64) → Option ((Int32) × zS)) (v1 : Int32) (v2 : Int32) (k21 : Int32 × (Nat → Nat → Int32) × (Nat → Nat → Int64) → Option ((Int32) × zS)) (v3 : Int32) (g : Nat → Nat → Int32) (L : Nat → Nat → Int64) : Option ((Int32) × zS) :=
  cb (fX10_lessonCount_9 fu g L) (fun x15 g16 L17 =>
  if x15 ≤ (v3 : Int32) then k9 ((v2 + 1), g16, L17)
  else cb (fX10_lostWithout_9 fu v2 v3 g16 L17) (fun x20 g21 L22 =>
  cb (fX4_offer_13 fu ((100 * v2) + v3) x20 g21 L22) (fun x24 g25 L26 =>
  k21 ((v3 + 1), g25, L26))))
def fX10_withoutTwo_9_l21 (fu : Nat) (k9 : Int32 × (Nat → Nat → Int32) × (Nat → Nat → Int64) → Option ((Int32) × zS)) (v1 : Int32) (v2 : Int32) (v3 : Int32) (g : Nat → Nat → Int32) (L : Nat → Nat → Int64) : Option ((Int32) × zS) :=
  whileK (fun k v => fX10_withoutTwo_9_s21 fu k9 v1 v2 k v.1 v.2.1 v.2.2) fu (v3, g, L)
def fX10_withoutTwo_9_s9 (fu : Nat) (v1 : Int32) (k9 : Int32 × (Nat → Nat → Int32) × (Nat → Nat → Int64) → Option ((Int32) × zS)) (v2 : Int32) (g : Nat → Nat → Int32) (L : Nat → Nat → Int64) : Option ((Int32) × zS) :=
  cb (fX10_lessonCount_9 fu g L) (fun x5 g6 L7 =>
  if x5 ≤ (v2 : Int32) then cb (fX4_told_13 fu v1 g6 L7) (fun x10 g11 L12 =>
  some (x10, (g11, L12)))
  else lti (v2 + 1) (fun x14 =>
  fX10_withoutTwo_9_l21 fu k9 v1 v2 x14 g6 L7))
def fX10_withoutTwo_9_l9 (fu : Nat) (v1 : Int32) (v2 : Int32) (g : Nat → Nat → Int32) (L : Nat → Nat → Int64) : Option ((Int32) × zS) :=
  whileK (fun k v => fX10_withoutTwo_9_s9 fu v1 k v.1 v.2.1 v.2.2) fu (v2, g, L)
def fX10_withoutTwo_9 (fu : Nat) (p1 : Int32) (g : Nat → Nat → Int32) (L : Nat → Nat → Int64) : Option ((Int32) × zS) :=
  cb (fX4_clear_13 fu g L) (fun x1 g2 L3 =>
  fX10_withoutTwo_9_l9 fu p1 0 g2 L3)
set_option maxHeartbeats 4000000 in
set_option maxRecDepth 100000 in
theorem rX10_withoutTwo_9 (l : Launch) (G : kG) (sz : Nat) (b : Nat) (a : Nat → Nat) (fu : Nat) (g : Nat → Nat → Int32) (L : Nat → Nat → Int64) (p1 : Int32) (res : Int32) (s9 : zS) (h : fX10_withoutTwo_9 fu p1 g L = some (res, s9)) : kM l yX10_withoutTwo cX10_withoutTwo 4 (some .int) { frames := 12, cells := 0, slots := 0, locals := 250 } G [.ref (a 9), .int p1] (zw G (XS b) 105 a g L) sz (kQi G (S := Unit) (fun r' _ => r' = res) (fun _ => zw G (XS b) 105 a s9.1 s9.2)) := by
  refine kM.of (by decide) (Nat.le_of_ble_eq_true rfl) ?_
  intro p e s m below meth c A ls H C hr hlk hnm hP hD hS hl
  have C : kC G p s m c cX10_withoutTwo 4 RX10 A := C
  have hx := C.1
  have hb := C.2.1
  have hl : lv_has ls 4 [(0, .ref (a 9)), (1, .int p1)] := hl
  obtain ⟨locs, hlocs⟩ : ∃ q : List Loc, q = [] := ⟨_, rfl⟩
  rw [← hlocs] at hS
  rw [← hlocs]
  unfold fX10_withoutTwo_9 at h
  refine lv_aload_n hx hb dX10_withoutTwo_0 rfl (lv_at hl 0 rfl) ?_
  refine x_getr (Or.inl fl_X10_12) C hP (by decide) xs_9 rfl dX10_withoutTwo_1 ?_
  obtain ⟨z_, g2, L3, hf4, h⟩ := cb_some h
  refine x_callNv (rest := []) li_X10_81 C (rX4_clear_13 l G H.size b a fu g L z_ (g2, L3) hf4) (kR rfl) hP hD hS 13 4 rfl (zat (by decide) xs_13) rfl hl.1 rfl (Nat.le_of_ble_eq_true rfl) dX10_withoutTwo_4 (fun u_ H locs e_ hP hD hS => ?_)
  have hP : va_P G.1 vwCl (zw G (XS b) 105 a g2 L3) H := hP
  have hD : va_D A (zw G (XS b) 105 a g2 L3) := hD
  refine lv_iconst (v := 0) hx hb dX10_withoutTwo_7 (by decide) ?_
  refine lv_istore_n (lv' := [(2, .int 0), (0, .ref (a 9)), (1, .int p1)]) hx hb dX10_withoutTwo_8 rfl hl (by decide) rfl (fun ls hl => ?_)
  have lp9 : ∀ (v1 : Int32), ∀ (n : Nat) (v : Int32 × (Nat → Nat → Int32) × (Nat → Nat → Int64)), whileK (fun k v => fX10_withoutTwo_9_s9 fu v1 k v.1 v.2.1 v.2.2) n v = some (res, s9) → ∀ (H : Heap) (locs : List Loc) (ls : Array Slot), va_P G.1 vwCl (zw G (XS b) 105 a (v.2.1) (v.2.2)) H → va_D A (zw G (XS b) 105 a (v.2.1) (v.2.2)) → va_S A s.heap H locs → lv_has ls 4 [(0, .ref (a 9)), (1, .int v1), (2, .int (v.1))] → W p l e { frames := 12, cells := 0, slots := 0, locals := 250 } s m [.ref (a 9), .int p1].toArray below meth c H locs 0 0 (MQ below ((kQi G (S := Unit) (fun r' _ => r' = res) (fun _ => zw G (XS b) 105 a s9.1 s9.2)) A) [.ref (a 9), .int p1].toArray s 0 0 A) (F0 m 9 ls []) := by
    intro v1
    refine while_ind (fun k9 ih9 v h => ?_)
    obtain ⟨v2, g, L⟩ := v
    intro H locs ls hP hD hS hl
    have h : fX10_withoutTwo_9_s9 fu v1 k9 v2 g L = some (res, s9) := h
    have hP : va_P G.1 vwCl (zw G (XS b) 105 a g L) H := hP
    have hD : va_D A (zw G (XS b) 105 a g L) := hD
    have hl : lv_has ls 4 [(0, .ref (a 9)), (1, .int v1), (2, .int v2)] := hl
    show W p l e { frames := 12, cells := 0, slots := 0, locals := 250 } s m [.ref (a 9), .int p1].toArray below meth c H locs 0 0 (MQ below ((kQi G (S := Unit) (fun r' _ => r' = res) (fun _ => zw G (XS b) 105 a s9.1 s9.2)) A) [.ref (a 9), .int p1].toArray s 0 0 A) (F0 m 9 ls [])
    unfold fX10_withoutTwo_9_s9 at h
    refine lv_iload_n hx hb dX10_withoutTwo_9 rfl (lv_at hl 2 rfl) ?_
    refine lv_aload_n hx hb dX10_withoutTwo_10 rfl (lv_at hl 0 rfl) ?_
    obtain ⟨z_, g6, L7, hf8, h⟩ := cb_some h
    refine x_callVi (rest := [.int v2]) li_X10_64 C (rX10_lessonCount_9 l G H.size b a fu g L z_ (g6, L7) hf8) (kR rfl) hP hD hS 9 10 rfl (zat (by decide) xs_9) rfl hl.1 rfl (Nat.le_of_ble_eq_true rfl) dX10_withoutTwo_11 (fun x5 u_ H locs e_ hP hD hS => ?_)
    have e_ : x5 = z_ := e_
    subst e_
    have hP : va_P G.1 vwCl (zw G (XS b) 105 a g6 L7) H := hP
    have hD : va_D A (zw G (XS b) 105 a g6 L7) := hD
    refine lv_icmp_ge (x := v2) (y := x5) (tgt := 60) hx hb dX10_withoutTwo_14 (by decide) (fun c9 => ?_) (fun c9 => ?_)
    ·
      have h := ite_t c9 h
      refine lv_aload_n hx hb dX10_withoutTwo_60 rfl (lv_at hl 0 rfl) ?_
      refine x_getr (Or.inl fl_X10_12) C hP (by decide) xs_9 rfl dX10_withoutTwo_61 ?_
      refine lv_iload_n hx hb dX10_withoutTwo_64 rfl (lv_at hl 1 rfl) ?_
      obtain ⟨z_, g11, L12, hf13, h⟩ := cb_some h
      refine x_callNi (rest := []) li_X10_97 C (rX4_told_13 l G H.size b a fu g6 L7 v1 z_ (g11, L12) hf13) (kR rfl) hP hD hS 13 4 rfl (zat (by decide) xs_13) rfl hl.1 rfl (Nat.le_of_ble_eq_true rfl) dX10_withoutTwo_65 (fun x10 u_ H locs e_ hP hD hS => ?_)
      have e_ : x10 = z_ := e_
      subst e_
      have hP : va_P G.1 vwCl (zw G (XS b) 105 a g11 L12) H := hP
      have hD : va_D A (zw G (XS b) 105 a g11 L12) := hD
      exact y_iret C hr hlk hP hD hS h (Nat.le_of_ble_eq_true rfl) (Nat.le_of_ble_eq_true rfl) dX10_withoutTwo_68
    ·
      have h := ite_e c9 h
      refine lv_iload_n hx hb dX10_withoutTwo_17 rfl (lv_at hl 2 rfl) ?_
      refine lv_iconst (v := 1) hx hb dX10_withoutTwo_18 (by decide) ?_
      refine lv_iadd hx hb dX10_withoutTwo_19 ?_
      refine y_let h (fun x14 h => ?_)
      refine lv_istore_n (lv' := [(3, .int x14), (0, .ref (a 9)), (1, .int v1), (2, .int v2)]) hx hb dX10_withoutTwo_20 rfl hl (by decide) rfl (fun ls hl => ?_)
      have lp21 : ∀ (v2 : Int32), ∀ (n : Nat) (v : Int32 × (Nat → Nat → Int32) × (Nat → Nat → Int64)), whileK (fun k v => fX10_withoutTwo_9_s21 fu k9 v1 v2 k v.1 v.2.1 v.2.2) n v = some (res, s9) → ∀ (H : Heap) (locs : List Loc) (ls : Array Slot), va_P G.1 vwCl (zw G (XS b) 105 a (v.2.1) (v.2.2)) H → va_D A (zw G (XS b) 105 a (v.2.1) (v.2.2)) → va_S A s.heap H locs → lv_has ls 4 [(0, .ref (a 9)), (1, .int v1), (2, .int v2), (3, .int (v.1))] → W p l e { frames := 12, cells := 0, slots := 0, locals := 250 } s m [.ref (a 9), .int p1].toArray below meth c H locs 0 0 (MQ below ((kQi G (S := Unit) (fun r' _ => r' = res) (fun _ => zw G (XS b) 105 a s9.1 s9.2)) A) [.ref (a 9), .int p1].toArray s 0 0 A) (F0 m 21 ls []) := by
        intro v2
        refine while_ind (fun k21 ih21 v h => ?_)
        obtain ⟨v3, g, L⟩ := v
        intro H locs ls hP hD hS hl
        have h : fX10_withoutTwo_9_s21 fu k9 v1 v2 k21 v3 g L = some (res, s9) := h
        have hP : va_P G.1 vwCl (zw G (XS b) 105 a g L) H := hP
        have hD : va_D A (zw G (XS b) 105 a g L) := hD
        have hl : lv_has ls 4 [(0, .ref (a 9)), (1, .int v1), (2, .int v2), (3, .int v3)] := hl
        show W p l e { frames := 12, cells := 0, slots := 0, locals := 250 } s m [.ref (a 9), .int p1].toArray below meth c H locs 0 0 (MQ below ((kQi G (S := Unit) (fun r' _ => r' = res) (fun _ => zw G (XS b) 105 a s9.1 s9.2)) A) [.ref (a 9), .int p1].toArray s 0 0 A) (F0 m 21 ls [])
        unfold fX10_withoutTwo_9_s21 at h
        refine lv_iload_n hx hb dX10_withoutTwo_21 rfl (lv_at hl 3 rfl) ?_
        refine lv_aload_n hx hb dX10_withoutTwo_22 rfl (lv_at hl 0 rfl) ?_
        obtain ⟨z_, g16, L17, hf18, h⟩ := cb_some h
        refine x_callVi (rest := [.int v3]) li_X10_64 C (rX10_lessonCount_9 l G H.size b a fu g L z_ (g16, L17) hf18) (kR rfl) hP hD hS 9 10 rfl (zat (by decide) xs_9) rfl hl.1 rfl (Nat.le_of_ble_eq_true rfl) dX10_withoutTwo_23 (fun x15 u_ H locs e_ hP hD hS => ?_)
        have e_ : x15 = z_ := e_
        subst e_
        have hP : va_P G.1 vwCl (zw G (XS b) 105 a g16 L17) H := hP
        have hD : va_D A (zw G (XS b) 105 a g16 L17) := hD
        refine lv_icmp_ge (x := v3) (y := x15) (tgt := 54) hx hb dX10_withoutTwo_26 (by decide) (fun c19 => ?_) (fun c19 => ?_)
        ·
          have h := ite_t c19 h
          refine lv_iinc (v := (v2 + 1)) (lv' := [(2, .int (v2 + 1)), (0, .ref (a 9)), (1, .int v1), (3, .int v3)]) hx hb dX10_withoutTwo_54 hl (k := 2) rfl rfl (by decide) rfl (fun ls hl => ?_)
          refine lv_goto (tgt := 9) hx hb dX10_withoutTwo_57 (by decide) ?_
          exact ih9 ((v2 + 1), g16, L17) h H locs ls hP hD hS (lv_sub hl [1, 2, 0] rfl)
        ·
          have h := ite_e c19 h
          refine lv_aload_n hx hb dX10_withoutTwo_29 rfl (lv_at hl 0 rfl) ?_
          refine x_getr (Or.inl fl_X10_12) C hP (by decide) xs_9 rfl dX10_withoutTwo_30 ?_
          refine lv_bipush (v := 100) hx hb dX10_withoutTwo_33 (by decide) ?_
          refine lv_iload_n hx hb dX10_withoutTwo_35 rfl (lv_at hl 2 rfl) ?_
          refine lv_imul hx hb dX10_withoutTwo_36 ?_
          refine lv_iload_n hx hb dX10_withoutTwo_37 rfl (lv_at hl 3 rfl) ?_
          refine lv_iadd hx hb dX10_withoutTwo_38 ?_
          refine lv_aload_n hx hb dX10_withoutTwo_39 rfl (lv_at hl 0 rfl) ?_
          refine lv_iload_n hx hb dX10_withoutTwo_40 rfl (lv_at hl 2 rfl) ?_
          refine lv_iload_n hx hb dX10_withoutTwo_41 rfl (lv_at hl 3 rfl) ?_
          obtain ⟨z_, g21, L22, hf23, h⟩ := cb_some h
          refine x_callVi (rest := [.int ((100 * v2) + v3), .ref (a 13)]) li_X10_111 C (rX10_lostWithout_9 l G H.size b a fu g16 L17 v2 v3 z_ (g21, L22) hf23) (kR rfl) hP hD hS 9 10 rfl (zat (by decide) xs_9) rfl hl.1 rfl (Nat.le_of_ble_eq_true rfl) dX10_withoutTwo_42 (fun x20 u_ H locs e_ hP hD hS => ?_)
          have e_ : x20 = z_ := e_
          subst e_
          have hP : va_P G.1 vwCl (zw G (XS b) 105 a g21 L22) H := hP
          have hD : va_D A (zw G (XS b) 105 a g21 L22) := hD
          obtain ⟨z_, g25, L26, hf27, h⟩ := cb_some h
          refine x_callNv (rest := []) li_X10_87 C (rX4_offer_13 l G H.size b a fu g21 L22 ((100 * v2) + v3) x20 z_ (g25, L26) hf27) (kR rfl) hP hD hS 13 4 rfl (zat (by decide) xs_13) rfl hl.1 rfl (Nat.le_of_ble_eq_true rfl) dX10_withoutTwo_45 (fun u_ H locs e_ hP hD hS => ?_)
          have hP : va_P G.1 vwCl (zw G (XS b) 105 a g25 L26) H := hP
          have hD : va_D A (zw G (XS b) 105 a g25 L26) := hD
          refine lv_iinc (v := (v3 + 1)) (lv' := [(3, .int (v3 + 1)), (0, .ref (a 9)), (1, .int v1), (2, .int v2)]) hx hb dX10_withoutTwo_48 hl (k := 3) rfl rfl (by decide) rfl (fun ls hl => ?_)
          refine lv_goto (tgt := 21) hx hb dX10_withoutTwo_51 (by decide) ?_
          exact ih21 ((v3 + 1), g25, L26) h H locs ls hP hD hS (lv_sub hl [1, 2, 3, 0] rfl)
      exact lp21 v2 fu (x14, g6, L7) h H locs ls hP hD hS (lv_sub hl [1, 2, 3, 0] rfl)
  exact lp9 p1 fu (0, g2, L3) h H locs ls hP hD hS (lv_sub hl [1, 2, 0] rfl)
def fX10_lostByRule_9 (fu : Nat) (p1 : Int32) (g : Nat → Nat → Int32) (L : Nat → Nat → Int64) : Option ((Int32) × zS) :=
  lti (g 6 11) (fun x1 =>
  sti g 6 11 p1 (fun g2 =>
  cb (fX1_lostFrom_8 fu 0 g2 L) (fun x3 g4 L5 =>
  sti g4 6 11 x1 (fun g7 =>
  some (x3, (g7, L5))))))
set_option maxHeartbeats 4000000 in
set_option maxRecDepth 100000 in
theorem rX10_lostByRule_9 (l : Launch) (G : kG) (sz : Nat) (b : Nat) (a : Nat → Nat) (fu : Nat) (g : Nat → Nat → Int32) (L : Nat → Nat → Int64) (p1 : Int32) (res : Int32) (s9 : zS) (h : fX10_lostByRule_9 fu p1 g L = some (res, s9)) : kM l yX10_lostByRule cX10_lostByRule 4 (some .int) { frames := 11, cells := 0, slots := 0, locals := 225 } G [.ref (a 9), .int p1] (zw G (XS b) 105 a g L) sz (kQi G (S := Unit) (fun r' _ => r' = res) (fun _ => zw G (XS b) 105 a s9.1 s9.2)) := by
  refine kM.of (by decide) (Nat.le_of_ble_eq_true rfl) ?_
  intro p e s m below meth c A ls H C hr hlk hnm hP hD hS hl
  have C : kC G p s m c cX10_lostByRule 4 RX10 A := C
  have hx := C.1
  have hb := C.2.1
  have hl : lv_has ls 4 [(0, .ref (a 9)), (1, .int p1)] := hl
  obtain ⟨locs, hlocs⟩ : ∃ q : List Loc, q = [] := ⟨_, rfl⟩
  rw [← hlocs] at hS
  rw [← hlocs]
  unfold fX10_lostByRule_9 at h
  refine lv_aload_n hx hb dX10_lostByRule_0 rfl (lv_at hl 0 rfl) ?_
  refine x_getr (Or.inl fl_X10_32) C hP (by decide) xs_9 rfl dX10_lostByRule_1 ?_
  refine x_getv (v := .int (g 6 11)) (Or.inr fl_X10_114) C hP (by decide) xs_6 rfl dX10_lostByRule_4 ?_
  refine y_let h (fun x1 h => ?_)
  refine lv_istore_n (lv' := [(2, .int x1), (0, .ref (a 9)), (1, .int p1)]) hx hb dX10_lostByRule_7 rfl hl (by decide) rfl (fun ls hl => ?_)
  refine lv_aload_n hx hb dX10_lostByRule_8 rfl (lv_at hl 1 rfl) ?_
  refine x_getr (Or.inl fl_X10_32) C hP (by decide) xs_9 rfl dX10_lostByRule_9 ?_
  refine lv_iload_n hx hb dX10_lostByRule_12 rfl (lv_at hl 2 rfl) ?_
  refine y_puti (Or.inr fl_X10_114) ft_X3_11 C hP hD hS (by decide) xs_6 rfl rfl rfl dX10_lostByRule_13 h (fun g2 H locs h hP hD hS => ?_)
  refine lv_aload_n hx hb dX10_lostByRule_16 rfl (lv_at hl 1 rfl) ?_
  refine x_getr (Or.inl fl_X10_22) C hP (by decide) xs_9 rfl dX10_lostByRule_17 ?_
  refine lv_iconst (v := 0) hx hb dX10_lostByRule_20 (by decide) ?_
  obtain ⟨z_, g4, L5, hf6, h⟩ := cb_some h
  refine x_callNi (rest := []) li_X10_77 C (rX1_lostFrom_8 l G H.size b a fu g2 L 0 z_ (g4, L5) hf6) (kR rfl) hP hD hS 8 1 rfl (zat (by decide) xs_8) rfl hl.1 rfl (Nat.le_of_ble_eq_true rfl) dX10_lostByRule_21 (fun x3 u_ H locs e_ hP hD hS => ?_)
  have e_ : x3 = z_ := e_
  subst e_
  have hP : va_P G.1 vwCl (zw G (XS b) 105 a g4 L5) H := hP
  have hD : va_D A (zw G (XS b) 105 a g4 L5) := hD
  refine lv_istore_n (lv' := [(3, .int x3), (2, .int x1), (0, .ref (a 9)), (1, .int p1)]) hx hb dX10_lostByRule_24 rfl hl (by decide) rfl (fun ls hl => ?_)
  refine lv_aload_n hx hb dX10_lostByRule_25 rfl (lv_at hl 2 rfl) ?_
  refine x_getr (Or.inl fl_X10_32) C hP (by decide) xs_9 rfl dX10_lostByRule_26 ?_
  refine lv_iload_n hx hb dX10_lostByRule_29 rfl (lv_at hl 1 rfl) ?_
  refine y_puti (Or.inr fl_X10_114) ft_X3_11 C hP hD hS (by decide) xs_6 rfl rfl rfl dX10_lostByRule_30 h (fun g7 H locs h hP hD hS => ?_)
  refine lv_iload_n hx hb dX10_lostByRule_33 rfl (lv_at hl 0 rfl) ?_
  exact y_iret C hr hlk hP hD hS h (Nat.le_of_ble_eq_true rfl) (Nat.le_of_ble_eq_true rfl) dX10_lostByRule_34
def fX10_bestRule_9_s9 (fu : Nat) (k9 : Int32 × (Nat → Nat → Int32) × (Nat → Nat → Int64) → Option ((Int32) × zS)) (v1 : Int32) (g : Nat → Nat → Int32) (L : Nat → Nat → Int64) : Option ((Int32) × zS) :=
  if (g 3 3) ≤ v1 then cb (fX4_told_13 fu 0 g L) (fun x6 g7 L8 =>
  some (x6, (g7, L8)))
  else cb (fX10_lostByRule_9 fu v1 g L) (fun x10 g11 L12 =>
  cb (fX4_offer_13 fu v1 x10 g11 L12) (fun x14 g15 L16 =>
  k9 ((v1 + 1), g15, L16)))
def fX10_bestRule_9_l9 (fu : Nat) (v1 : Int32) (g : Nat → Nat → Int32) (L : Nat → Nat → Int64) : Option ((Int32) × zS) :=
  whileK (fun k v => fX10_bestRule_9_s9 fu k v.1 v.2.1 v.2.2) fu (v1, g, L)
def fX10_bestRule_9 (fu : Nat) (g : Nat → Nat → Int32) (L : Nat → Nat → Int64) : Option ((Int32) × zS) :=
  cb (fX4_clear_13 fu g L) (fun x1 g2 L3 =>
  fX10_bestRule_9_l9 fu (-1) g2 L3)
set_option maxHeartbeats 4000000 in
set_option maxRecDepth 100000 in
theorem rX10_bestRule_9 (l : Launch) (G : kG) (sz : Nat) (b : Nat) (a : Nat → Nat) (fu : Nat) (g : Nat → Nat → Int32) (L : Nat → Nat → Int64) (res : Int32) (s9 : zS) (h : fX10_bestRule_9 fu g L = some (res, s9)) : kM l yX10_bestRule cX10_bestRule 2 (some .int) { frames := 12, cells := 0, slots := 0, locals := 248 } G [.ref (a 9)] (zw G (XS b) 105 a g L) sz (kQi G (S := Unit) (fun r' _ => r' = res) (fun _ => zw G (XS b) 105 a s9.1 s9.2)) := by
  refine kM.of (by decide) (Nat.le_of_ble_eq_true rfl) ?_
  intro p e s m below meth c A ls H C hr hlk hnm hP hD hS hl
  have C : kC G p s m c cX10_bestRule 2 RX10 A := C
  have hx := C.1
  have hb := C.2.1
  have hl : lv_has ls 2 [(0, .ref (a 9))] := hl
  obtain ⟨locs, hlocs⟩ : ∃ q : List Loc, q = [] := ⟨_, rfl⟩
  rw [← hlocs] at hS
  rw [← hlocs]
  unfold fX10_bestRule_9 at h
  refine lv_aload_n hx hb dX10_bestRule_0 rfl (lv_at hl 0 rfl) ?_
  refine x_getr (Or.inl fl_X10_12) C hP (by decide) xs_9 rfl dX10_bestRule_1 ?_
  obtain ⟨z_, g2, L3, hf4, h⟩ := cb_some h
  refine x_callNv (rest := []) li_X10_81 C (rX4_clear_13 l G H.size b a fu g L z_ (g2, L3) hf4) (kR rfl) hP hD hS 13 4 rfl (zat (by decide) xs_13) rfl hl.1 rfl (Nat.le_of_ble_eq_true rfl) dX10_bestRule_4 (fun u_ H locs e_ hP hD hS => ?_)
  have hP : va_P G.1 vwCl (zw G (XS b) 105 a g2 L3) H := hP
  have hD : va_D A (zw G (XS b) 105 a g2 L3) := hD
  refine lv_iconst (v := -1) hx hb dX10_bestRule_7 (by decide) ?_
  refine lv_istore_n (lv' := [(1, .int (-1)), (0, .ref (a 9))]) hx hb dX10_bestRule_8 rfl hl (by decide) rfl (fun ls hl => ?_)
  have lp9 : ∀ (_ : True), ∀ (n : Nat) (v : Int32 × (Nat → Nat → Int32) × (Nat → Nat → Int64)), whileK (fun k v => fX10_bestRule_9_s9 fu k v.1 v.2.1 v.2.2) n v = some (res, s9) → ∀ (H : Heap) (locs : List Loc) (ls : Array Slot), va_P G.1 vwCl (zw G (XS b) 105 a (v.2.1) (v.2.2)) H → va_D A (zw G (XS b) 105 a (v.2.1) (v.2.2)) → va_S A s.heap H locs → lv_has ls 2 [(0, .ref (a 9)), (1, .int (v.1))] → W p l e { frames := 12, cells := 0, slots := 0, locals := 248 } s m [.ref (a 9)].toArray below meth c H locs 0 0 (MQ below ((kQi G (S := Unit) (fun r' _ => r' = res) (fun _ => zw G (XS b) 105 a s9.1 s9.2)) A) [.ref (a 9)].toArray s 0 0 A) (F0 m 9 ls []) := by
    intro _
    refine while_ind (fun k9 ih9 v h => ?_)
    obtain ⟨v1, g, L⟩ := v
    intro H locs ls hP hD hS hl
    have h : fX10_bestRule_9_s9 fu k9 v1 g L = some (res, s9) := h
    have hP : va_P G.1 vwCl (zw G (XS b) 105 a g L) H := hP
    have hD : va_D A (zw G (XS b) 105 a g L) := hD
    have hl : lv_has ls 2 [(0, .ref (a 9)), (1, .int v1)] := hl
    show W p l e { frames := 12, cells := 0, slots := 0, locals := 248 } s m [.ref (a 9)].toArray below meth c H locs 0 0 (MQ below ((kQi G (S := Unit) (fun r' _ => r' = res) (fun _ => zw G (XS b) 105 a s9.1 s9.2)) A) [.ref (a 9)].toArray s 0 0 A) (F0 m 9 ls [])
    unfold fX10_bestRule_9_s9 at h
    refine lv_iload_n hx hb dX10_bestRule_9 rfl (lv_at hl 1 rfl) ?_
    refine lv_aload_n hx hb dX10_bestRule_10 rfl (lv_at hl 0 rfl) ?_
    refine x_getr (Or.inl fl_X10_22) C hP (by decide) xs_9 rfl dX10_bestRule_11 ?_
    refine x_getr (Or.inr fl_X10_33) C hP (by decide) xs_8 rfl dX10_bestRule_14 ?_
    refine x_getr (Or.inr fl_X10_117) C hP (by decide) xs_1 rfl dX10_bestRule_17 ?_
    refine x_getv (v := .int (g 3 3)) (Or.inr fl_X10_121) C hP (by decide) xs_3 rfl dX10_bestRule_20 ?_
    refine lv_icmp_ge (x := v1) (y := (g 3 3)) (tgt := 45) hx hb dX10_bestRule_23 (by decide) (fun c5 => ?_) (fun c5 => ?_)
    ·
      have h := ite_t c5 h
      refine lv_aload_n hx hb dX10_bestRule_45 rfl (lv_at hl 0 rfl) ?_
      refine x_getr (Or.inl fl_X10_12) C hP (by decide) xs_9 rfl dX10_bestRule_46 ?_
      refine lv_iconst (v := 0) hx hb dX10_bestRule_49 (by decide) ?_
      obtain ⟨z_, g7, L8, hf9, h⟩ := cb_some h
      refine x_callNi (rest := []) li_X10_97 C (rX4_told_13 l G H.size b a fu g L 0 z_ (g7, L8) hf9) (kR rfl) hP hD hS 13 4 rfl (zat (by decide) xs_13) rfl hl.1 rfl (Nat.le_of_ble_eq_true rfl) dX10_bestRule_50 (fun x6 u_ H locs e_ hP hD hS => ?_)
      have e_ : x6 = z_ := e_
      subst e_
      have hP : va_P G.1 vwCl (zw G (XS b) 105 a g7 L8) H := hP
      have hD : va_D A (zw G (XS b) 105 a g7 L8) := hD
      exact y_iret C hr hlk hP hD hS h (Nat.le_of_ble_eq_true rfl) (Nat.le_of_ble_eq_true rfl) dX10_bestRule_53
    ·
      have h := ite_e c5 h
      refine lv_aload_n hx hb dX10_bestRule_26 rfl (lv_at hl 0 rfl) ?_
      refine x_getr (Or.inl fl_X10_12) C hP (by decide) xs_9 rfl dX10_bestRule_27 ?_
      refine lv_iload_n hx hb dX10_bestRule_30 rfl (lv_at hl 1 rfl) ?_
      refine lv_aload_n hx hb dX10_bestRule_31 rfl (lv_at hl 0 rfl) ?_
      refine lv_iload_n hx hb dX10_bestRule_32 rfl (lv_at hl 1 rfl) ?_
      obtain ⟨z_, g11, L12, hf13, h⟩ := cb_some h
      refine x_callVi (rest := [.int v1, .ref (a 13)]) li_X10_126 C (rX10_lostByRule_9 l G H.size b a fu g L v1 z_ (g11, L12) hf13) (kR rfl) hP hD hS 9 10 rfl (zat (by decide) xs_9) rfl hl.1 rfl (Nat.le_of_ble_eq_true rfl) dX10_bestRule_33 (fun x10 u_ H locs e_ hP hD hS => ?_)
      have e_ : x10 = z_ := e_
      subst e_
      have hP : va_P G.1 vwCl (zw G (XS b) 105 a g11 L12) H := hP
      have hD : va_D A (zw G (XS b) 105 a g11 L12) := hD
      obtain ⟨z_, g15, L16, hf17, h⟩ := cb_some h
      refine x_callNv (rest := []) li_X10_87 C (rX4_offer_13 l G H.size b a fu g11 L12 v1 x10 z_ (g15, L16) hf17) (kR rfl) hP hD hS 13 4 rfl (zat (by decide) xs_13) rfl hl.1 rfl (Nat.le_of_ble_eq_true rfl) dX10_bestRule_36 (fun u_ H locs e_ hP hD hS => ?_)
      have hP : va_P G.1 vwCl (zw G (XS b) 105 a g15 L16) H := hP
      have hD : va_D A (zw G (XS b) 105 a g15 L16) := hD
      refine lv_iinc (v := (v1 + 1)) (lv' := [(1, .int (v1 + 1)), (0, .ref (a 9))]) hx hb dX10_bestRule_39 hl (k := 1) rfl rfl (by decide) rfl (fun ls hl => ?_)
      refine lv_goto (tgt := 9) hx hb dX10_bestRule_42 (by decide) ?_
      exact ih9 ((v1 + 1), g15, L16) h H locs ls hP hD hS (lv_sub hl [1, 0] rfl)
  exact lp9 trivial fu ((-1), g2, L3) h H locs ls hP hD hS (lv_sub hl [1, 0] rfl)
def fX10_worthOfBell_9_s29 (fu : Nat) (v1 : Int32) (v2 : Int32) (k29 : Int32 × (Nat → Nat → Int32) × (Nat → Nat → Int64) → Option ((Int32) × zS)) (v3 : Int32) (g : Nat → Nat → Int32) (L : Nat → Nat → Int64) : Option ((Int32) × zS) :=
  cb (fX10_lessonCount_9 fu g L) (fun x6 g7 L8 =>
  if x6 ≤ (v3 : Int32) then cb (fX1_lostFrom_8 fu 0 g7 L8) (fun x11 g12 L13 =>
  stA g12 25 (va_cpy (g12 49) (g12 25) (Int32.toNatClampNeg 0) (Int32.toNatClampNeg 0) (Int32.toNatClampNeg 12)) (fun g15 =>
  some ((v2 - x11), (g15, L13))))
  else ck v3 12 (
  ck v3 12 (sti g7 25 (Int32.toNatClampNeg v3) (if v1 < (g7 49 (Int32.toNatClampNeg v3)) then v1 else (g7 49 (Int32.toNatClampNeg v3))) (fun g16 =>
  k29 ((v3 + 1), g16, L8)))))
def fX10_worthOfBell_9_l29 (fu : Nat) (v1 : Int32) (v2 : Int32) (v3 : Int32) (g : Nat → Nat → Int32) (L : Nat → Nat → Int64) : Option ((Int32) × zS) :=
  whileK (fun k v => fX10_worthOfBell_9_s29 fu v1 v2 k v.1 v.2.1 v.2.2) fu (v3, g, L)
def fX10_worthOfBell_9 (fu : Nat) (p1 : Int32) (g : Nat → Nat → Int32) (L : Nat → Nat → Int64) : Option ((Int32) × zS) :=
  cb (fX1_lostFrom_8 fu 0 g L) (fun x1 g2 L3 =>
  stA g2 49 (va_cpy (g2 25) (g2 49) (Int32.toNatClampNeg 0) (Int32.toNatClampNeg 0) (Int32.toNatClampNeg 12)) (fun g5 =>
  fX10_worthOfBell_9_l29 fu p1 x1 0 g5 L3))
set_option maxHeartbeats 4000000 in
set_option maxRecDepth 100000 in
theorem rX10_worthOfBell_9 (l : Launch) (G : kG) (sz : Nat) (b : Nat) (a : Nat → Nat) (fu : Nat) (g : Nat → Nat → Int32) (L : Nat → Nat → Int64) (p1 : Int32) (res : Int32) (s9 : zS) (h : fX10_worthOfBell_9 fu p1 g L = some (res, s9)) : kM l yX10_worthOfBell cX10_worthOfBell 4 (some .int) { frames := 11, cells := 0, slots := 0, locals := 225 } G [.ref (a 9), .int p1] (zw G (XS b) 105 a g L) sz (kQi G (S := Unit) (fun r' _ => r' = res) (fun _ => zw G (XS b) 105 a s9.1 s9.2)) := by
  refine kM.of (by decide) (Nat.le_of_ble_eq_true rfl) ?_
  intro p e s m below meth c A ls H C hr hlk hnm hP hD hS hl
  have C : kC G p s m c cX10_worthOfBell 4 RX10 A := C
  have hx := C.1
  have hb := C.2.1
  have hl : lv_has ls 4 [(0, .ref (a 9)), (1, .int p1)] := hl
  obtain ⟨locs, hlocs⟩ : ∃ q : List Loc, q = [] := ⟨_, rfl⟩
  rw [← hlocs] at hS
  rw [← hlocs]
  unfold fX10_worthOfBell_9 at h
  refine lv_aload_n hx hb dX10_worthOfBell_0 rfl (lv_at hl 0 rfl) ?_
  refine x_getr (Or.inl fl_X10_22) C hP (by decide) xs_9 rfl dX10_worthOfBell_1 ?_
  refine lv_iconst (v := 0) hx hb dX10_worthOfBell_4 (by decide) ?_
  obtain ⟨z_, g2, L3, hf4, h⟩ := cb_some h
  refine x_callNi (rest := []) li_X10_77 C (rX1_lostFrom_8 l G H.size b a fu g L 0 z_ (g2, L3) hf4) (kR rfl) hP hD hS 8 1 rfl (zat (by decide) xs_8) rfl hl.1 rfl (Nat.le_of_ble_eq_true rfl) dX10_worthOfBell_5 (fun x1 u_ H locs e_ hP hD hS => ?_)
  have e_ : x1 = z_ := e_
  subst e_
  have hP : va_P G.1 vwCl (zw G (XS b) 105 a g2 L3) H := hP
  have hD : va_D A (zw G (XS b) 105 a g2 L3) := hD
  refine lv_istore_n (lv' := [(2, .int x1), (0, .ref (a 9)), (1, .int p1)]) hx hb dX10_worthOfBell_8 rfl hl (by decide) rfl (fun ls hl => ?_)
  refine lv_aload_n hx hb dX10_worthOfBell_9 rfl (lv_at hl 1 rfl) ?_
  refine x_getr (Or.inl fl_X10_32) C hP (by decide) xs_9 rfl dX10_worthOfBell_10 ?_
  refine x_getr (Or.inr fl_X10_56) C hP (by decide) xs_6 rfl dX10_worthOfBell_13 ?_
  refine lv_iconst (v := 0) hx hb dX10_worthOfBell_16 (by decide) ?_
  refine lv_aload_n hx hb dX10_worthOfBell_17 rfl (lv_at hl 1 rfl) ?_
  refine x_getr (Or.inl fl_X10_18) C hP (by decide) xs_9 rfl dX10_worthOfBell_18 ?_
  refine lv_iconst (v := 0) hx hb dX10_worthOfBell_21 (by decide) ?_
  refine lv_bipush (v := 12) hx hb dX10_worthOfBell_22 (by decide) ?_
  refine y_copy lc_X10_50 C hl.1 hP hD hS (by decide) (by decide) xs_25 xs_49 (by decide) (by decide) (by decide) (by decide) (by decide) (Nat.le_of_ble_eq_true rfl) (Nat.le_of_ble_eq_true rfl) dX10_worthOfBell_24 h (fun g5 H locs h hP hD hS => ?_)
  refine lv_iconst (v := 0) hx hb dX10_worthOfBell_27 (by decide) ?_
  refine lv_istore_n (lv' := [(3, .int 0), (2, .int x1), (0, .ref (a 9)), (1, .int p1)]) hx hb dX10_worthOfBell_28 rfl hl (by decide) rfl (fun ls hl => ?_)
  have lp29 : ∀ (v1 : Int32) (v2 : Int32), ∀ (n : Nat) (v : Int32 × (Nat → Nat → Int32) × (Nat → Nat → Int64)), whileK (fun k v => fX10_worthOfBell_9_s29 fu v1 v2 k v.1 v.2.1 v.2.2) n v = some (res, s9) → ∀ (H : Heap) (locs : List Loc) (ls : Array Slot), va_P G.1 vwCl (zw G (XS b) 105 a (v.2.1) (v.2.2)) H → va_D A (zw G (XS b) 105 a (v.2.1) (v.2.2)) → va_S A s.heap H locs → lv_has ls 4 [(0, .ref (a 9)), (1, .int v1), (2, .int v2), (3, .int (v.1))] → W p l e { frames := 11, cells := 0, slots := 0, locals := 225 } s m [.ref (a 9), .int p1].toArray below meth c H locs 0 0 (MQ below ((kQi G (S := Unit) (fun r' _ => r' = res) (fun _ => zw G (XS b) 105 a s9.1 s9.2)) A) [.ref (a 9), .int p1].toArray s 0 0 A) (F0 m 29 ls []) := by
    intro v1 v2
    refine while_ind (fun k29 ih29 v h => ?_)
    obtain ⟨v3, g, L⟩ := v
    intro H locs ls hP hD hS hl
    have h : fX10_worthOfBell_9_s29 fu v1 v2 k29 v3 g L = some (res, s9) := h
    have hP : va_P G.1 vwCl (zw G (XS b) 105 a g L) H := hP
    have hD : va_D A (zw G (XS b) 105 a g L) := hD
    have hl : lv_has ls 4 [(0, .ref (a 9)), (1, .int v1), (2, .int v2), (3, .int v3)] := hl
    show W p l e { frames := 11, cells := 0, slots := 0, locals := 225 } s m [.ref (a 9), .int p1].toArray below meth c H locs 0 0 (MQ below ((kQi G (S := Unit) (fun r' _ => r' = res) (fun _ => zw G (XS b) 105 a s9.1 s9.2)) A) [.ref (a 9), .int p1].toArray s 0 0 A) (F0 m 29 ls [])
    unfold fX10_worthOfBell_9_s29 at h
    refine lv_iload_n hx hb dX10_worthOfBell_29 rfl (lv_at hl 3 rfl) ?_
    refine lv_aload_n hx hb dX10_worthOfBell_30 rfl (lv_at hl 0 rfl) ?_
    obtain ⟨z_, g7, L8, hf9, h⟩ := cb_some h
    refine x_callVi (rest := [.int v3]) li_X10_64 C (rX10_lessonCount_9 l G H.size b a fu g L z_ (g7, L8) hf9) (kR rfl) hP hD hS 9 10 rfl (zat (by decide) xs_9) rfl hl.1 rfl (Nat.le_of_ble_eq_true rfl) dX10_worthOfBell_31 (fun x6 u_ H locs e_ hP hD hS => ?_)
    have e_ : x6 = z_ := e_
    subst e_
    have hP : va_P G.1 vwCl (zw G (XS b) 105 a g7 L8) H := hP
    have hD : va_D A (zw G (XS b) 105 a g7 L8) := hD
    refine lv_icmp_ge (x := v3) (y := x6) (tgt := 62) hx hb dX10_worthOfBell_34 (by decide) (fun c10 => ?_) (fun c10 => ?_)
    ·
      have h := ite_t c10 h
      refine lv_aload_n hx hb dX10_worthOfBell_62 rfl (lv_at hl 0 rfl) ?_
      refine x_getr (Or.inl fl_X10_22) C hP (by decide) xs_9 rfl dX10_worthOfBell_63 ?_
      refine lv_iconst (v := 0) hx hb dX10_worthOfBell_66 (by decide) ?_
      obtain ⟨z_, g12, L13, hf14, h⟩ := cb_some h
      refine x_callNi (rest := []) li_X10_77 C (rX1_lostFrom_8 l G H.size b a fu g7 L8 0 z_ (g12, L13) hf14) (kR rfl) hP hD hS 8 1 rfl (zat (by decide) xs_8) rfl hl.1 rfl (Nat.le_of_ble_eq_true rfl) dX10_worthOfBell_67 (fun x11 u_ H locs e_ hP hD hS => ?_)
      have e_ : x11 = z_ := e_
      subst e_
      have hP : va_P G.1 vwCl (zw G (XS b) 105 a g12 L13) H := hP
      have hD : va_D A (zw G (XS b) 105 a g12 L13) := hD
      refine lv_istore_n (lv' := [(3, .int x11), (0, .ref (a 9)), (1, .int v1), (2, .int v2)]) hx hb dX10_worthOfBell_70 rfl hl (by decide) rfl (fun ls hl => ?_)
      refine lv_aload_n hx hb dX10_worthOfBell_71 rfl (lv_at hl 1 rfl) ?_
      refine x_getr (Or.inl fl_X10_18) C hP (by decide) xs_9 rfl dX10_worthOfBell_72 ?_
      refine lv_iconst (v := 0) hx hb dX10_worthOfBell_75 (by decide) ?_
      refine lv_aload_n hx hb dX10_worthOfBell_76 rfl (lv_at hl 1 rfl) ?_
      refine x_getr (Or.inl fl_X10_32) C hP (by decide) xs_9 rfl dX10_worthOfBell_77 ?_
      refine x_getr (Or.inr fl_X10_56) C hP (by decide) xs_6 rfl dX10_worthOfBell_80 ?_
      refine lv_iconst (v := 0) hx hb dX10_worthOfBell_83 (by decide) ?_
      refine lv_bipush (v := 12) hx hb dX10_worthOfBell_84 (by decide) ?_
      refine y_copy lc_X10_50 C hl.1 hP hD hS (by decide) (by decide) xs_49 xs_25 (by decide) (by decide) (by decide) (by decide) (by decide) (Nat.le_of_ble_eq_true rfl) (Nat.le_of_ble_eq_true rfl) dX10_worthOfBell_86 h (fun g15 H locs h hP hD hS => ?_)
      refine lv_iload_n hx hb dX10_worthOfBell_89 rfl (lv_at hl 3 rfl) ?_
      refine lv_iload_n hx hb dX10_worthOfBell_90 rfl (lv_at hl 0 rfl) ?_
      refine lv_isub hx hb dX10_worthOfBell_91 ?_
      exact y_iret C hr hlk hP hD hS h (Nat.le_of_ble_eq_true rfl) (Nat.le_of_ble_eq_true rfl) dX10_worthOfBell_92
    ·
      have h := ite_e c10 h
      refine lv_aload_n hx hb dX10_worthOfBell_37 rfl (lv_at hl 0 rfl) ?_
      refine x_getr (Or.inl fl_X10_32) C hP (by decide) xs_9 rfl dX10_worthOfBell_38 ?_
      refine x_getr (Or.inr fl_X10_56) C hP (by decide) xs_6 rfl dX10_worthOfBell_41 ?_
      refine lv_iload_n hx hb dX10_worthOfBell_44 rfl (lv_at hl 3 rfl) ?_
      refine lv_aload_n hx hb dX10_worthOfBell_45 rfl (lv_at hl 0 rfl) ?_
      refine x_getr (Or.inl fl_X10_18) C hP (by decide) xs_9 rfl dX10_worthOfBell_46 ?_
      refine lv_iload_n hx hb dX10_worthOfBell_49 rfl (lv_at hl 3 rfl) ?_
      refine y_ald C hP (by decide) xs_49 dX10_worthOfBell_50 h (fun h => ?_)
      refine lv_iload_n hx hb dX10_worthOfBell_51 rfl (lv_at hl 1 rfl) ?_
      refine k_min lm_X10_129 C hl.1 (Nat.le_of_ble_eq_true rfl) (Nat.le_of_ble_eq_true rfl) (Nat.le_of_ble_eq_true rfl) (Nat.le_of_ble_eq_true rfl) dX10_worthOfBell_52 ?_
      refine y_ast C hP hD hS (by decide) xs_25 dX10_worthOfBell_55 h (fun g16 H locs h hP hD hS => ?_)
      refine lv_iinc (v := (v3 + 1)) (lv' := [(3, .int (v3 + 1)), (0, .ref (a 9)), (1, .int v1), (2, .int v2)]) hx hb dX10_worthOfBell_56 hl (k := 3) rfl rfl (by decide) rfl (fun ls hl => ?_)
      refine lv_goto (tgt := 29) hx hb dX10_worthOfBell_59 (by decide) ?_
      exact ih29 ((v3 + 1), g16, L8) h H locs ls hP hD hS (lv_sub hl [1, 2, 3, 0] rfl)
  exact lp29 p1 x1 fu (0, g5, L3) h H locs ls hP hD hS (lv_sub hl [2, 3, 1, 0] rfl)
def fX10_isAsSeen_9_s2 (fu : Nat) (k2 : Int32 × (Nat → Nat → Int32) × (Nat → Nat → Int64) → Option ((Int32) × zS)) (v1 : Int32) (g : Nat → Nat → Int32) (L : Nat → Nat → Int64) : Option ((Int32) × zS) :=
  if (g 6 10) ≤ v1 then ckb 1 (some (1, (g, L)))
  else ck v1 8 (
  cb (fX1_late_8 fu (g 32 (Int32.toNatClampNeg v1)) g L) (fun x2 g3 L4 =>
  ck v1 8 (
  if x2 = (g3 33 (Int32.toNatClampNeg v1)) then k2 ((v1 + 1), g3, L4)
  else ckb 0 (some (0, (g3, L4))))))
def fX10_isAsSeen_9_l2 (fu : Nat) (v1 : Int32) (g : Nat → Nat → Int32) (L : Nat → Nat → Int64) : Option ((Int32) × zS) :=
  whileK (fun k v => fX10_isAsSeen_9_s2 fu k v.1 v.2.1 v.2.2) fu (v1, g, L)
def fX10_isAsSeen_9 (fu : Nat) (g : Nat → Nat → Int32) (L : Nat → Nat → Int64) : Option ((Int32) × zS) :=
  fX10_isAsSeen_9_l2 fu 0 g L
set_option maxHeartbeats 4000000 in
set_option maxRecDepth 100000 in
theorem rX10_isAsSeen_9 (l : Launch) (G : kG) (sz : Nat) (b : Nat) (a : Nat → Nat) (fu : Nat) (g : Nat → Nat → Int32) (L : Nat → Nat → Int64) (res : Int32) (s9 : zS) (h : fX10_isAsSeen_9 fu g L = some (res, s9)) : kM l yX10_isAsSeen cX10_isAsSeen 2 (some .boolean) { frames := 7, cells := 0, slots := 0, locals := 131 } G [.ref (a 9)] (zw G (XS b) 105 a g L) sz (kQi G (S := Unit) (fun r' _ => r' = res) (fun _ => zw G (XS b) 105 a s9.1 s9.2)) := by
  refine kM.of (by decide) (Nat.le_of_ble_eq_true rfl) ?_
  intro p e s m below meth c A ls H C hr hlk hnm hP hD hS hl
  have C : kC G p s m c cX10_isAsSeen 2 RX10 A := C
  have hx := C.1
  have hb := C.2.1
  have hl : lv_has ls 2 [(0, .ref (a 9))] := hl
  obtain ⟨locs, hlocs⟩ : ∃ q : List Loc, q = [] := ⟨_, rfl⟩
  rw [← hlocs] at hS
  rw [← hlocs]
  unfold fX10_isAsSeen_9 at h
  refine lv_iconst (v := 0) hx hb dX10_isAsSeen_0 (by decide) ?_
  refine lv_istore_n (lv' := [(1, .int 0), (0, .ref (a 9))]) hx hb dX10_isAsSeen_1 rfl hl (by decide) rfl (fun ls hl => ?_)
  have lp2 : ∀ (_ : True), ∀ (n : Nat) (v : Int32 × (Nat → Nat → Int32) × (Nat → Nat → Int64)), whileK (fun k v => fX10_isAsSeen_9_s2 fu k v.1 v.2.1 v.2.2) n v = some (res, s9) → ∀ (H : Heap) (locs : List Loc) (ls : Array Slot), va_P G.1 vwCl (zw G (XS b) 105 a (v.2.1) (v.2.2)) H → va_D A (zw G (XS b) 105 a (v.2.1) (v.2.2)) → va_S A s.heap H locs → lv_has ls 2 [(0, .ref (a 9)), (1, .int (v.1))] → W p l e { frames := 7, cells := 0, slots := 0, locals := 131 } s m [.ref (a 9)].toArray below meth c H locs 0 0 (MQ below ((kQi G (S := Unit) (fun r' _ => r' = res) (fun _ => zw G (XS b) 105 a s9.1 s9.2)) A) [.ref (a 9)].toArray s 0 0 A) (F0 m 2 ls []) := by
    intro _
    refine while_ind (fun k2 ih2 v h => ?_)
    obtain ⟨v1, g, L⟩ := v
    intro H locs ls hP hD hS hl
    have h : fX10_isAsSeen_9_s2 fu k2 v1 g L = some (res, s9) := h
    have hP : va_P G.1 vwCl (zw G (XS b) 105 a g L) H := hP
    have hD : va_D A (zw G (XS b) 105 a g L) := hD
    have hl : lv_has ls 2 [(0, .ref (a 9)), (1, .int v1)] := hl
    show W p l e { frames := 7, cells := 0, slots := 0, locals := 131 } s m [.ref (a 9)].toArray below meth c H locs 0 0 (MQ below ((kQi G (S := Unit) (fun r' _ => r' = res) (fun _ => zw G (XS b) 105 a s9.1 s9.2)) A) [.ref (a 9)].toArray s 0 0 A) (F0 m 2 ls [])
    unfold fX10_isAsSeen_9_s2 at h
    refine lv_iload_n hx hb dX10_isAsSeen_2 rfl (lv_at hl 1 rfl) ?_
    refine lv_aload_n hx hb dX10_isAsSeen_3 rfl (lv_at hl 0 rfl) ?_
    refine x_getr (Or.inl fl_X10_32) C hP (by decide) xs_9 rfl dX10_isAsSeen_4 ?_
    refine x_getv (v := .int (g 6 10)) (Or.inr fl_X10_150) C hP (by decide) xs_6 rfl dX10_isAsSeen_7 ?_
    refine lv_icmp_ge (x := v1) (y := (g 6 10)) (tgt := 49) hx hb dX10_isAsSeen_10 (by decide) (fun c1 => ?_) (fun c1 => ?_)
    ·
      have h := ite_t c1 h
      refine lv_iconst (v := 1) hx hb dX10_isAsSeen_49 (by decide) ?_
      exact y_zret C hr hlk hP hD hS h (Nat.le_of_ble_eq_true rfl) (Nat.le_of_ble_eq_true rfl) dX10_isAsSeen_50
    ·
      have h := ite_e c1 h
      refine lv_aload_n hx hb dX10_isAsSeen_13 rfl (lv_at hl 0 rfl) ?_
      refine x_getr (Or.inl fl_X10_22) C hP (by decide) xs_9 rfl dX10_isAsSeen_14 ?_
      refine lv_aload_n hx hb dX10_isAsSeen_17 rfl (lv_at hl 0 rfl) ?_
      refine x_getr (Or.inl fl_X10_32) C hP (by decide) xs_9 rfl dX10_isAsSeen_18 ?_
      refine x_getr (Or.inr fl_X10_153) C hP (by decide) xs_6 rfl dX10_isAsSeen_21 ?_
      refine lv_iload_n hx hb dX10_isAsSeen_24 rfl (lv_at hl 1 rfl) ?_
      refine y_ald C hP (by decide) xs_32 dX10_isAsSeen_25 h (fun h => ?_)
      obtain ⟨z_, g3, L4, hf5, h⟩ := cb_some h
      refine x_callNi (rest := []) li_X10_156 C (rX1_late_8 l G H.size b a fu g L (g 32 (Int32.toNatClampNeg v1)) z_ (g3, L4) hf5) (kR rfl) hP hD hS 8 1 rfl (zat (by decide) xs_8) rfl hl.1 rfl (Nat.le_of_ble_eq_true rfl) dX10_isAsSeen_26 (fun x2 u_ H locs e_ hP hD hS => ?_)
      have e_ : x2 = z_ := e_
      subst e_
      have hP : va_P G.1 vwCl (zw G (XS b) 105 a g3 L4) H := hP
      have hD : va_D A (zw G (XS b) 105 a g3 L4) := hD
      refine lv_aload_n hx hb dX10_isAsSeen_29 rfl (lv_at hl 0 rfl) ?_
      refine x_getr (Or.inl fl_X10_32) C hP (by decide) xs_9 rfl dX10_isAsSeen_30 ?_
      refine x_getr (Or.inr fl_X10_159) C hP (by decide) xs_6 rfl dX10_isAsSeen_33 ?_
      refine lv_iload_n hx hb dX10_isAsSeen_36 rfl (lv_at hl 1 rfl) ?_
      refine y_ald C hP (by decide) xs_33 dX10_isAsSeen_37 h (fun h => ?_)
      refine lv_icmp_eq (x := x2) (y := (g3 33 (Int32.toNatClampNeg v1))) (tgt := 43) hx hb dX10_isAsSeen_38 (by decide) (fun c6 => ?_) (fun c6 => ?_)
      ·
        have h := ite_t c6 h
        refine lv_iinc (v := (v1 + 1)) (lv' := [(1, .int (v1 + 1)), (0, .ref (a 9))]) hx hb dX10_isAsSeen_43 hl (k := 1) rfl rfl (by decide) rfl (fun ls hl => ?_)
        refine lv_goto (tgt := 2) hx hb dX10_isAsSeen_46 (by decide) ?_
        exact ih2 ((v1 + 1), g3, L4) h H locs ls hP hD hS (lv_sub hl [1, 0] rfl)
      ·
        have h := ite_e c6 h
        refine lv_iconst (v := 0) hx hb dX10_isAsSeen_41 (by decide) ?_
        exact y_zret C hr hlk hP hD hS h (Nat.le_of_ble_eq_true rfl) (Nat.le_of_ble_eq_true rfl) dX10_isAsSeen_42
  exact lp2 trivial fu (0, g, L) h H locs ls hP hD hS (lv_sub hl [1, 0] rfl)
def fX10_addBeginner_9_p38 (fu : Nat) (g : Nat → Nat → Int32) (L : Nat → Nat → Int64) : Option ((Unit) × zS) :=
  sti g 9 4 ((g 9 4) + 1) (fun g1 =>
  some ((), (g1, L)))
def fX10_addBeginner_9 (fu : Nat) (p1 : Int32) (p2 : Int32) (g : Nat → Nat → Int32) (L : Nat → Nat → Int64) : Option ((Unit) × zS) :=
  if (g 9 4) = 0 then sti g 9 5 ((100 * p1) + p2) (fun g5 =>
  sti g5 9 6 p1 (fun g6 =>
  fX10_addBeginner_9_p38 fu g6 L))
  else if (g 9 6) = p1 then fX10_addBeginner_9_p38 fu g L
  else sti g 9 6 (-1) (fun g4 =>
  fX10_addBeginner_9_p38 fu g4 L)
set_option maxHeartbeats 4000000 in
set_option maxRecDepth 100000 in
theorem rX10_addBeginner_9 (l : Launch) (G : kG) (sz : Nat) (b : Nat) (a : Nat → Nat) (fu : Nat) (g : Nat → Nat → Int32) (L : Nat → Nat → Int64) (p1 : Int32) (p2 : Int32) (res : Unit) (s9 : zS) (h : fX10_addBeginner_9 fu p1 p2 g L = some (res, s9)) : kM l yX10_addBeginner cX10_addBeginner 3 none { frames := 6, cells := 0, slots := 0, locals := 110 } G [.ref (a 9), .int p1, .int p2] (zw G (XS b) 105 a g L) sz (kQv G (S := Unit) (fun _ => True) (fun _ => zw G (XS b) 105 a s9.1 s9.2)) := by
  refine kM.of (by decide) (Nat.le_of_ble_eq_true rfl) ?_
  intro p e s m below meth c A ls H C hr hlk hnm hP hD hS hl
  have C : kC G p s m c cX10_addBeginner 3 RX10 A := C
  have hx := C.1
  have hb := C.2.1
  have hl : lv_has ls 3 [(0, .ref (a 9)), (1, .int p1), (2, .int p2)] := hl
  obtain ⟨locs, hlocs⟩ : ∃ q : List Loc, q = [] := ⟨_, rfl⟩
  rw [← hlocs] at hS
  rw [← hlocs]
  unfold fX10_addBeginner_9 at h
  refine lv_aload_n hx hb dX10_addBeginner_0 rfl (lv_at hl 0 rfl) ?_
  refine x_getv (v := .int (g 9 4)) (Or.inl fl_X10_134) C hP (by decide) xs_9 rfl dX10_addBeginner_1 ?_
  have J38 : ∀ (g : Nat → Nat → Int32) (L : Nat → Nat → Int64) (H : Heap) (locs : List Loc) (ls : Array Slot), fX10_addBeginner_9_p38 fu g L = some (res, s9) → va_P G.1 vwCl (zw G (XS b) 105 a g L) H → va_D A (zw G (XS b) 105 a g L) → va_S A s.heap H locs → lv_has ls 3 [(0, .ref (a 9))] → W p l e { frames := 6, cells := 0, slots := 0, locals := 110 } s m [.ref (a 9), .int p1, .int p2].toArray below meth c H locs 0 0 (MQ below ((kQv G (S := Unit) (fun _ => True) (fun _ => zw G (XS b) 105 a s9.1 s9.2)) A) [.ref (a 9), .int p1, .int p2].toArray s 0 0 A) (F0 m 38 ls []) := by
    intro g L H locs ls h hP hD hS hl
    unfold fX10_addBeginner_9_p38 at h
    refine lv_aload_n hx hb dX10_addBeginner_38 rfl (lv_at hl 0 rfl) ?_
    refine lv_dup hx hb dX10_addBeginner_39 rfl ?_
    refine x_getv (v := .int (g 9 4)) (Or.inl fl_X10_134) C hP (by decide) xs_9 rfl dX10_addBeginner_40 ?_
    refine lv_iconst (v := 1) hx hb dX10_addBeginner_43 (by decide) ?_
    refine lv_iadd hx hb dX10_addBeginner_44 ?_
    refine y_puti (Or.inl fl_X10_134) ft_X10_4 C hP hD hS (by decide) xs_9 rfl rfl rfl dX10_addBeginner_45 h (fun g1 H locs h hP hD hS => ?_)
    exact y_vret C hr hlk hP hD hS h (Nat.le_of_ble_eq_true rfl) (Nat.le_of_ble_eq_true rfl) dX10_addBeginner_48
  refine lv_if_ne (x := (g 9 4)) (tgt := 25) hx hb dX10_addBeginner_4 (by decide) (fun c2 => ?_) (fun c2 => ?_)
  ·
    have h := ite_e c2 h
    refine lv_aload_n hx hb dX10_addBeginner_25 rfl (lv_at hl 0 rfl) ?_
    refine x_getv (v := .int (g 9 6)) (Or.inl fl_X10_140) C hP (by decide) xs_9 rfl dX10_addBeginner_26 ?_
    refine lv_iload_n hx hb dX10_addBeginner_29 rfl (lv_at hl 1 rfl) ?_
    refine lv_icmp_eq (x := (g 9 6)) (y := p1) (tgt := 38) hx hb dX10_addBeginner_30 (by decide) (fun c3 => ?_) (fun c3 => ?_)
    ·
      have h := ite_t c3 h
      exact J38 g L H locs ls h hP hD hS (lv_sub hl [0] rfl)
    ·
      have h := ite_e c3 h
      refine lv_aload_n hx hb dX10_addBeginner_33 rfl (lv_at hl 0 rfl) ?_
      refine lv_iconst (v := -1) hx hb dX10_addBeginner_34 (by decide) ?_
      refine y_puti (Or.inl fl_X10_140) ft_X10_6 C hP hD hS (by decide) xs_9 rfl rfl rfl dX10_addBeginner_35 h (fun g4 H locs h hP hD hS => ?_)
      exact J38 g4 L H locs ls h hP hD hS (lv_sub hl [0] rfl)
  ·
    have h := ite_t c2 h
    refine lv_aload_n hx hb dX10_addBeginner_7 rfl (lv_at hl 0 rfl) ?_
    refine lv_bipush (v := 100) hx hb dX10_addBeginner_8 (by decide) ?_
    refine lv_iload_n hx hb dX10_addBeginner_10 rfl (lv_at hl 1 rfl) ?_
    refine lv_imul hx hb dX10_addBeginner_11 ?_
    refine lv_iload_n hx hb dX10_addBeginner_12 rfl (lv_at hl 2 rfl) ?_
    refine lv_iadd hx hb dX10_addBeginner_13 ?_
    refine y_puti (Or.inl fl_X10_137) ft_X10_5 C hP hD hS (by decide) xs_9 rfl rfl rfl dX10_addBeginner_14 h (fun g5 H locs h hP hD hS => ?_)
    refine lv_aload_n hx hb dX10_addBeginner_17 rfl (lv_at hl 0 rfl) ?_
    refine lv_iload_n hx hb dX10_addBeginner_18 rfl (lv_at hl 1 rfl) ?_
    refine y_puti (Or.inl fl_X10_140) ft_X10_6 C hP hD hS (by decide) xs_9 rfl rfl rfl dX10_addBeginner_19 h (fun g6 H locs h hP hD hS => ?_)
    refine lv_goto (tgt := 38) hx hb dX10_addBeginner_22 (by decide) ?_
    exact J38 g6 L H locs ls h hP hD hS (lv_sub hl [0] rfl)
def fX10_findBeginners_9_p82 (fu : Nat) (k17 : Int32 × (Nat → Nat → Int32) × (Nat → Nat → Int64) → Option ((Unit) × zS)) (k45 : Int32 × (Nat → Nat → Int32) × (Nat → Nat → Int64) → Option ((Unit) × zS)) (v1 : Int32) (v2 : Int32) (v3 : Int32) (g : Nat → Nat → Int32) (L : Nat → Nat → Int64) : Option ((Unit) × zS) :=
  k45 ((v3 + 1), g, L)
def fX10_findBeginners_9_s45 (fu : Nat) (k17 : Int32 × (Nat → Nat → Int32) × (Nat → Nat → Int64) → Option ((Unit) × zS)) (v1 : Int32) (v2 : Int32) (k45 : Int32 × (Nat → Nat → Int32) × (Nat → Nat → Int64) → Option ((Unit) × zS)) (v3 : Int32) (g : Nat → Nat → Int32) (L : Nat → Nat → Int64) : Option ((Unit) × zS) :=
  if 30 < (v3 : Int32) then ck v1 12 (sti g 25 (Int32.toNatClampNeg v1) v2 (fun g15 =>
  k17 ((v1 + 1), g15, L)))
  else ck v1 12 (sti g 25 (Int32.toNatClampNeg v1) v3 (fun g16 =>
  cb (fX1_runFrom_8 fu v1 g16 L) (fun x17 g18 L19 =>
  cb (fX10_isAsSeen_9 fu g18 L19) (fun x21 g22 L23 =>
  if x21 = 0 then fX10_findBeginners_9_p82 fu k17 k45 v1 v2 v3 g22 L23
  else cb (fX10_addBeginner_9 fu v1 v3 g22 L23) (fun x26 g27 L28 =>
  fX10_findBeginners_9_p82 fu k17 k45 v1 v2 v3 g27 L28)))))
def fX10_findBeginners_9_l45 (fu : Nat) (k17 : Int32 × (Nat → Nat → Int32) × (Nat → Nat → Int64) → Option ((Unit) × zS)) (v1 : Int32) (v2 : Int32) (v3 : Int32) (g : Nat → Nat → Int32) (L : Nat → Nat → Int64) : Option ((Unit) × zS) :=
  whileK (fun k v => fX10_findBeginners_9_s45 fu k17 v1 v2 k v.1 v.2.1 v.2.2) fu (v3, g, L)
def fX10_findBeginners_9_s17 (fu : Nat) (k17 : Int32 × (Nat → Nat → Int32) × (Nat → Nat → Int64) → Option ((Unit) × zS)) (v1 : Int32) (g : Nat → Nat → Int32) (L : Nat → Nat → Int64) : Option ((Unit) × zS) :=
  cb (fX10_lessonCount_9 fu g L) (fun x4 g5 L6 =>
  if x4 ≤ (v1 : Int32) then some ((), (g5, L6))
  else cb (fX1_runFrom_8 fu 0 g5 L6) (fun x9 g10 L11 =>
  ck v1 12 (
  lti (g10 25 (Int32.toNatClampNeg v1)) (fun x13 =>
  fX10_findBeginners_9_l45 fu k17 v1 x13 0 g10 L11))))
def fX10_findBeginners_9_l17 (fu : Nat) (v1 : Int32) (g : Nat → Nat → Int32) (L : Nat → Nat → Int64) : Option ((Unit) × zS) :=
  whileK (fun k v => fX10_findBeginners_9_s17 fu k v.1 v.2.1 v.2.2) fu (v1, g, L)
def fX10_findBeginners_9 (fu : Nat) (g : Nat → Nat → Int32) (L : Nat → Nat → Int64) : Option ((Unit) × zS) :=
  sti g 9 4 0 (fun g1 =>
  sti g1 9 5 (-1) (fun g2 =>
  sti g2 9 6 (-1) (fun g3 =>
  fX10_findBeginners_9_l17 fu 0 g3 L)))
set_option maxHeartbeats 4000000 in
set_option maxRecDepth 100000 in
theorem rX10_findBeginners_9 (l : Launch) (G : kG) (sz : Nat) (b : Nat) (a : Nat → Nat) (fu : Nat) (g : Nat → Nat → Int32) (L : Nat → Nat → Int64) (res : Unit) (s9 : zS) (h : fX10_findBeginners_9 fu g L = some (res, s9)) : kM l yX10_findBeginners cX10_findBeginners 4 none { frames := 11, cells := 0, slots := 0, locals := 225 } G [.ref (a 9)] (zw G (XS b) 105 a g L) sz (kQv G (S := Unit) (fun _ => True) (fun _ => zw G (XS b) 105 a s9.1 s9.2)) := by
  refine kM.of (by decide) (Nat.le_of_ble_eq_true rfl) ?_
  intro p e s m below meth c A ls H C hr hlk hnm hP hD hS hl
  have C : kC G p s m c cX10_findBeginners 4 RX10 A := C
  have hx := C.1
  have hb := C.2.1
  have hl : lv_has ls 4 [(0, .ref (a 9))] := hl
  obtain ⟨locs, hlocs⟩ : ∃ q : List Loc, q = [] := ⟨_, rfl⟩
  rw [← hlocs] at hS
  rw [← hlocs]
  unfold fX10_findBeginners_9 at h
  refine lv_aload_n hx hb dX10_findBeginners_0 rfl (lv_at hl 0 rfl) ?_
  refine lv_iconst (v := 0) hx hb dX10_findBeginners_1 (by decide) ?_
  refine y_puti (Or.inl fl_X10_134) ft_X10_4 C hP hD hS (by decide) xs_9 rfl rfl rfl dX10_findBeginners_2 h (fun g1 H locs h hP hD hS => ?_)
  refine lv_aload_n hx hb dX10_findBeginners_5 rfl (lv_at hl 0 rfl) ?_
  refine lv_iconst (v := -1) hx hb dX10_findBeginners_6 (by decide) ?_
  refine y_puti (Or.inl fl_X10_137) ft_X10_5 C hP hD hS (by decide) xs_9 rfl rfl rfl dX10_findBeginners_7 h (fun g2 H locs h hP hD hS => ?_)
  refine lv_aload_n hx hb dX10_findBeginners_10 rfl (lv_at hl 0 rfl) ?_
  refine lv_iconst (v := -1) hx hb dX10_findBeginners_11 (by decide) ?_
  refine y_puti (Or.inl fl_X10_140) ft_X10_6 C hP hD hS (by decide) xs_9 rfl rfl rfl dX10_findBeginners_12 h (fun g3 H locs h hP hD hS => ?_)
  refine lv_iconst (v := 0) hx hb dX10_findBeginners_15 (by decide) ?_
  refine lv_istore_n (lv' := [(1, .int 0), (0, .ref (a 9))]) hx hb dX10_findBeginners_16 rfl hl (by decide) rfl (fun ls hl => ?_)
  have lp17 : ∀ (_ : True), ∀ (n : Nat) (v : Int32 × (Nat → Nat → Int32) × (Nat → Nat → Int64)), whileK (fun k v => fX10_findBeginners_9_s17 fu k v.1 v.2.1 v.2.2) n v = some (res, s9) → ∀ (H : Heap) (locs : List Loc) (ls : Array Slot), va_P G.1 vwCl (zw G (XS b) 105 a (v.2.1) (v.2.2)) H → va_D A (zw G (XS b) 105 a (v.2.1) (v.2.2)) → va_S A s.heap H locs → lv_has ls 4 [(0, .ref (a 9)), (1, .int (v.1))] → W p l e { frames := 11, cells := 0, slots := 0, locals := 225 } s m [.ref (a 9)].toArray below meth c H locs 0 0 (MQ below ((kQv G (S := Unit) (fun _ => True) (fun _ => zw G (XS b) 105 a s9.1 s9.2)) A) [.ref (a 9)].toArray s 0 0 A) (F0 m 17 ls []) := by
    intro _
    refine while_ind (fun k17 ih17 v h => ?_)
    obtain ⟨v1, g, L⟩ := v
    intro H locs ls hP hD hS hl
    have h : fX10_findBeginners_9_s17 fu k17 v1 g L = some (res, s9) := h
    have hP : va_P G.1 vwCl (zw G (XS b) 105 a g L) H := hP
    have hD : va_D A (zw G (XS b) 105 a g L) := hD
    have hl : lv_has ls 4 [(0, .ref (a 9)), (1, .int v1)] := hl
    show W p l e { frames := 11, cells := 0, slots := 0, locals := 225 } s m [.ref (a 9)].toArray below meth c H locs 0 0 (MQ below ((kQv G (S := Unit) (fun _ => True) (fun _ => zw G (XS b) 105 a s9.1 s9.2)) A) [.ref (a 9)].toArray s 0 0 A) (F0 m 17 ls [])
    unfold fX10_findBeginners_9_s17 at h
    refine lv_iload_n hx hb dX10_findBeginners_17 rfl (lv_at hl 1 rfl) ?_
    refine lv_aload_n hx hb dX10_findBeginners_18 rfl (lv_at hl 0 rfl) ?_
    obtain ⟨z_, g5, L6, hf7, h⟩ := cb_some h
    refine x_callVi (rest := [.int v1]) li_X10_64 C (rX10_lessonCount_9 l G H.size b a fu g L z_ (g5, L6) hf7) (kR rfl) hP hD hS 9 10 rfl (zat (by decide) xs_9) rfl hl.1 rfl (Nat.le_of_ble_eq_true rfl) dX10_findBeginners_19 (fun x4 u_ H locs e_ hP hD hS => ?_)
    have e_ : x4 = z_ := e_
    subst e_
    have hP : va_P G.1 vwCl (zw G (XS b) 105 a g5 L6) H := hP
    have hD : va_D A (zw G (XS b) 105 a g5 L6) := hD
    refine lv_icmp_ge (x := v1) (y := x4) (tgt := 104) hx hb dX10_findBeginners_22 (by decide) (fun c8 => ?_) (fun c8 => ?_)
    ·
      have h := ite_t c8 h
      exact y_vret C hr hlk hP hD hS h (Nat.le_of_ble_eq_true rfl) (Nat.le_of_ble_eq_true rfl) dX10_findBeginners_104
    ·
      have h := ite_e c8 h
      refine lv_aload_n hx hb dX10_findBeginners_25 rfl (lv_at hl 0 rfl) ?_
      refine x_getr (Or.inl fl_X10_22) C hP (by decide) xs_9 rfl dX10_findBeginners_26 ?_
      refine lv_iconst (v := 0) hx hb dX10_findBeginners_29 (by decide) ?_
      obtain ⟨z_, g10, L11, hf12, h⟩ := cb_some h
      refine x_callNv (rest := []) li_X10_43 C (rX1_runFrom_8 l G H.size b a fu g5 L6 0 z_ (g10, L11) hf12) (kR rfl) hP hD hS 8 1 rfl (zat (by decide) xs_8) rfl hl.1 rfl (Nat.le_of_ble_eq_true rfl) dX10_findBeginners_30 (fun u_ H locs e_ hP hD hS => ?_)
      have hP : va_P G.1 vwCl (zw G (XS b) 105 a g10 L11) H := hP
      have hD : va_D A (zw G (XS b) 105 a g10 L11) := hD
      refine lv_aload_n hx hb dX10_findBeginners_33 rfl (lv_at hl 0 rfl) ?_
      refine x_getr (Or.inl fl_X10_32) C hP (by decide) xs_9 rfl dX10_findBeginners_34 ?_
      refine x_getr (Or.inr fl_X10_56) C hP (by decide) xs_6 rfl dX10_findBeginners_37 ?_
      refine lv_iload_n hx hb dX10_findBeginners_40 rfl (lv_at hl 1 rfl) ?_
      refine y_ald C hP (by decide) xs_25 dX10_findBeginners_41 h (fun h => ?_)
      refine y_let h (fun x13 h => ?_)
      refine lv_istore_n (lv' := [(2, .int x13), (0, .ref (a 9)), (1, .int v1)]) hx hb dX10_findBeginners_42 rfl hl (by decide) rfl (fun ls hl => ?_)
      refine lv_iconst (v := 0) hx hb dX10_findBeginners_43 (by decide) ?_
      refine lv_istore_n (lv' := [(3, .int 0), (2, .int x13), (0, .ref (a 9)), (1, .int v1)]) hx hb dX10_findBeginners_44 rfl hl (by decide) rfl (fun ls hl => ?_)
      have lp45 : ∀ (v1 : Int32) (v2 : Int32), ∀ (n : Nat) (v : Int32 × (Nat → Nat → Int32) × (Nat → Nat → Int64)), whileK (fun k v => fX10_findBeginners_9_s45 fu k17 v1 v2 k v.1 v.2.1 v.2.2) n v = some (res, s9) → ∀ (H : Heap) (locs : List Loc) (ls : Array Slot), va_P G.1 vwCl (zw G (XS b) 105 a (v.2.1) (v.2.2)) H → va_D A (zw G (XS b) 105 a (v.2.1) (v.2.2)) → va_S A s.heap H locs → lv_has ls 4 [(0, .ref (a 9)), (1, .int v1), (2, .int v2), (3, .int (v.1))] → W p l e { frames := 11, cells := 0, slots := 0, locals := 225 } s m [.ref (a 9)].toArray below meth c H locs 0 0 (MQ below ((kQv G (S := Unit) (fun _ => True) (fun _ => zw G (XS b) 105 a s9.1 s9.2)) A) [.ref (a 9)].toArray s 0 0 A) (F0 m 45 ls []) := by
        intro v1 v2
        refine while_ind (fun k45 ih45 v h => ?_)
        obtain ⟨v3, g, L⟩ := v
        intro H locs ls hP hD hS hl
        have h : fX10_findBeginners_9_s45 fu k17 v1 v2 k45 v3 g L = some (res, s9) := h
        have hP : va_P G.1 vwCl (zw G (XS b) 105 a g L) H := hP
        have hD : va_D A (zw G (XS b) 105 a g L) := hD
        have hl : lv_has ls 4 [(0, .ref (a 9)), (1, .int v1), (2, .int v2), (3, .int v3)] := hl
        show W p l e { frames := 11, cells := 0, slots := 0, locals := 225 } s m [.ref (a 9)].toArray below meth c H locs 0 0 (MQ below ((kQv G (S := Unit) (fun _ => True) (fun _ => zw G (XS b) 105 a s9.1 s9.2)) A) [.ref (a 9)].toArray s 0 0 A) (F0 m 45 ls [])
        unfold fX10_findBeginners_9_s45 at h
        refine lv_iload_n hx hb dX10_findBeginners_45 rfl (lv_at hl 3 rfl) ?_
        refine lv_bipush (v := 30) hx hb dX10_findBeginners_46 (by decide) ?_
        refine lv_icmp_gt (x := v3) (y := 30) (tgt := 88) hx hb dX10_findBeginners_48 (by decide) (fun c14 => ?_) (fun c14 => ?_)
        ·
          have h := ite_t c14 h
          refine lv_aload_n hx hb dX10_findBeginners_88 rfl (lv_at hl 0 rfl) ?_
          refine x_getr (Or.inl fl_X10_32) C hP (by decide) xs_9 rfl dX10_findBeginners_89 ?_
          refine x_getr (Or.inr fl_X10_56) C hP (by decide) xs_6 rfl dX10_findBeginners_92 ?_
          refine lv_iload_n hx hb dX10_findBeginners_95 rfl (lv_at hl 1 rfl) ?_
          refine lv_iload_n hx hb dX10_findBeginners_96 rfl (lv_at hl 2 rfl) ?_
          refine y_ast C hP hD hS (by decide) xs_25 dX10_findBeginners_97 h (fun g15 H locs h hP hD hS => ?_)
          refine lv_iinc (v := (v1 + 1)) (lv' := [(1, .int (v1 + 1)), (0, .ref (a 9)), (2, .int v2), (3, .int v3)]) hx hb dX10_findBeginners_98 hl (k := 1) rfl rfl (by decide) rfl (fun ls hl => ?_)
          refine lv_goto (tgt := 17) hx hb dX10_findBeginners_101 (by decide) ?_
          exact ih17 ((v1 + 1), g15, L) h H locs ls hP hD hS (lv_sub hl [1, 0] rfl)
        ·
          have h := ite_e c14 h
          refine lv_aload_n hx hb dX10_findBeginners_51 rfl (lv_at hl 0 rfl) ?_
          refine x_getr (Or.inl fl_X10_32) C hP (by decide) xs_9 rfl dX10_findBeginners_52 ?_
          refine x_getr (Or.inr fl_X10_56) C hP (by decide) xs_6 rfl dX10_findBeginners_55 ?_
          refine lv_iload_n hx hb dX10_findBeginners_58 rfl (lv_at hl 1 rfl) ?_
          refine lv_iload_n hx hb dX10_findBeginners_59 rfl (lv_at hl 3 rfl) ?_
          refine y_ast C hP hD hS (by decide) xs_25 dX10_findBeginners_60 h (fun g16 H locs h hP hD hS => ?_)
          refine lv_aload_n hx hb dX10_findBeginners_61 rfl (lv_at hl 0 rfl) ?_
          refine x_getr (Or.inl fl_X10_22) C hP (by decide) xs_9 rfl dX10_findBeginners_62 ?_
          refine lv_iload_n hx hb dX10_findBeginners_65 rfl (lv_at hl 1 rfl) ?_
          obtain ⟨z_, g18, L19, hf20, h⟩ := cb_some h
          refine x_callNv (rest := []) li_X10_43 C (rX1_runFrom_8 l G H.size b a fu g16 L v1 z_ (g18, L19) hf20) (kR rfl) hP hD hS 8 1 rfl (zat (by decide) xs_8) rfl hl.1 rfl (Nat.le_of_ble_eq_true rfl) dX10_findBeginners_66 (fun u_ H locs e_ hP hD hS => ?_)
          have hP : va_P G.1 vwCl (zw G (XS b) 105 a g18 L19) H := hP
          have hD : va_D A (zw G (XS b) 105 a g18 L19) := hD
          refine lv_aload_n hx hb dX10_findBeginners_69 rfl (lv_at hl 0 rfl) ?_
          obtain ⟨z_, g22, L23, hf24, h⟩ := cb_some h
          refine x_callVi (rest := []) li_X10_143 C (rX10_isAsSeen_9 l G H.size b a fu g18 L19 z_ (g22, L23) hf24) (kR rfl) hP hD hS 9 10 rfl (zat (by decide) xs_9) rfl hl.1 rfl (Nat.le_of_ble_eq_true rfl) dX10_findBeginners_70 (fun x21 u_ H locs e_ hP hD hS => ?_)
          have e_ : x21 = z_ := e_
          subst e_
          have hP : va_P G.1 vwCl (zw G (XS b) 105 a g22 L23) H := hP
          have hD : va_D A (zw G (XS b) 105 a g22 L23) := hD
          have J82 : ∀ (v3 : Int32) (g : Nat → Nat → Int32) (L : Nat → Nat → Int64) (H : Heap) (locs : List Loc) (ls : Array Slot), fX10_findBeginners_9_p82 fu k17 k45 v1 v2 v3 g L = some (res, s9) → va_P G.1 vwCl (zw G (XS b) 105 a g L) H → va_D A (zw G (XS b) 105 a g L) → va_S A s.heap H locs → lv_has ls 4 [(0, .ref (a 9)), (1, .int v1), (2, .int v2), (3, .int v3)] → W p l e { frames := 11, cells := 0, slots := 0, locals := 225 } s m [.ref (a 9)].toArray below meth c H locs 0 0 (MQ below ((kQv G (S := Unit) (fun _ => True) (fun _ => zw G (XS b) 105 a s9.1 s9.2)) A) [.ref (a 9)].toArray s 0 0 A) (F0 m 82 ls []) := by
            intro v3 g L H locs ls h hP hD hS hl
            unfold fX10_findBeginners_9_p82 at h
            refine lv_iinc (v := (v3 + 1)) (lv' := [(3, .int (v3 + 1)), (0, .ref (a 9)), (1, .int v1), (2, .int v2)]) hx hb dX10_findBeginners_82 hl (k := 3) rfl rfl (by decide) rfl (fun ls hl => ?_)
            refine lv_goto (tgt := 45) hx hb dX10_findBeginners_85 (by decide) ?_
            exact ih45 ((v3 + 1), g, L) h H locs ls hP hD hS (lv_sub hl [1, 2, 3, 0] rfl)
          refine lv_if_eq (x := x21) (tgt := 82) hx hb dX10_findBeginners_73 (by decide) (fun c25 => ?_) (fun c25 => ?_)
          ·
            have h := ite_t c25 h
            exact J82 v3 g22 L23 H locs ls h hP hD hS (lv_sub hl [0, 1, 2, 3] rfl)
          ·
            have h := ite_e c25 h
            refine lv_aload_n hx hb dX10_findBeginners_76 rfl (lv_at hl 0 rfl) ?_
            refine lv_iload_n hx hb dX10_findBeginners_77 rfl (lv_at hl 1 rfl) ?_
            refine lv_iload_n hx hb dX10_findBeginners_78 rfl (lv_at hl 3 rfl) ?_
            obtain ⟨z_, g27, L28, hf29, h⟩ := cb_some h
            refine x_callVv (rest := []) li_X10_147 C (rX10_addBeginner_9 l G H.size b a fu g22 L23 v1 v3 z_ (g27, L28) hf29) (kR rfl) hP hD hS 9 10 rfl (zat (by decide) xs_9) rfl hl.1 rfl (Nat.le_of_ble_eq_true rfl) dX10_findBeginners_79 (fun u_ H locs e_ hP hD hS => ?_)
            have hP : va_P G.1 vwCl (zw G (XS b) 105 a g27 L28) H := hP
            have hD : va_D A (zw G (XS b) 105 a g27 L28) := hD
            exact J82 v3 g27 L28 H locs ls h hP hD hS (lv_sub hl [0, 1, 2, 3] rfl)
      exact lp45 v1 x13 fu (0, g10, L11) h H locs ls hP hD hS (lv_sub hl [2, 3, 1, 0] rfl)
  exact lp17 trivial fu (0, g3, L) h H locs ls hP hD hS (lv_sub hl [1, 0] rfl)
def fX10_leastByShift_9_p105 (fu : Nat) (k44 : Int32 × (Nat → Nat → Int32) × (Nat → Nat → Int64) → Option ((Int32) × zS)) (v1 : Int32) (v2 : Int32) (q3_ : Nat) (v4 : Int32) (v5 : Int32) (v6 : Int32) (g : Nat → Nat → Int32) (L : Nat → Nat → Int64) : Option ((Int32) × zS) :=
  k44 ((v6 + 1), g, L)
def fX10_leastByShift_9_s44 (fu : Nat) (v1 : Int32) (v2 : Int32) (q3_ : Nat) (v4 : Int32) (v5 : Int32) (k44 : Int32 × (Nat → Nat → Int32) × (Nat → Nat → Int64) → Option ((Int32) × zS)) (v6 : Int32) (g : Nat → Nat → Int32) (L : Nat → Nat → Int64) : Option ((Int32) × zS) :=
  if 20 < (v6 : Int32) then sti g q3_ 3 v4 (fun g13 =>
  sti g13 q3_ 4 v5 (fun g14 =>
  cb (fX4_told_13 fu v2 g14 L) (fun x15 g16 L17 =>
  some (x15, (g16, L17)))))
  else if (v4 + v6) < 0 then fX10_leastByShift_9_p105 fu k44 v1 v2 q3_ v4 v5 v6 g L
  else if 999 < (v5 + v6) then fX10_leastByShift_9_p105 fu k44 v1 v2 q3_ v4 v5 v6 g L
  else sti g q3_ 3 (v4 + v6) (fun g21 =>
  sti g21 q3_ 4 (v5 + v6) (fun g22 =>
  cb (fX1_lostFrom_8 fu v1 g22 L) (fun x23 g24 L25 =>
  cb (fX4_offer_13 fu v6 x23 g24 L25) (fun x27 g28 L29 =>
  fX10_leastByShift_9_p105 fu k44 v1 v2 q3_ v4 v5 v6 g28 L29))))
def fX10_leastByShift_9_l44 (fu : Nat) (v1 : Int32) (v2 : Int32) (q3_ : Nat) (v4 : Int32) (v5 : Int32) (v6 : Int32) (g : Nat → Nat → Int32) (L : Nat → Nat → Int64) : Option ((Int32) × zS) :=
  whileK (fun k v => fX10_leastByShift_9_s44 fu v1 v2 q3_ v4 v5 k v.1 v.2.1 v.2.2) fu (v6, g, L)
def fX10_leastByShift_9 (fu : Nat) (p1 : Int32) (p2 : Int32) (g : Nat → Nat → Int32) (L : Nat → Nat → Int64) : Option ((Int32) × zS) :=
  ck p1 12 (ltn (57 + (Int32.toNatClampNeg p1) % 12) (fun q1 =>
  lti (g q1 3) (fun x2 =>
  lti (g q1 4) (fun x3 =>
  cb (fX1_runFrom_8 fu 0 g L) (fun x4 g5 L6 =>
  cb (fX4_clear_13 fu g5 L6) (fun x8 g9 L10 =>
  fX10_leastByShift_9_l44 fu p1 p2 q1 x2 x3 (-20) g9 L10))))))
set_option maxHeartbeats 4000000 in
set_option maxRecDepth 100000 in
theorem rX10_leastByShift_9 (l : Launch) (G : kG) (sz : Nat) (b : Nat) (a : Nat → Nat) (fu : Nat) (g : Nat → Nat → Int32) (L : Nat → Nat → Int64) (p1 : Int32) (p2 : Int32) (res : Int32) (s9 : zS) (h : fX10_leastByShift_9 fu p1 p2 g L = some (res, s9)) : kM l yX10_leastByShift cX10_leastByShift 7 (some .int) { frames := 11, cells := 0, slots := 0, locals := 225 } G [.ref (a 9), .int p1, .int p2] (zw G (XS b) 105 a g L) sz (kQi G (S := Unit) (fun r' _ => r' = res) (fun _ => zw G (XS b) 105 a s9.1 s9.2)) := by
  refine kM.of (by decide) (Nat.le_of_ble_eq_true rfl) ?_
  intro p e s m below meth c A ls H C hr hlk hnm hP hD hS hl
  have C : kC G p s m c cX10_leastByShift 7 RX10 A := C
  have hx := C.1
  have hb := C.2.1
  have hl : lv_has ls 7 [(0, .ref (a 9)), (1, .int p1), (2, .int p2)] := hl
  obtain ⟨locs, hlocs⟩ : ∃ q : List Loc, q = [] := ⟨_, rfl⟩
  rw [← hlocs] at hS
  rw [← hlocs]
  unfold fX10_leastByShift_9 at h
  refine lv_aload_n hx hb dX10_leastByShift_0 rfl (lv_at hl 0 rfl) ?_
  refine x_getr (Or.inl fl_X10_22) C hP (by decide) xs_9 rfl dX10_leastByShift_1 ?_
  refine x_getr (Or.inr fl_X10_33) C hP (by decide) xs_8 rfl dX10_leastByShift_4 ?_
  refine x_getr (Or.inr fl_X10_162) C hP (by decide) xs_1 rfl dX10_leastByShift_7 ?_
  refine lv_iload_n hx hb dX10_leastByShift_10 rfl (lv_at hl 1 rfl) ?_
  refine y_aald (t := 57) C hP (by decide) xs_17 dX10_leastByShift_11 h (fun q1 q1l q1h h => ?_)
  refine lv_astore_n (lv' := [(3, .ref (a q1)), (0, .ref (a 9)), (1, .int p1), (2, .int p2)]) hx hb dX10_leastByShift_12 rfl hl (by decide) rfl (fun ls hl => ?_)
  refine lv_aload_n hx hb dX10_leastByShift_13 rfl (lv_at hl 0 rfl) ?_
  refine x_getv (v := .int (g q1 3)) (Or.inr fl_X10_166) C hP (by omega) (xs_les (by omega) (by omega)) rfl dX10_leastByShift_14 ?_
  refine y_let h (fun x2 h => ?_)
  refine lv_istore (lv' := [(4, .int x2), (3, .ref (a q1)), (0, .ref (a 9)), (1, .int p1), (2, .int p2)]) hx hb dX10_leastByShift_17 hl (by decide) rfl (fun ls hl => ?_)
  refine lv_aload_n hx hb dX10_leastByShift_19 rfl (lv_at hl 1 rfl) ?_
  refine x_getv (v := .int (g q1 4)) (Or.inr fl_X10_171) C hP (by omega) (xs_les (by omega) (by omega)) rfl dX10_leastByShift_20 ?_
  refine y_let h (fun x3 h => ?_)
  refine lv_istore (lv' := [(5, .int x3), (4, .int x2), (3, .ref (a q1)), (0, .ref (a 9)), (1, .int p1), (2, .int p2)]) hx hb dX10_leastByShift_23 hl (by decide) rfl (fun ls hl => ?_)
  refine lv_aload_n hx hb dX10_leastByShift_25 rfl (lv_at hl 3 rfl) ?_
  refine x_getr (Or.inl fl_X10_22) C hP (by decide) xs_9 rfl dX10_leastByShift_26 ?_
  refine lv_iconst (v := 0) hx hb dX10_leastByShift_29 (by decide) ?_
  obtain ⟨z_, g5, L6, hf7, h⟩ := cb_some h
  refine x_callNv (rest := []) li_X10_43 C (rX1_runFrom_8 l G H.size b a fu g L 0 z_ (g5, L6) hf7) (kR rfl) hP hD hS 8 1 rfl (zat (by decide) xs_8) rfl hl.1 rfl (Nat.le_of_ble_eq_true rfl) dX10_leastByShift_30 (fun u_ H locs e_ hP hD hS => ?_)
  have hP : va_P G.1 vwCl (zw G (XS b) 105 a g5 L6) H := hP
  have hD : va_D A (zw G (XS b) 105 a g5 L6) := hD
  refine lv_aload_n hx hb dX10_leastByShift_33 rfl (lv_at hl 3 rfl) ?_
  refine x_getr (Or.inl fl_X10_12) C hP (by decide) xs_9 rfl dX10_leastByShift_34 ?_
  obtain ⟨z_, g9, L10, hf11, h⟩ := cb_some h
  refine x_callNv (rest := []) li_X10_81 C (rX4_clear_13 l G H.size b a fu g5 L6 z_ (g9, L10) hf11) (kR rfl) hP hD hS 13 4 rfl (zat (by decide) xs_13) rfl hl.1 rfl (Nat.le_of_ble_eq_true rfl) dX10_leastByShift_37 (fun u_ H locs e_ hP hD hS => ?_)
  have hP : va_P G.1 vwCl (zw G (XS b) 105 a g9 L10) H := hP
  have hD : va_D A (zw G (XS b) 105 a g9 L10) := hD
  refine lv_bipush (v := -20) hx hb dX10_leastByShift_40 (by decide) ?_
  refine lv_istore (lv' := [(6, .int (-20)), (5, .int x3), (4, .int x2), (3, .ref (a q1)), (0, .ref (a 9)), (1, .int p1), (2, .int p2)]) hx hb dX10_leastByShift_42 hl (by decide) rfl (fun ls hl => ?_)
  have lp44 : ∀ (v1 : Int32) (v2 : Int32) (q3_ : Nat) (v4 : Int32) (v5 : Int32), 57 ≤ q3_ → q3_ < 81 → ∀ (n : Nat) (v : Int32 × (Nat → Nat → Int32) × (Nat → Nat → Int64)), whileK (fun k v => fX10_leastByShift_9_s44 fu v1 v2 q3_ v4 v5 k v.1 v.2.1 v.2.2) n v = some (res, s9) → ∀ (H : Heap) (locs : List Loc) (ls : Array Slot), va_P G.1 vwCl (zw G (XS b) 105 a (v.2.1) (v.2.2)) H → va_D A (zw G (XS b) 105 a (v.2.1) (v.2.2)) → va_S A s.heap H locs → lv_has ls 7 [(0, .ref (a 9)), (1, .int v1), (2, .int v2), (3, .ref (a q3_)), (4, .int v4), (5, .int v5), (6, .int (v.1))] → W p l e { frames := 11, cells := 0, slots := 0, locals := 225 } s m [.ref (a 9), .int p1, .int p2].toArray below meth c H locs 0 0 (MQ below ((kQi G (S := Unit) (fun r' _ => r' = res) (fun _ => zw G (XS b) 105 a s9.1 s9.2)) A) [.ref (a 9), .int p1, .int p2].toArray s 0 0 A) (F0 m 44 ls []) := by
    intro v1 v2 q3_ v4 v5 q3_l q3_h
    refine while_ind (fun k44 ih44 v h => ?_)
    obtain ⟨v6, g, L⟩ := v
    intro H locs ls hP hD hS hl
    have h : fX10_leastByShift_9_s44 fu v1 v2 q3_ v4 v5 k44 v6 g L = some (res, s9) := h
    have hP : va_P G.1 vwCl (zw G (XS b) 105 a g L) H := hP
    have hD : va_D A (zw G (XS b) 105 a g L) := hD
    have hl : lv_has ls 7 [(0, .ref (a 9)), (1, .int v1), (2, .int v2), (3, .ref (a q3_)), (4, .int v4), (5, .int v5), (6, .int v6)] := hl
    show W p l e { frames := 11, cells := 0, slots := 0, locals := 225 } s m [.ref (a 9), .int p1, .int p2].toArray below meth c H locs 0 0 (MQ below ((kQi G (S := Unit) (fun r' _ => r' = res) (fun _ => zw G (XS b) 105 a s9.1 s9.2)) A) [.ref (a 9), .int p1, .int p2].toArray s 0 0 A) (F0 m 44 ls [])
    unfold fX10_leastByShift_9_s44 at h
    refine lv_iload hx hb dX10_leastByShift_44 (lv_at hl 6 rfl) ?_
    refine lv_bipush (v := 20) hx hb dX10_leastByShift_46 (by decide) ?_
    refine lv_icmp_gt (x := v6) (y := 20) (tgt := 111) hx hb dX10_leastByShift_48 (by decide) (fun c12 => ?_) (fun c12 => ?_)
    ·
      have h := ite_t c12 h
      refine lv_aload_n hx hb dX10_leastByShift_111 rfl (lv_at hl 3 rfl) ?_
      refine lv_iload hx hb dX10_leastByShift_112 (lv_at hl 4 rfl) ?_
      refine y_puti (Or.inr fl_X10_166) ft_X5_3 C hP hD hS (by omega) (xs_les (by omega) (by omega)) rfl rfl rfl dX10_leastByShift_114 h (fun g13 H locs h hP hD hS => ?_)
      refine lv_aload_n hx hb dX10_leastByShift_117 rfl (lv_at hl 3 rfl) ?_
      refine lv_iload hx hb dX10_leastByShift_118 (lv_at hl 5 rfl) ?_
      refine y_puti (Or.inr fl_X10_171) ft_X5_4 C hP hD hS (by omega) (xs_les (by omega) (by omega)) rfl rfl rfl dX10_leastByShift_120 h (fun g14 H locs h hP hD hS => ?_)
      refine lv_aload_n hx hb dX10_leastByShift_123 rfl (lv_at hl 0 rfl) ?_
      refine x_getr (Or.inl fl_X10_12) C hP (by decide) xs_9 rfl dX10_leastByShift_124 ?_
      refine lv_iload_n hx hb dX10_leastByShift_127 rfl (lv_at hl 2 rfl) ?_
      obtain ⟨z_, g16, L17, hf18, h⟩ := cb_some h
      refine x_callNi (rest := []) li_X10_97 C (rX4_told_13 l G H.size b a fu g14 L v2 z_ (g16, L17) hf18) (kR rfl) hP hD hS 13 4 rfl (zat (by decide) xs_13) rfl hl.1 rfl (Nat.le_of_ble_eq_true rfl) dX10_leastByShift_128 (fun x15 u_ H locs e_ hP hD hS => ?_)
      have e_ : x15 = z_ := e_
      subst e_
      have hP : va_P G.1 vwCl (zw G (XS b) 105 a g16 L17) H := hP
      have hD : va_D A (zw G (XS b) 105 a g16 L17) := hD
      exact y_iret C hr hlk hP hD hS h (Nat.le_of_ble_eq_true rfl) (Nat.le_of_ble_eq_true rfl) dX10_leastByShift_131
    ·
      have h := ite_e c12 h
      refine lv_iload hx hb dX10_leastByShift_51 (lv_at hl 4 rfl) ?_
      refine lv_iload hx hb dX10_leastByShift_53 (lv_at hl 6 rfl) ?_
      refine lv_iadd hx hb dX10_leastByShift_55 ?_
      have J105 : ∀ (v6 : Int32) (g : Nat → Nat → Int32) (L : Nat → Nat → Int64) (H : Heap) (locs : List Loc) (ls : Array Slot), fX10_leastByShift_9_p105 fu k44 v1 v2 q3_ v4 v5 v6 g L = some (res, s9) → va_P G.1 vwCl (zw G (XS b) 105 a g L) H → va_D A (zw G (XS b) 105 a g L) → va_S A s.heap H locs → lv_has ls 7 [(0, .ref (a 9)), (1, .int v1), (2, .int v2), (3, .ref (a q3_)), (4, .int v4), (5, .int v5), (6, .int v6)] → W p l e { frames := 11, cells := 0, slots := 0, locals := 225 } s m [.ref (a 9), .int p1, .int p2].toArray below meth c H locs 0 0 (MQ below ((kQi G (S := Unit) (fun r' _ => r' = res) (fun _ => zw G (XS b) 105 a s9.1 s9.2)) A) [.ref (a 9), .int p1, .int p2].toArray s 0 0 A) (F0 m 105 ls []) := by
        intro v6 g L H locs ls h hP hD hS hl
        unfold fX10_leastByShift_9_p105 at h
        refine lv_iinc (v := (v6 + 1)) (lv' := [(6, .int (v6 + 1)), (0, .ref (a 9)), (1, .int v1), (2, .int v2), (3, .ref (a q3_)), (4, .int v4), (5, .int v5)]) hx hb dX10_leastByShift_105 hl (k := 6) rfl rfl (by decide) rfl (fun ls hl => ?_)
        refine lv_goto (tgt := 44) hx hb dX10_leastByShift_108 (by decide) ?_
        exact ih44 ((v6 + 1), g, L) h H locs ls hP hD hS (lv_sub hl [1, 2, 3, 4, 5, 6, 0] rfl)
      refine lv_if_lt (x := (v4 + v6)) (tgt := 105) hx hb dX10_leastByShift_56 (by decide) (fun c19 => ?_) (fun c19 => ?_)
      ·
        have h := ite_t c19 h
        exact J105 v6 g L H locs ls h hP hD hS (lv_sub hl [0, 1, 2, 3, 4, 5, 6] rfl)
      ·
        have h := ite_e c19 h
        refine lv_iload hx hb dX10_leastByShift_59 (lv_at hl 5 rfl) ?_
        refine lv_iload hx hb dX10_leastByShift_61 (lv_at hl 6 rfl) ?_
        refine lv_iadd hx hb dX10_leastByShift_63 ?_
        refine lv_sipush (v := 999) hx hb dX10_leastByShift_64 (by decide) ?_
        refine lv_icmp_gt (x := (v5 + v6)) (y := 999) (tgt := 105) hx hb dX10_leastByShift_67 (by decide) (fun c20 => ?_) (fun c20 => ?_)
        ·
          have h := ite_t c20 h
          exact J105 v6 g L H locs ls h hP hD hS (lv_sub hl [0, 1, 2, 3, 4, 5, 6] rfl)
        ·
          have h := ite_e c20 h
          refine lv_aload_n hx hb dX10_leastByShift_70 rfl (lv_at hl 3 rfl) ?_
          refine lv_iload hx hb dX10_leastByShift_71 (lv_at hl 4 rfl) ?_
          refine lv_iload hx hb dX10_leastByShift_73 (lv_at hl 6 rfl) ?_
          refine lv_iadd hx hb dX10_leastByShift_75 ?_
          refine y_puti (Or.inr fl_X10_166) ft_X5_3 C hP hD hS (by omega) (xs_les (by omega) (by omega)) rfl rfl rfl dX10_leastByShift_76 h (fun g21 H locs h hP hD hS => ?_)
          refine lv_aload_n hx hb dX10_leastByShift_79 rfl (lv_at hl 3 rfl) ?_
          refine lv_iload hx hb dX10_leastByShift_80 (lv_at hl 5 rfl) ?_
          refine lv_iload hx hb dX10_leastByShift_82 (lv_at hl 6 rfl) ?_
          refine lv_iadd hx hb dX10_leastByShift_84 ?_
          refine y_puti (Or.inr fl_X10_171) ft_X5_4 C hP hD hS (by omega) (xs_les (by omega) (by omega)) rfl rfl rfl dX10_leastByShift_85 h (fun g22 H locs h hP hD hS => ?_)
          refine lv_aload_n hx hb dX10_leastByShift_88 rfl (lv_at hl 0 rfl) ?_
          refine x_getr (Or.inl fl_X10_12) C hP (by decide) xs_9 rfl dX10_leastByShift_89 ?_
          refine lv_iload hx hb dX10_leastByShift_92 (lv_at hl 6 rfl) ?_
          refine lv_aload_n hx hb dX10_leastByShift_94 rfl (lv_at hl 0 rfl) ?_
          refine x_getr (Or.inl fl_X10_22) C hP (by decide) xs_9 rfl dX10_leastByShift_95 ?_
          refine lv_iload_n hx hb dX10_leastByShift_98 rfl (lv_at hl 1 rfl) ?_
          obtain ⟨z_, g24, L25, hf26, h⟩ := cb_some h
          refine x_callNi (rest := [.int v6, .ref (a 13)]) li_X10_77 C (rX1_lostFrom_8 l G H.size b a fu g22 L v1 z_ (g24, L25) hf26) (kR rfl) hP hD hS 8 1 rfl (zat (by decide) xs_8) rfl hl.1 rfl (Nat.le_of_ble_eq_true rfl) dX10_leastByShift_99 (fun x23 u_ H locs e_ hP hD hS => ?_)
          have e_ : x23 = z_ := e_
          subst e_
          have hP : va_P G.1 vwCl (zw G (XS b) 105 a g24 L25) H := hP
          have hD : va_D A (zw G (XS b) 105 a g24 L25) := hD
          obtain ⟨z_, g28, L29, hf30, h⟩ := cb_some h
          refine x_callNv (rest := []) li_X10_87 C (rX4_offer_13 l G H.size b a fu g24 L25 v6 x23 z_ (g28, L29) hf30) (kR rfl) hP hD hS 13 4 rfl (zat (by decide) xs_13) rfl hl.1 rfl (Nat.le_of_ble_eq_true rfl) dX10_leastByShift_102 (fun u_ H locs e_ hP hD hS => ?_)
          have hP : va_P G.1 vwCl (zw G (XS b) 105 a g28 L29) H := hP
          have hD : va_D A (zw G (XS b) 105 a g28 L29) := hD
          exact J105 v6 g28 L29 H locs ls h hP hD hS (lv_sub hl [0, 1, 2, 3, 4, 5, 6] rfl)
  exact lp44 p1 p2 q1 x2 x3 (by omega) (by omega) fu ((-20), g9, L10) h H locs ls hP hD hS (lv_sub hl [4, 5, 6, 3, 2, 1, 0] rfl)
def fX10_harmDone_9 (fu : Nat) (p1 : Int32) (p2 : Int32) (g : Nat → Nat → Int32) (L : Nat → Nat → Int64) : Option ((Int32) × zS) :=
  cb (fX1_runFrom_8 fu 0 g L) (fun x1 g2 L3 =>
  cb (fX1_late_8 fu p2 g2 L3) (fun x5 g6 L7 =>
  ck p1 12 (
  lti (g6 25 (Int32.toNatClampNeg p1)) (fun x9 =>
  ck p1 12 (sti g6 25 (Int32.toNatClampNeg p1) 0 (fun g10 =>
  cb (fX1_runFrom_8 fu p1 g10 L7) (fun x11 g12 L13 =>
  ck p1 12 (sti g12 25 (Int32.toNatClampNeg p1) x9 (fun g15 =>
  cb (fX1_late_8 fu p2 g15 L13) (fun x16 g17 L18 =>
  some ((x5 - x16), (g17, L18))))))))))))
set_option maxHeartbeats 4000000 in
set_option maxRecDepth 100000 in
theorem rX10_harmDone_9 (l : Launch) (G : kG) (sz : Nat) (b : Nat) (a : Nat → Nat) (fu : Nat) (g : Nat → Nat → Int32) (L : Nat → Nat → Int64) (p1 : Int32) (p2 : Int32) (res : Int32) (s9 : zS) (h : fX10_harmDone_9 fu p1 p2 g L = some (res, s9)) : kM l yX10_harmDone cX10_harmDone 5 (some .int) { frames := 11, cells := 0, slots := 0, locals := 225 } G [.ref (a 9), .int p1, .int p2] (zw G (XS b) 105 a g L) sz (kQi G (S := Unit) (fun r' _ => r' = res) (fun _ => zw G (XS b) 105 a s9.1 s9.2)) := by
  refine kM.of (by decide) (Nat.le_of_ble_eq_true rfl) ?_
  intro p e s m below meth c A ls H C hr hlk hnm hP hD hS hl
  have C : kC G p s m c cX10_harmDone 5 RX10 A := C
  have hx := C.1
  have hb := C.2.1
  have hl : lv_has ls 5 [(0, .ref (a 9)), (1, .int p1), (2, .int p2)] := hl
  obtain ⟨locs, hlocs⟩ : ∃ q : List Loc, q = [] := ⟨_, rfl⟩
  rw [← hlocs] at hS
  rw [← hlocs]
  unfold fX10_harmDone_9 at h
  refine lv_aload_n hx hb dX10_harmDone_0 rfl (lv_at hl 0 rfl) ?_
  refine x_getr (Or.inl fl_X10_22) C hP (by decide) xs_9 rfl dX10_harmDone_1 ?_
  refine lv_iconst (v := 0) hx hb dX10_harmDone_4 (by decide) ?_
  obtain ⟨z_, g2, L3, hf4, h⟩ := cb_some h
  refine x_callNv (rest := []) li_X10_43 C (rX1_runFrom_8 l G H.size b a fu g L 0 z_ (g2, L3) hf4) (kR rfl) hP hD hS 8 1 rfl (zat (by decide) xs_8) rfl hl.1 rfl (Nat.le_of_ble_eq_true rfl) dX10_harmDone_5 (fun u_ H locs e_ hP hD hS => ?_)
  have hP : va_P G.1 vwCl (zw G (XS b) 105 a g2 L3) H := hP
  have hD : va_D A (zw G (XS b) 105 a g2 L3) := hD
  refine lv_aload_n hx hb dX10_harmDone_8 rfl (lv_at hl 0 rfl) ?_
  refine x_getr (Or.inl fl_X10_22) C hP (by decide) xs_9 rfl dX10_harmDone_9 ?_
  refine lv_iload_n hx hb dX10_harmDone_12 rfl (lv_at hl 2 rfl) ?_
  obtain ⟨z_, g6, L7, hf8, h⟩ := cb_some h
  refine x_callNi (rest := []) li_X10_156 C (rX1_late_8 l G H.size b a fu g2 L3 p2 z_ (g6, L7) hf8) (kR rfl) hP hD hS 8 1 rfl (zat (by decide) xs_8) rfl hl.1 rfl (Nat.le_of_ble_eq_true rfl) dX10_harmDone_13 (fun x5 u_ H locs e_ hP hD hS => ?_)
  have e_ : x5 = z_ := e_
  subst e_
  have hP : va_P G.1 vwCl (zw G (XS b) 105 a g6 L7) H := hP
  have hD : va_D A (zw G (XS b) 105 a g6 L7) := hD
  refine lv_istore_n (lv' := [(3, .int x5), (0, .ref (a 9)), (1, .int p1), (2, .int p2)]) hx hb dX10_harmDone_16 rfl hl (by decide) rfl (fun ls hl => ?_)
  refine lv_aload_n hx hb dX10_harmDone_17 rfl (lv_at hl 1 rfl) ?_
  refine x_getr (Or.inl fl_X10_32) C hP (by decide) xs_9 rfl dX10_harmDone_18 ?_
  refine x_getr (Or.inr fl_X10_56) C hP (by decide) xs_6 rfl dX10_harmDone_21 ?_
  refine lv_iload_n hx hb dX10_harmDone_24 rfl (lv_at hl 2 rfl) ?_
  refine y_ald C hP (by decide) xs_25 dX10_harmDone_25 h (fun h => ?_)
  refine y_let h (fun x9 h => ?_)
  refine lv_istore (lv' := [(4, .int x9), (3, .int x5), (0, .ref (a 9)), (1, .int p1), (2, .int p2)]) hx hb dX10_harmDone_26 hl (by decide) rfl (fun ls hl => ?_)
  refine lv_aload_n hx hb dX10_harmDone_28 rfl (lv_at hl 2 rfl) ?_
  refine x_getr (Or.inl fl_X10_32) C hP (by decide) xs_9 rfl dX10_harmDone_29 ?_
  refine x_getr (Or.inr fl_X10_56) C hP (by decide) xs_6 rfl dX10_harmDone_32 ?_
  refine lv_iload_n hx hb dX10_harmDone_35 rfl (lv_at hl 3 rfl) ?_
  refine lv_iconst (v := 0) hx hb dX10_harmDone_36 (by decide) ?_
  refine y_ast C hP hD hS (by decide) xs_25 dX10_harmDone_37 h (fun g10 H locs h hP hD hS => ?_)
  refine lv_aload_n hx hb dX10_harmDone_38 rfl (lv_at hl 2 rfl) ?_
  refine x_getr (Or.inl fl_X10_22) C hP (by decide) xs_9 rfl dX10_harmDone_39 ?_
  refine lv_iload_n hx hb dX10_harmDone_42 rfl (lv_at hl 3 rfl) ?_
  obtain ⟨z_, g12, L13, hf14, h⟩ := cb_some h
  refine x_callNv (rest := []) li_X10_43 C (rX1_runFrom_8 l G H.size b a fu g10 L7 p1 z_ (g12, L13) hf14) (kR rfl) hP hD hS 8 1 rfl (zat (by decide) xs_8) rfl hl.1 rfl (Nat.le_of_ble_eq_true rfl) dX10_harmDone_43 (fun u_ H locs e_ hP hD hS => ?_)
  have hP : va_P G.1 vwCl (zw G (XS b) 105 a g12 L13) H := hP
  have hD : va_D A (zw G (XS b) 105 a g12 L13) := hD
  refine lv_aload_n hx hb dX10_harmDone_46 rfl (lv_at hl 2 rfl) ?_
  refine x_getr (Or.inl fl_X10_32) C hP (by decide) xs_9 rfl dX10_harmDone_47 ?_
  refine x_getr (Or.inr fl_X10_56) C hP (by decide) xs_6 rfl dX10_harmDone_50 ?_
  refine lv_iload_n hx hb dX10_harmDone_53 rfl (lv_at hl 3 rfl) ?_
  refine lv_iload hx hb dX10_harmDone_54 (lv_at hl 0 rfl) ?_
  refine y_ast C hP hD hS (by decide) xs_25 dX10_harmDone_56 h (fun g15 H locs h hP hD hS => ?_)
  refine lv_iload_n hx hb dX10_harmDone_57 rfl (lv_at hl 1 rfl) ?_
  refine lv_aload_n hx hb dX10_harmDone_58 rfl (lv_at hl 2 rfl) ?_
  refine x_getr (Or.inl fl_X10_22) C hP (by decide) xs_9 rfl dX10_harmDone_59 ?_
  refine lv_iload_n hx hb dX10_harmDone_62 rfl (lv_at hl 4 rfl) ?_
  obtain ⟨z_, g17, L18, hf19, h⟩ := cb_some h
  refine x_callNi (rest := [.int x5]) li_X10_156 C (rX1_late_8 l G H.size b a fu g15 L13 p2 z_ (g17, L18) hf19) (kR rfl) hP hD hS 8 1 rfl (zat (by decide) xs_8) rfl hl.1 rfl (Nat.le_of_ble_eq_true rfl) dX10_harmDone_63 (fun x16 u_ H locs e_ hP hD hS => ?_)
  have e_ : x16 = z_ := e_
  subst e_
  have hP : va_P G.1 vwCl (zw G (XS b) 105 a g17 L18) H := hP
  have hD : va_D A (zw G (XS b) 105 a g17 L18) := hD
  refine lv_isub hx hb dX10_harmDone_66 ?_
  exact y_iret C hr hlk hP hD hS h (Nat.le_of_ble_eq_true rfl) (Nat.le_of_ble_eq_true rfl) dX10_harmDone_67
def fX10_addGapFrom_9_p42 (fu : Nat) (k2 : Int32 × (Nat → Nat → Int32) × (Nat → Nat → Int64) → Option ((Unit) × zS)) (v1 : Int32) (v2 : Int32) (v3 : Int32) (g : Nat → Nat → Int32) (L : Nat → Nat → Int64) : Option ((Unit) × zS) :=
  k2 ((v3 + 1), g, L)
def fX10_addGapFrom_9_s2 (fu : Nat) (v1 : Int32) (v2 : Int32) (k2 : Int32 × (Nat → Nat → Int32) × (Nat → Nat → Int64) → Option ((Unit) × zS)) (v3 : Int32) (g : Nat → Nat → Int32) (L : Nat → Nat → Int64) : Option ((Unit) × zS) :=
  cb (fX10_lessonCount_9 fu g L) (fun x1 g2 L3 =>
  if x1 ≤ (v3 : Int32) then some ((), (g2, L3))
  else ck v3 12 (ltn (57 + (Int32.toNatClampNeg v3) % 12) (fun q6 =>
  if (g2 q6 3) < v1 then fX10_addGapFrom_9_p42 fu k2 v1 v2 v3 g2 L3
  else ck v3 12 (
  ck v3 12 (sti g2 26 (Int32.toNatClampNeg v3) ((g2 26 (Int32.toNatClampNeg v3)) + v2) (fun g8 =>
  fX10_addGapFrom_9_p42 fu k2 v1 v2 v3 g8 L3))))))
def fX10_addGapFrom_9_l2 (fu : Nat) (v1 : Int32) (v2 : Int32) (v3 : Int32) (g : Nat → Nat → Int32) (L : Nat → Nat → Int64) : Option ((Unit) × zS) :=
  whileK (fun k v => fX10_addGapFrom_9_s2 fu v1 v2 k v.1 v.2.1 v.2.2) fu (v3, g, L)
def fX10_addGapFrom_9 (fu : Nat) (p1 : Int32) (p2 : Int32) (g : Nat → Nat → Int32) (L : Nat → Nat → Int64) : Option ((Unit) × zS) :=
  fX10_addGapFrom_9_l2 fu p1 p2 0 g L
set_option maxHeartbeats 4000000 in
set_option maxRecDepth 100000 in
theorem rX10_addGapFrom_9 (l : Launch) (G : kG) (sz : Nat) (b : Nat) (a : Nat → Nat) (fu : Nat) (g : Nat → Nat → Int32) (L : Nat → Nat → Int64) (p1 : Int32) (p2 : Int32) (res : Unit) (s9 : zS) (h : fX10_addGapFrom_9 fu p1 p2 g L = some (res, s9)) : kM l yX10_addGapFrom cX10_addGapFrom 4 none { frames := 7, cells := 0, slots := 0, locals := 130 } G [.ref (a 9), .int p1, .int p2] (zw G (XS b) 105 a g L) sz (kQv G (S := Unit) (fun _ => True) (fun _ => zw G (XS b) 105 a s9.1 s9.2)) := by
  refine kM.of (by decide) (Nat.le_of_ble_eq_true rfl) ?_
  intro p e s m below meth c A ls H C hr hlk hnm hP hD hS hl
  have C : kC G p s m c cX10_addGapFrom 4 RX10 A := C
  have hx := C.1
  have hb := C.2.1
  have hl : lv_has ls 4 [(0, .ref (a 9)), (1, .int p1), (2, .int p2)] := hl
  obtain ⟨locs, hlocs⟩ : ∃ q : List Loc, q = [] := ⟨_, rfl⟩
  rw [← hlocs] at hS
  rw [← hlocs]
  unfold fX10_addGapFrom_9 at h
  refine lv_iconst (v := 0) hx hb dX10_addGapFrom_0 (by decide) ?_
  refine lv_istore_n (lv' := [(3, .int 0), (0, .ref (a 9)), (1, .int p1), (2, .int p2)]) hx hb dX10_addGapFrom_1 rfl hl (by decide) rfl (fun ls hl => ?_)
  have lp2 : ∀ (v1 : Int32) (v2 : Int32), ∀ (n : Nat) (v : Int32 × (Nat → Nat → Int32) × (Nat → Nat → Int64)), whileK (fun k v => fX10_addGapFrom_9_s2 fu v1 v2 k v.1 v.2.1 v.2.2) n v = some (res, s9) → ∀ (H : Heap) (locs : List Loc) (ls : Array Slot), va_P G.1 vwCl (zw G (XS b) 105 a (v.2.1) (v.2.2)) H → va_D A (zw G (XS b) 105 a (v.2.1) (v.2.2)) → va_S A s.heap H locs → lv_has ls 4 [(0, .ref (a 9)), (1, .int v1), (2, .int v2), (3, .int (v.1))] → W p l e { frames := 7, cells := 0, slots := 0, locals := 130 } s m [.ref (a 9), .int p1, .int p2].toArray below meth c H locs 0 0 (MQ below ((kQv G (S := Unit) (fun _ => True) (fun _ => zw G (XS b) 105 a s9.1 s9.2)) A) [.ref (a 9), .int p1, .int p2].toArray s 0 0 A) (F0 m 2 ls []) := by
    intro v1 v2
    refine while_ind (fun k2 ih2 v h => ?_)
    obtain ⟨v3, g, L⟩ := v
    intro H locs ls hP hD hS hl
    have h : fX10_addGapFrom_9_s2 fu v1 v2 k2 v3 g L = some (res, s9) := h
    have hP : va_P G.1 vwCl (zw G (XS b) 105 a g L) H := hP
    have hD : va_D A (zw G (XS b) 105 a g L) := hD
    have hl : lv_has ls 4 [(0, .ref (a 9)), (1, .int v1), (2, .int v2), (3, .int v3)] := hl
    show W p l e { frames := 7, cells := 0, slots := 0, locals := 130 } s m [.ref (a 9), .int p1, .int p2].toArray below meth c H locs 0 0 (MQ below ((kQv G (S := Unit) (fun _ => True) (fun _ => zw G (XS b) 105 a s9.1 s9.2)) A) [.ref (a 9), .int p1, .int p2].toArray s 0 0 A) (F0 m 2 ls [])
    unfold fX10_addGapFrom_9_s2 at h
    refine lv_iload_n hx hb dX10_addGapFrom_2 rfl (lv_at hl 3 rfl) ?_
    refine lv_aload_n hx hb dX10_addGapFrom_3 rfl (lv_at hl 0 rfl) ?_
    obtain ⟨z_, g2, L3, hf4, h⟩ := cb_some h
    refine x_callVi (rest := [.int v3]) li_X10_64 C (rX10_lessonCount_9 l G H.size b a fu g L z_ (g2, L3) hf4) (kR rfl) hP hD hS 9 10 rfl (zat (by decide) xs_9) rfl hl.1 rfl (Nat.le_of_ble_eq_true rfl) dX10_addGapFrom_4 (fun x1 u_ H locs e_ hP hD hS => ?_)
    have e_ : x1 = z_ := e_
    subst e_
    have hP : va_P G.1 vwCl (zw G (XS b) 105 a g2 L3) H := hP
    have hD : va_D A (zw G (XS b) 105 a g2 L3) := hD
    refine lv_icmp_ge (x := v3) (y := x1) (tgt := 48) hx hb dX10_addGapFrom_7 (by decide) (fun c5 => ?_) (fun c5 => ?_)
    ·
      have h := ite_t c5 h
      exact y_vret C hr hlk hP hD hS h (Nat.le_of_ble_eq_true rfl) (Nat.le_of_ble_eq_true rfl) dX10_addGapFrom_48
    ·
      have h := ite_e c5 h
      refine lv_aload_n hx hb dX10_addGapFrom_10 rfl (lv_at hl 0 rfl) ?_
      refine x_getr (Or.inl fl_X10_22) C hP (by decide) xs_9 rfl dX10_addGapFrom_11 ?_
      refine x_getr (Or.inr fl_X10_33) C hP (by decide) xs_8 rfl dX10_addGapFrom_14 ?_
      refine x_getr (Or.inr fl_X10_162) C hP (by decide) xs_1 rfl dX10_addGapFrom_17 ?_
      refine lv_iload_n hx hb dX10_addGapFrom_20 rfl (lv_at hl 3 rfl) ?_
      refine y_aald (t := 57) C hP (by decide) xs_17 dX10_addGapFrom_21 h (fun q6 q6l q6h h => ?_)
      refine x_getv (v := .int (g2 q6 3)) (Or.inr fl_X10_166) C hP (by omega) (xs_les (by omega) (by omega)) rfl dX10_addGapFrom_22 ?_
      refine lv_iload_n hx hb dX10_addGapFrom_25 rfl (lv_at hl 1 rfl) ?_
      have J42 : ∀ (v3 : Int32) (g : Nat → Nat → Int32) (L : Nat → Nat → Int64) (H : Heap) (locs : List Loc) (ls : Array Slot), fX10_addGapFrom_9_p42 fu k2 v1 v2 v3 g L = some (res, s9) → va_P G.1 vwCl (zw G (XS b) 105 a g L) H → va_D A (zw G (XS b) 105 a g L) → va_S A s.heap H locs → lv_has ls 4 [(0, .ref (a 9)), (1, .int v1), (2, .int v2), (3, .int v3)] → W p l e { frames := 7, cells := 0, slots := 0, locals := 130 } s m [.ref (a 9), .int p1, .int p2].toArray below meth c H locs 0 0 (MQ below ((kQv G (S := Unit) (fun _ => True) (fun _ => zw G (XS b) 105 a s9.1 s9.2)) A) [.ref (a 9), .int p1, .int p2].toArray s 0 0 A) (F0 m 42 ls []) := by
        intro v3 g L H locs ls h hP hD hS hl
        unfold fX10_addGapFrom_9_p42 at h
        refine lv_iinc (v := (v3 + 1)) (lv' := [(3, .int (v3 + 1)), (0, .ref (a 9)), (1, .int v1), (2, .int v2)]) hx hb dX10_addGapFrom_42 hl (k := 3) rfl rfl (by decide) rfl (fun ls hl => ?_)
        refine lv_goto (tgt := 2) hx hb dX10_addGapFrom_45 (by decide) ?_
        exact ih2 ((v3 + 1), g, L) h H locs ls hP hD hS (lv_sub hl [1, 2, 3, 0] rfl)
      refine lv_icmp_lt (x := (g2 q6 3)) (y := v1) (tgt := 42) hx hb dX10_addGapFrom_26 (by decide) (fun c7 => ?_) (fun c7 => ?_)
      ·
        have h := ite_t c7 h
        exact J42 v3 g2 L3 H locs ls h hP hD hS (lv_sub hl [0, 1, 2, 3] rfl)
      ·
        have h := ite_e c7 h
        refine lv_aload_n hx hb dX10_addGapFrom_29 rfl (lv_at hl 0 rfl) ?_
        refine x_getr (Or.inl fl_X10_32) C hP (by decide) xs_9 rfl dX10_addGapFrom_30 ?_
        refine x_getr (Or.inr fl_X10_177) C hP (by decide) xs_6 rfl dX10_addGapFrom_33 ?_
        refine lv_iload_n hx hb dX10_addGapFrom_36 rfl (lv_at hl 3 rfl) ?_
        refine lv_dup2_11 hx hb dX10_addGapFrom_37 rfl rfl ?_
        refine y_ald C hP (by decide) xs_26 dX10_addGapFrom_38 h (fun h => ?_)
        refine lv_iload_n hx hb dX10_addGapFrom_39 rfl (lv_at hl 2 rfl) ?_
        refine lv_iadd hx hb dX10_addGapFrom_40 ?_
        refine y_ast C hP hD hS (by decide) xs_26 dX10_addGapFrom_41 h (fun g8 H locs h hP hD hS => ?_)
        exact J42 v3 g8 L3 H locs ls h hP hD hS (lv_sub hl [0, 1, 2, 3] rfl)
  exact lp2 p1 p2 fu (0, g, L) h H locs ls hP hD hS (lv_sub hl [1, 2, 3, 0] rfl)
def fX10_leastByPause_9_s9 (fu : Nat) (v1 : Int32) (v2 : Int32) (k9 : Int32 × (Nat → Nat → Int32) × (Nat → Nat → Int64) → Option ((Int32) × zS)) (v3 : Int32) (g : Nat → Nat → Int32) (L : Nat → Nat → Int64) : Option ((Int32) × zS) :=
  cb (fX10_lessonCount_9 fu g L) (fun x5 g6 L7 =>
  if x5 ≤ (v3 : Int32) then cb (fX4_told_13 fu v2 g6 L7) (fun x10 g11 L12 =>
  some (x10, (g11, L12)))
  else ck v3 12 (ltn (57 + (Int32.toNatClampNeg v3) % 12) (fun q14 =>
  lti (g6 q14 3) (fun x15 =>
  cb (fX10_addGapFrom_9 fu x15 v1 g6 L7) (fun x16 g17 L18 =>
  cb (fX1_lostFrom_8 fu 0 g17 L18) (fun x20 g21 L22 =>
  cb (fX4_offer_13 fu x15 x20 g21 L22) (fun x24 g25 L26 =>
  cb (fX10_addGapFrom_9 fu x15 (-v1) g25 L26) (fun x28 g29 L30 =>
  k9 ((v3 + 1), g29, L30)))))))))
def fX10_leastByPause_9_l9 (fu : Nat) (v1 : Int32) (v2 : Int32) (v3 : Int32) (g : Nat → Nat → Int32) (L : Nat → Nat → Int64) : Option ((Int32) × zS) :=
  whileK (fun k v => fX10_leastByPause_9_s9 fu v1 v2 k v.1 v.2.1 v.2.2) fu (v3, g, L)
def fX10_leastByPause_9 (fu : Nat) (p1 : Int32) (p2 : Int32) (g : Nat → Nat → Int32) (L : Nat → Nat → Int64) : Option ((Int32) × zS) :=
  cb (fX4_clear_13 fu g L) (fun x1 g2 L3 =>
  fX10_leastByPause_9_l9 fu p1 p2 0 g2 L3)
set_option maxHeartbeats 4000000 in
set_option maxRecDepth 100000 in
theorem rX10_leastByPause_9 (l : Launch) (G : kG) (sz : Nat) (b : Nat) (a : Nat → Nat) (fu : Nat) (g : Nat → Nat → Int32) (L : Nat → Nat → Int64) (p1 : Int32) (p2 : Int32) (res : Int32) (s9 : zS) (h : fX10_leastByPause_9 fu p1 p2 g L = some (res, s9)) : kM l yX10_leastByPause cX10_leastByPause 5 (some .int) { frames := 11, cells := 0, slots := 0, locals := 225 } G [.ref (a 9), .int p1, .int p2] (zw G (XS b) 105 a g L) sz (kQi G (S := Unit) (fun r' _ => r' = res) (fun _ => zw G (XS b) 105 a s9.1 s9.2)) := by
  refine kM.of (by decide) (Nat.le_of_ble_eq_true rfl) ?_
  intro p e s m below meth c A ls H C hr hlk hnm hP hD hS hl
  have C : kC G p s m c cX10_leastByPause 5 RX10 A := C
  have hx := C.1
  have hb := C.2.1
  have hl : lv_has ls 5 [(0, .ref (a 9)), (1, .int p1), (2, .int p2)] := hl
  obtain ⟨locs, hlocs⟩ : ∃ q : List Loc, q = [] := ⟨_, rfl⟩
  rw [← hlocs] at hS
  rw [← hlocs]
  unfold fX10_leastByPause_9 at h
  refine lv_aload_n hx hb dX10_leastByPause_0 rfl (lv_at hl 0 rfl) ?_
  refine x_getr (Or.inl fl_X10_12) C hP (by decide) xs_9 rfl dX10_leastByPause_1 ?_
  obtain ⟨z_, g2, L3, hf4, h⟩ := cb_some h
  refine x_callNv (rest := []) li_X10_81 C (rX4_clear_13 l G H.size b a fu g L z_ (g2, L3) hf4) (kR rfl) hP hD hS 13 4 rfl (zat (by decide) xs_13) rfl hl.1 rfl (Nat.le_of_ble_eq_true rfl) dX10_leastByPause_4 (fun u_ H locs e_ hP hD hS => ?_)
  have hP : va_P G.1 vwCl (zw G (XS b) 105 a g2 L3) H := hP
  have hD : va_D A (zw G (XS b) 105 a g2 L3) := hD
  refine lv_iconst (v := 0) hx hb dX10_leastByPause_7 (by decide) ?_
  refine lv_istore_n (lv' := [(3, .int 0), (0, .ref (a 9)), (1, .int p1), (2, .int p2)]) hx hb dX10_leastByPause_8 rfl hl (by decide) rfl (fun ls hl => ?_)
  have lp9 : ∀ (v1 : Int32) (v2 : Int32), ∀ (n : Nat) (v : Int32 × (Nat → Nat → Int32) × (Nat → Nat → Int64)), whileK (fun k v => fX10_leastByPause_9_s9 fu v1 v2 k v.1 v.2.1 v.2.2) n v = some (res, s9) → ∀ (H : Heap) (locs : List Loc) (ls : Array Slot), va_P G.1 vwCl (zw G (XS b) 105 a (v.2.1) (v.2.2)) H → va_D A (zw G (XS b) 105 a (v.2.1) (v.2.2)) → va_S A s.heap H locs → lv_has ls 5 [(0, .ref (a 9)), (1, .int v1), (2, .int v2), (3, .int (v.1))] → W p l e { frames := 11, cells := 0, slots := 0, locals := 225 } s m [.ref (a 9), .int p1, .int p2].toArray below meth c H locs 0 0 (MQ below ((kQi G (S := Unit) (fun r' _ => r' = res) (fun _ => zw G (XS b) 105 a s9.1 s9.2)) A) [.ref (a 9), .int p1, .int p2].toArray s 0 0 A) (F0 m 9 ls []) := by
    intro v1 v2
    refine while_ind (fun k9 ih9 v h => ?_)
    obtain ⟨v3, g, L⟩ := v
    intro H locs ls hP hD hS hl
    have h : fX10_leastByPause_9_s9 fu v1 v2 k9 v3 g L = some (res, s9) := h
    have hP : va_P G.1 vwCl (zw G (XS b) 105 a g L) H := hP
    have hD : va_D A (zw G (XS b) 105 a g L) := hD
    have hl : lv_has ls 5 [(0, .ref (a 9)), (1, .int v1), (2, .int v2), (3, .int v3)] := hl
    show W p l e { frames := 11, cells := 0, slots := 0, locals := 225 } s m [.ref (a 9), .int p1, .int p2].toArray below meth c H locs 0 0 (MQ below ((kQi G (S := Unit) (fun r' _ => r' = res) (fun _ => zw G (XS b) 105 a s9.1 s9.2)) A) [.ref (a 9), .int p1, .int p2].toArray s 0 0 A) (F0 m 9 ls [])
    unfold fX10_leastByPause_9_s9 at h
    refine lv_iload_n hx hb dX10_leastByPause_9 rfl (lv_at hl 3 rfl) ?_
    refine lv_aload_n hx hb dX10_leastByPause_10 rfl (lv_at hl 0 rfl) ?_
    obtain ⟨z_, g6, L7, hf8, h⟩ := cb_some h
    refine x_callVi (rest := [.int v3]) li_X10_64 C (rX10_lessonCount_9 l G H.size b a fu g L z_ (g6, L7) hf8) (kR rfl) hP hD hS 9 10 rfl (zat (by decide) xs_9) rfl hl.1 rfl (Nat.le_of_ble_eq_true rfl) dX10_leastByPause_11 (fun x5 u_ H locs e_ hP hD hS => ?_)
    have e_ : x5 = z_ := e_
    subst e_
    have hP : va_P G.1 vwCl (zw G (XS b) 105 a g6 L7) H := hP
    have hD : va_D A (zw G (XS b) 105 a g6 L7) := hD
    refine lv_icmp_ge (x := v3) (y := x5) (tgt := 72) hx hb dX10_leastByPause_14 (by decide) (fun c9 => ?_) (fun c9 => ?_)
    ·
      have h := ite_t c9 h
      refine lv_aload_n hx hb dX10_leastByPause_72 rfl (lv_at hl 0 rfl) ?_
      refine x_getr (Or.inl fl_X10_12) C hP (by decide) xs_9 rfl dX10_leastByPause_73 ?_
      refine lv_iload_n hx hb dX10_leastByPause_76 rfl (lv_at hl 2 rfl) ?_
      obtain ⟨z_, g11, L12, hf13, h⟩ := cb_some h
      refine x_callNi (rest := []) li_X10_97 C (rX4_told_13 l G H.size b a fu g6 L7 v2 z_ (g11, L12) hf13) (kR rfl) hP hD hS 13 4 rfl (zat (by decide) xs_13) rfl hl.1 rfl (Nat.le_of_ble_eq_true rfl) dX10_leastByPause_77 (fun x10 u_ H locs e_ hP hD hS => ?_)
      have e_ : x10 = z_ := e_
      subst e_
      have hP : va_P G.1 vwCl (zw G (XS b) 105 a g11 L12) H := hP
      have hD : va_D A (zw G (XS b) 105 a g11 L12) := hD
      exact y_iret C hr hlk hP hD hS h (Nat.le_of_ble_eq_true rfl) (Nat.le_of_ble_eq_true rfl) dX10_leastByPause_80
    ·
      have h := ite_e c9 h
      refine lv_aload_n hx hb dX10_leastByPause_17 rfl (lv_at hl 0 rfl) ?_
      refine x_getr (Or.inl fl_X10_22) C hP (by decide) xs_9 rfl dX10_leastByPause_18 ?_
      refine x_getr (Or.inr fl_X10_33) C hP (by decide) xs_8 rfl dX10_leastByPause_21 ?_
      refine x_getr (Or.inr fl_X10_162) C hP (by decide) xs_1 rfl dX10_leastByPause_24 ?_
      refine lv_iload_n hx hb dX10_leastByPause_27 rfl (lv_at hl 3 rfl) ?_
      refine y_aald (t := 57) C hP (by decide) xs_17 dX10_leastByPause_28 h (fun q14 q14l q14h h => ?_)
      refine x_getv (v := .int (g6 q14 3)) (Or.inr fl_X10_166) C hP (by omega) (xs_les (by omega) (by omega)) rfl dX10_leastByPause_29 ?_
      refine y_let h (fun x15 h => ?_)
      refine lv_istore (lv' := [(4, .int x15), (0, .ref (a 9)), (1, .int v1), (2, .int v2), (3, .int v3)]) hx hb dX10_leastByPause_32 hl (by decide) rfl (fun ls hl => ?_)
      refine lv_aload_n hx hb dX10_leastByPause_34 rfl (lv_at hl 1 rfl) ?_
      refine lv_iload hx hb dX10_leastByPause_35 (lv_at hl 0 rfl) ?_
      refine lv_iload_n hx hb dX10_leastByPause_37 rfl (lv_at hl 2 rfl) ?_
      obtain ⟨z_, g17, L18, hf19, h⟩ := cb_some h
      refine x_callVv (rest := []) li_X10_174 C (rX10_addGapFrom_9 l G H.size b a fu g6 L7 x15 v1 z_ (g17, L18) hf19) (kR rfl) hP hD hS 9 10 rfl (zat (by decide) xs_9) rfl hl.1 rfl (Nat.le_of_ble_eq_true rfl) dX10_leastByPause_38 (fun u_ H locs e_ hP hD hS => ?_)
      have hP : va_P G.1 vwCl (zw G (XS b) 105 a g17 L18) H := hP
      have hD : va_D A (zw G (XS b) 105 a g17 L18) := hD
      refine lv_aload_n hx hb dX10_leastByPause_41 rfl (lv_at hl 1 rfl) ?_
      refine x_getr (Or.inl fl_X10_12) C hP (by decide) xs_9 rfl dX10_leastByPause_42 ?_
      refine lv_iload hx hb dX10_leastByPause_45 (lv_at hl 0 rfl) ?_
      refine lv_aload_n hx hb dX10_leastByPause_47 rfl (lv_at hl 1 rfl) ?_
      refine x_getr (Or.inl fl_X10_22) C hP (by decide) xs_9 rfl dX10_leastByPause_48 ?_
      refine lv_iconst (v := 0) hx hb dX10_leastByPause_51 (by decide) ?_
      obtain ⟨z_, g21, L22, hf23, h⟩ := cb_some h
      refine x_callNi (rest := [.int x15, .ref (a 13)]) li_X10_77 C (rX1_lostFrom_8 l G H.size b a fu g17 L18 0 z_ (g21, L22) hf23) (kR rfl) hP hD hS 8 1 rfl (zat (by decide) xs_8) rfl hl.1 rfl (Nat.le_of_ble_eq_true rfl) dX10_leastByPause_52 (fun x20 u_ H locs e_ hP hD hS => ?_)
      have e_ : x20 = z_ := e_
      subst e_
      have hP : va_P G.1 vwCl (zw G (XS b) 105 a g21 L22) H := hP
      have hD : va_D A (zw G (XS b) 105 a g21 L22) := hD
      obtain ⟨z_, g25, L26, hf27, h⟩ := cb_some h
      refine x_callNv (rest := []) li_X10_87 C (rX4_offer_13 l G H.size b a fu g21 L22 x15 x20 z_ (g25, L26) hf27) (kR rfl) hP hD hS 13 4 rfl (zat (by decide) xs_13) rfl hl.1 rfl (Nat.le_of_ble_eq_true rfl) dX10_leastByPause_55 (fun u_ H locs e_ hP hD hS => ?_)
      have hP : va_P G.1 vwCl (zw G (XS b) 105 a g25 L26) H := hP
      have hD : va_D A (zw G (XS b) 105 a g25 L26) := hD
      refine lv_aload_n hx hb dX10_leastByPause_58 rfl (lv_at hl 1 rfl) ?_
      refine lv_iload hx hb dX10_leastByPause_59 (lv_at hl 0 rfl) ?_
      refine lv_iload_n hx hb dX10_leastByPause_61 rfl (lv_at hl 2 rfl) ?_
      refine lv_ineg hx hb dX10_leastByPause_62 ?_
      obtain ⟨z_, g29, L30, hf31, h⟩ := cb_some h
      refine x_callVv (rest := []) li_X10_174 C (rX10_addGapFrom_9 l G H.size b a fu g25 L26 x15 (-v1) z_ (g29, L30) hf31) (kR rfl) hP hD hS 9 10 rfl (zat (by decide) xs_9) rfl hl.1 rfl (Nat.le_of_ble_eq_true rfl) dX10_leastByPause_63 (fun u_ H locs e_ hP hD hS => ?_)
      have hP : va_P G.1 vwCl (zw G (XS b) 105 a g29 L30) H := hP
      have hD : va_D A (zw G (XS b) 105 a g29 L30) := hD
      refine lv_iinc (v := (v3 + 1)) (lv' := [(3, .int (v3 + 1)), (4, .int x15), (0, .ref (a 9)), (1, .int v1), (2, .int v2)]) hx hb dX10_leastByPause_66 hl (k := 4) rfl rfl (by decide) rfl (fun ls hl => ?_)
      refine lv_goto (tgt := 9) hx hb dX10_leastByPause_69 (by decide) ?_
      exact ih9 ((v3 + 1), g29, L30) h H locs ls hP hD hS (lv_sub hl [2, 3, 4, 0] rfl)
  exact lp9 p1 p2 fu (0, g2, L3) h H locs ls hP hD hS (lv_sub hl [1, 2, 3, 0] rfl)
