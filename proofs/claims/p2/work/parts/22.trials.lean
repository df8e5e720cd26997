theorem dX10_keepEnds_0 : decode cX10_keepEnds 0 = .ok (.aload_n 0, 1) := by decide +kernel
theorem tw_379 : (Jvm.Cond.laysFinal "MarshBells$Trials" "MarshBells$Trials" "day" "LMarshBells$Day;") ∈ lw_tbl := tk_2 (List.mem_of_getElem? (i := 139) rfl)
theorem tw_381 : (Jvm.Cond.laysFinal "MarshBells$Trials" "MarshBells$Trials" "held" "LMarshBells$Held;") ∈ lw_tbl := tk_2 (List.mem_of_getElem? (i := 141) rfl)
theorem tw_383 : (Jvm.Cond.laysFinal "MarshBells$Trials" "MarshBells$Trials" "least" "LMarshBells$Least;") ∈ lw_tbl := tk_2 (List.mem_of_getElem? (i := 143) rfl)
theorem tw_385 : (Jvm.Cond.laysFinal "MarshBells$Trials" "MarshBells$Trials" "saved" "[I") ∈ lw_tbl := tk_2 (List.mem_of_getElem? (i := 145) rfl)
theorem tw_387 : (Jvm.Cond.lays "MarshBells$Trials" "MarshBells$Trials" "fitting" "I") ∈ lw_tbl := tk_2 (List.mem_of_getElem? (i := 147) rfl)
theorem tw_389 : (Jvm.Cond.lays "MarshBells$Trials" "MarshBells$Trials" "firstFitting" "I") ∈ lw_tbl := tk_2 (List.mem_of_getElem? (i := 149) rfl)
theorem tw_391 : (Jvm.Cond.lays "MarshBells$Trials" "MarshBells$Trials" "surely" "I") ∈ lw_tbl := tk_2 (List.mem_of_getElem? (i := 151) rfl)
theorem inWX10 : ∀ w ∈ u_ws RX10 TX10 7, w ∈ lw_tbl := by
  have e : ∀ k, k < 7 → u_lay RX10 TX10 k ∈ lw_tbl := fun k hk => match k, hk with | 0, _ => tw_379 | 1, _ => tw_381 | 2, _ => tw_383 | 3, _ => tw_385 | 4, _ => tw_387 | 5, _ => tw_389 | 6, _ => tw_391 | k + 7, hk => absurd hk (by omega)
  intro w h
  obtain ⟨k, hk, rfl⟩ := List.mem_map.mp h
  exact e k (List.mem_range.mp hk)
theorem tw_369 : (Jvm.Cond.fieldLink "MarshBells$Trials" (22 : Nat) "MarshBells$Trials" "day" "LMarshBells$Day;") ∈ lw_tbl := tk_2 (List.mem_of_getElem? (i := 129) rfl)
theorem fl_X10_22 : kFL RX10 22 10 7 0 := ⟨RX10, TX10, rfl, by decide, inWX10, tw_369⟩
theorem dX10_keepEnds_1 : decode cX10_keepEnds 1 = .ok (.getfield 22, 3) := by decide +kernel
theorem dX10_keepEnds_4 : decode cX10_keepEnds 4 = .ok (.iconst 0, 1) := by decide +kernel
theorem tw_1087 : (Jvm.Cond.methodLinkNest "MarshBells$Trials" (43 : Nat) ({ cls := "MarshBells$Day", name := "runFrom", desc := "(I)V" } : Jvm.MethodName) "MarshBells") ∈ lw_tbl := tk_5 (List.mem_of_getElem? (i := 127) rfl)
theorem tw_695 : (Jvm.Cond.code ({ cls := "MarshBells$Day", name := "runFrom", desc := "(I)V" } : Jvm.MethodName) prog_3_method_2_code (3 : Nat) (Option.none : Option Jvm.ClassFile.FieldType)) ∈ lw_tbl := tk_3 (List.mem_of_getElem? (i := 215) rfl)
theorem tw_694 : (Jvm.Cond.instanceMethod ({ cls := "MarshBells$Day", name := "runFrom", desc := "(I)V" } : Jvm.MethodName)) ∈ lw_tbl := tk_3 (List.mem_of_getElem? (i := 214) rfl)
theorem se_X1_runFrom : Cond.selects RX1 yX1_runFrom yX1_runFrom ∈ lw_tbl := List.mem_append_left _ (List.mem_of_getElem? (i := 27) rfl)
theorem li_X10_43 : kLN RX10 43 RX1 yX1_runFrom "MarshBells" cX1_runFrom 3 none 1 := ⟨tw_1087, tw_694, se_X1_runFrom, tw_695, tw_7, by decide +kernel⟩
theorem dX10_keepEnds_5 : decode cX10_keepEnds 5 = .ok (.invokevirtual 43, 3) := by decide +kernel
theorem dX10_keepEnds_8 : decode cX10_keepEnds 8 = .ok (.aload_n 0, 1) := by decide +kernel
theorem dX10_keepEnds_9 : decode cX10_keepEnds 9 = .ok (.getfield 22, 3) := by decide +kernel
theorem tw_304 : (Jvm.Cond.fieldLinkNest "MarshBells$Trials" (47 : Nat) "MarshBells$Day" "ends" "[I" "MarshBells") ∈ lw_tbl := tk_2 (List.mem_of_getElem? (i := 64) rfl)
theorem fl_X10_47 : kFN RX10 47 1 10 2 := ⟨RX1, TX1, rfl, by decide, inWX1, tw_304⟩
theorem dX10_keepEnds_12 : decode cX10_keepEnds 12 = .ok (.getfield 47, 3) := by decide +kernel
theorem dX10_keepEnds_15 : decode cX10_keepEnds 15 = .ok (.iconst 0, 1) := by decide +kernel
theorem dX10_keepEnds_16 : decode cX10_keepEnds 16 = .ok (.aload_n 0, 1) := by decide +kernel
theorem tw_372 : (Jvm.Cond.fieldLink "MarshBells$Trials" (18 : Nat) "MarshBells$Trials" "saved" "[I") ∈ lw_tbl := tk_2 (List.mem_of_getElem? (i := 132) rfl)
theorem fl_X10_18 : kFL RX10 18 10 7 3 := ⟨RX10, TX10, rfl, by decide, inWX10, tw_372⟩
theorem dX10_keepEnds_17 : decode cX10_keepEnds 17 = .ok (.getfield 18, 3) := by decide +kernel
theorem dX10_keepEnds_20 : decode cX10_keepEnds 20 = .ok (.iconst 0, 1) := by decide +kernel
theorem dX10_keepEnds_21 : decode cX10_keepEnds 21 = .ok (.bipush 12, 2) := by decide +kernel
theorem tw_1088 : (Jvm.Cond.methodLink "MarshBells$Trials" (50 : Nat) ({ cls := "java/lang/System", name := "arraycopy", desc := "(Ljava/lang/Object;ILjava/lang/Object;II)V" } : Jvm.MethodName)) ∈ lw_tbl := tk_5 (List.mem_of_getElem? (i := 128) rfl)
theorem lc_X10_50 : kLC RX10 50 := ⟨tw_1088, tw_567, tw_566, tw_24⟩
theorem dX10_keepEnds_23 : decode cX10_keepEnds 23 = .ok (.invokestatic 50, 3) := by decide +kernel
theorem dX10_keepEnds_26 : decode cX10_keepEnds 26 = .ok (.return_, 1) := by decide +kernel
theorem dX10_runMore_0 : decode cX10_runMore 0 = .ok (.aload_n 0, 1) := by decide +kernel
theorem tw_370 : (Jvm.Cond.fieldLink "MarshBells$Trials" (32 : Nat) "MarshBells$Trials" "held" "LMarshBells$Held;") ∈ lw_tbl := tk_2 (List.mem_of_getElem? (i := 130) rfl)
theorem fl_X10_32 : kFL RX10 32 10 7 1 := ⟨RX10, TX10, rfl, by decide, inWX10, tw_370⟩
theorem dX10_runMore_1 : decode cX10_runMore 1 = .ok (.getfield 32, 3) := by decide +kernel
theorem tw_237 : (Jvm.Cond.fieldLinkNest "MarshBells$Trials" (56 : Nat) "MarshBells$Held" "overs" "[I" "MarshBells") ∈ lw_tbl := tk_1 (List.mem_of_getElem? (i := 237) rfl)
theorem fl_X10_56 : kFN RX10 56 3 12 0 := ⟨RX3, TX3, rfl, by decide, inWX3, tw_237⟩
theorem dX10_runMore_4 : decode cX10_runMore 4 = .ok (.getfield 56, 3) := by decide +kernel
theorem dX10_runMore_7 : decode cX10_runMore 7 = .ok (.iload_n 1, 1) := by decide +kernel
theorem dX10_runMore_8 : decode cX10_runMore 8 = .ok (.iaload, 1) := by decide +kernel
theorem dX10_runMore_9 : decode cX10_runMore 9 = .ok (.istore_n 3, 1) := by decide +kernel
theorem dX10_runMore_10 : decode cX10_runMore 10 = .ok (.aload_n 0, 1) := by decide +kernel
theorem dX10_runMore_11 : decode cX10_runMore 11 = .ok (.getfield 32, 3) := by decide +kernel
theorem dX10_runMore_14 : decode cX10_runMore 14 = .ok (.getfield 56, 3) := by decide +kernel
theorem dX10_runMore_17 : decode cX10_runMore 17 = .ok (.iload_n 1, 1) := by decide +kernel
theorem dX10_runMore_18 : decode cX10_runMore 18 = .ok (.iload_n 3, 1) := by decide +kernel
theorem dX10_runMore_19 : decode cX10_runMore 19 = .ok (.iload_n 2, 1) := by decide +kernel
theorem dX10_runMore_20 : decode cX10_runMore 20 = .ok (.iadd, 1) := by decide +kernel
theorem dX10_runMore_21 : decode cX10_runMore 21 = .ok (.iastore, 1) := by decide +kernel
theorem dX10_runMore_22 : decode cX10_runMore 22 = .ok (.aload_n 0, 1) := by decide +kernel
theorem dX10_runMore_23 : decode cX10_runMore 23 = .ok (.getfield 22, 3) := by decide +kernel
theorem dX10_runMore_26 : decode cX10_runMore 26 = .ok (.iload_n 1, 1) := by decide +kernel
theorem tw_323 : (Jvm.Cond.fieldLinkNest "MarshBells$Trials" (61 : Nat) "MarshBells$Day" "wide" "I" "MarshBells") ∈ lw_tbl := tk_2 (List.mem_of_getElem? (i := 83) rfl)
theorem fl_X10_61 : kFN RX10 61 1 10 9 := ⟨RX1, TX1, rfl, by decide, inWX1, tw_323⟩
theorem ft_X1_9 : kFT 1 9 .int false RX1 := ⟨RX1, TX1, 10, tyX1, rfl, tyX1_ok, nmX1, rfl, by decide +kernel, rfl⟩
theorem dX10_runMore_27 : decode cX10_runMore 27 = .ok (.putfield 61, 3) := by decide +kernel
theorem dX10_runMore_30 : decode cX10_runMore 30 = .ok (.aload_n 0, 1) := by decide +kernel
theorem dX10_runMore_31 : decode cX10_runMore 31 = .ok (.getfield 22, 3) := by decide +kernel
theorem dX10_runMore_34 : decode cX10_runMore 34 = .ok (.iload_n 1, 1) := by decide +kernel
theorem dX10_runMore_35 : decode cX10_runMore 35 = .ok (.invokevirtual 43, 3) := by decide +kernel
theorem dX10_runMore_38 : decode cX10_runMore 38 = .ok (.aload_n 0, 1) := by decide +kernel
theorem dX10_runMore_39 : decode cX10_runMore 39 = .ok (.getfield 22, 3) := by decide +kernel
theorem dX10_runMore_42 : decode cX10_runMore 42 = .ok (.iconst (-1), 1) := by decide +kernel
theorem dX10_runMore_43 : decode cX10_runMore 43 = .ok (.putfield 61, 3) := by decide +kernel
theorem dX10_runMore_46 : decode cX10_runMore 46 = .ok (.aload_n 0, 1) := by decide +kernel
theorem dX10_runMore_47 : decode cX10_runMore 47 = .ok (.getfield 32, 3) := by decide +kernel
theorem dX10_runMore_50 : decode cX10_runMore 50 = .ok (.getfield 56, 3) := by decide +kernel
theorem dX10_runMore_53 : decode cX10_runMore 53 = .ok (.iload_n 1, 1) := by decide +kernel
theorem dX10_runMore_54 : decode cX10_runMore 54 = .ok (.iload_n 3, 1) := by decide +kernel
theorem dX10_runMore_55 : decode cX10_runMore 55 = .ok (.iastore, 1) := by decide +kernel
theorem dX10_runMore_56 : decode cX10_runMore 56 = .ok (.return_, 1) := by decide +kernel
theorem dX10_laterBits_0 : decode cX10_laterBits 0 = .ok (.iconst 0, 1) := by decide +kernel
theorem dX10_laterBits_1 : decode cX10_laterBits 1 = .ok (.istore_n 1, 1) := by decide +kernel
theorem dX10_laterBits_2 : decode cX10_laterBits 2 = .ok (.iconst 0, 1) := by decide +kernel
theorem dX10_laterBits_3 : decode cX10_laterBits 3 = .ok (.istore_n 2, 1) := by decide +kernel
theorem dX10_laterBits_4 : decode cX10_laterBits 4 = .ok (.iload_n 2, 1) := by decide +kernel
theorem dX10_laterBits_5 : decode cX10_laterBits 5 = .ok (.aload_n 0, 1) := by decide +kernel
theorem tw_596 : (Jvm.Cond.methodLink "MarshBells$Trials" (64 : Nat) ({ cls := "MarshBells$Trials", name := "lessonCount", desc := "()I" } : Jvm.MethodName)) ∈ lw_tbl := tk_3 (List.mem_of_getElem? (i := 116) rfl)
theorem tw_8 : (Jvm.Cond.initialized "MarshBells$Trials") ∈ lw_tbl := tk_1 (List.mem_of_getElem? (i := 8) rfl)
theorem tw_599 : (Jvm.Cond.code ({ cls := "MarshBells$Trials", name := "lessonCount", desc := "()I" } : Jvm.MethodName) prog_12_method_2_code (1 : Nat) (Option.some Jvm.ClassFile.FieldType.int)) ∈ lw_tbl := tk_3 (List.mem_of_getElem? (i := 119) rfl)
theorem tw_598 : (Jvm.Cond.instanceMethod ({ cls := "MarshBells$Trials", name := "lessonCount", desc := "()I" } : Jvm.MethodName)) ∈ lw_tbl := tk_3 (List.mem_of_getElem? (i := 118) rfl)
theorem se_X10_lessonCount : Cond.selects RX10 yX10_lessonCount yX10_lessonCount ∈ lw_tbl := List.mem_append_left _ (List.mem_of_getElem? (i := 9) rfl)
theorem li_X10_64 : kLV RX10 64 RX10 yX10_lessonCount cX10_lessonCount 1 (some .int) 0 := ⟨tw_596, tw_598, se_X10_lessonCount, tw_599, tw_8, by decide +kernel⟩
theorem dX10_lessonCount_0 : decode cX10_lessonCount 0 = .ok (.aload_n 0, 1) := by decide +kernel
theorem dX10_lessonCount_1 : decode cX10_lessonCount 1 = .ok (.getfield 22, 3) := by decide +kernel
theorem tw_315 : (Jvm.Cond.fieldLinkNest "MarshBells$Trials" (33 : Nat) "MarshBells$Day" "plan" "LMarshBells$Plan;" "MarshBells") ∈ lw_tbl := tk_2 (List.mem_of_getElem? (i := 75) rfl)
theorem fl_X10_33 : kFN RX10 33 1 10 7 := ⟨RX1, TX1, rfl, by decide, inWX1, tw_315⟩
theorem dX10_lessonCount_4 : decode cX10_lessonCount 4 = .ok (.getfield 33, 3) := by decide +kernel
theorem tw_163 : (Jvm.Cond.fieldLinkNest "MarshBells$Trials" (37 : Nat) "MarshBells$Plan" "lessonCount" "I" "MarshBells") ∈ lw_tbl := tk_1 (List.mem_of_getElem? (i := 163) rfl)
theorem fl_X10_37 : kFN RX10 37 7 5 2 := ⟨RX7, TX7, rfl, by decide, inWX7, tw_163⟩
theorem dX10_lessonCount_7 : decode cX10_lessonCount 7 = .ok (.getfield 37, 3) := by decide +kernel
theorem dX10_lessonCount_10 : decode cX10_lessonCount 10 = .ok (.ireturn, 1) := by decide +kernel
theorem dX10_laterBits_6 : decode cX10_laterBits 6 = .ok (.invokevirtual 64, 3) := by decide +kernel
theorem dX10_laterBits_9 : decode cX10_laterBits 9 = .ok (.if_icmp .ge 33, 3) := by decide +kernel
theorem dX10_laterBits_42 : decode cX10_laterBits 42 = .ok (.iload_n 1, 1) := by decide +kernel
theorem dX10_laterBits_43 : decode cX10_laterBits 43 = .ok (.ireturn, 1) := by decide +kernel
theorem dX10_laterBits_12 : decode cX10_laterBits 12 = .ok (.aload_n 0, 1) := by decide +kernel
theorem dX10_laterBits_13 : decode cX10_laterBits 13 = .ok (.getfield 22, 3) := by decide +kernel
theorem dX10_laterBits_16 : decode cX10_laterBits 16 = .ok (.getfield 47, 3) := by decide +kernel
theorem dX10_laterBits_19 : decode cX10_laterBits 19 = .ok (.iload_n 2, 1) := by decide +kernel
theorem dX10_laterBits_20 : decode cX10_laterBits 20 = .ok (.iaload, 1) := by decide +kernel
theorem dX10_laterBits_21 : decode cX10_laterBits 21 = .ok (.aload_n 0, 1) := by decide +kernel
theorem dX10_laterBits_22 : decode cX10_laterBits 22 = .ok (.getfield 18, 3) := by decide +kernel
theorem dX10_laterBits_25 : decode cX10_laterBits 25 = .ok (.iload_n 2, 1) := by decide +kernel
theorem dX10_laterBits_26 : decode cX10_laterBits 26 = .ok (.iaload, 1) := by decide +kernel
theorem dX10_laterBits_27 : decode cX10_laterBits 27 = .ok (.if_icmp .le 9, 3) := by decide +kernel
theorem dX10_laterBits_30 : decode cX10_laterBits 30 = .ok (.iload_n 1, 1) := by decide +kernel
theorem dX10_laterBits_31 : decode cX10_laterBits 31 = .ok (.iconst 1, 1) := by decide +kernel
theorem dX10_laterBits_32 : decode cX10_laterBits 32 = .ok (.iload_n 2, 1) := by decide +kernel
theorem dX10_laterBits_33 : decode cX10_laterBits 33 = .ok (.ishl, 1) := by decide +kernel
theorem dX10_laterBits_34 : decode cX10_laterBits 34 = .ok (.ior, 1) := by decide +kernel
theorem dX10_laterBits_35 : decode cX10_laterBits 35 = .ok (.istore_n 1, 1) := by decide +kernel
theorem dX10_laterBits_36 : decode cX10_laterBits 36 = .ok (.iinc 2 1, 3) := by decide +kernel
theorem dX10_laterBits_39 : decode cX10_laterBits 39 = .ok (.goto (-35), 3) := by decide +kernel
theorem dX10_laterMinutes_0 : decode cX10_laterMinutes 0 = .ok (.iconst 0, 1) := by decide +kernel
theorem dX10_laterMinutes_1 : decode cX10_laterMinutes 1 = .ok (.istore_n 1, 1) := by decide +kernel
theorem dX10_laterMinutes_2 : decode cX10_laterMinutes 2 = .ok (.iconst 0, 1) := by decide +kernel
theorem dX10_laterMinutes_3 : decode cX10_laterMinutes 3 = .ok (.istore_n 2, 1) := by decide +kernel
theorem dX10_laterMinutes_4 : decode cX10_laterMinutes 4 = .ok (.iload_n 2, 1) := by decide +kernel
theorem dX10_laterMinutes_5 : decode cX10_laterMinutes 5 = .ok (.aload_n 0, 1) := by decide +kernel
theorem dX10_laterMinutes_6 : decode cX10_laterMinutes 6 = .ok (.invokevirtual 64, 3) := by decide +kernel
theorem dX10_laterMinutes_9 : decode cX10_laterMinutes 9 = .ok (.if_icmp .ge 28, 3) := by decide +kernel
theorem dX10_laterMinutes_37 : decode cX10_laterMinutes 37 = .ok (.iload_n 1, 1) := by decide +kernel
theorem dX10_laterMinutes_38 : decode cX10_laterMinutes 38 = .ok (.ireturn, 1) := by decide +kernel
theorem dX10_laterMinutes_12 : decode cX10_laterMinutes 12 = .ok (.iload_n 1, 1) := by decide +kernel
theorem dX10_laterMinutes_13 : decode cX10_laterMinutes 13 = .ok (.aload_n 0, 1) := by decide +kernel
theorem dX10_laterMinutes_14 : decode cX10_laterMinutes 14 = .ok (.getfield 22, 3) := by decide +kernel
theorem dX10_laterMinutes_17 : decode cX10_laterMinutes 17 = .ok (.getfield 47, 3) := by decide +kernel
theorem dX10_laterMinutes_20 : decode cX10_laterMinutes 20 = .ok (.iload_n 2, 1) := by decide +kernel
theorem dX10_laterMinutes_21 : decode cX10_laterMinutes 21 = .ok (.iaload, 1) := by decide +kernel
theorem dX10_laterMinutes_22 : decode cX10_laterMinutes 22 = .ok (.aload_n 0, 1) := by decide +kernel
theorem dX10_laterMinutes_23 : decode cX10_laterMinutes 23 = .ok (.getfield 18, 3) := by decide +kernel
theorem dX10_laterMinutes_26 : decode cX10_laterMinutes 26 = .ok (.iload_n 2, 1) := by decide +kernel
theorem dX10_laterMinutes_27 : decode cX10_laterMinutes 27 = .ok (.iaload, 1) := by decide +kernel
theorem dX10_laterMinutes_28 : decode cX10_laterMinutes 28 = .ok (.isub, 1) := by decide +kernel
theorem dX10_laterMinutes_29 : decode cX10_laterMinutes 29 = .ok (.iadd, 1) := by decide +kernel
theorem dX10_laterMinutes_30 : decode cX10_laterMinutes 30 = .ok (.istore_n 1, 1) := by decide +kernel
theorem dX10_laterMinutes_31 : decode cX10_laterMinutes 31 = .ok (.iinc 2 1, 3) := by decide +kernel
theorem dX10_laterMinutes_34 : decode cX10_laterMinutes 34 = .ok (.goto (-30), 3) := by decide +kernel
theorem dX10_leastThatReaches_0 : decode cX10_leastThatReaches 0 = .ok (.aload_n 0, 1) := by decide +kernel
theorem tw_1112 : (Jvm.Cond.methodLink "MarshBells$Trials" (67 : Nat) ({ cls := "MarshBells$Trials", name := "keepEnds", desc := "()V" } : Jvm.MethodName)) ∈ lw_tbl := tk_5 (List.mem_of_getElem? (i := 152) rfl)
theorem tw_1086 : (Jvm.Cond.code ({ cls := "MarshBells$Trials", name := "keepEnds", desc := "()V" } : Jvm.MethodName) prog_12_method_3_code (1 : Nat) (Option.none : Option Jvm.ClassFile.FieldType)) ∈ lw_tbl := tk_5 (List.mem_of_getElem? (i := 126) rfl)
theorem tw_1085 : (Jvm.Cond.instanceMethod ({ cls := "MarshBells$Trials", name := "keepEnds", desc := "()V" } : Jvm.MethodName)) ∈ lw_tbl := tk_5 (List.mem_of_getElem? (i := 125) rfl)
theorem se_X10_keepEnds : Cond.selects RX10 yX10_keepEnds yX10_keepEnds ∈ lw_tbl := List.mem_append_left _ (List.mem_of_getElem? (i := 69) rfl)
theorem li_X10_67 : kLV RX10 67 RX10 yX10_keepEnds cX10_keepEnds 1 none 0 := ⟨tw_1112, tw_1085, se_X10_keepEnds, tw_1086, tw_8, by decide +kernel⟩
theorem dX10_leastThatReaches_1 : decode cX10_leastThatReaches 1 = .ok (.invokevirtual 67, 3) := by decide +kernel
theorem dX10_leastThatReaches_4 : decode cX10_leastThatReaches 4 = .ok (.iconst 1, 1) := by decide +kernel
theorem dX10_leastThatReaches_5 : decode cX10_leastThatReaches 5 = .ok (.istore_n 3, 1) := by decide +kernel
theorem dX10_leastThatReaches_6 : decode cX10_leastThatReaches 6 = .ok (.iload_n 3, 1) := by decide +kernel
theorem dX10_leastThatReaches_7 : decode cX10_leastThatReaches 7 = .ok (.bipush 120, 2) := by decide +kernel
theorem dX10_leastThatReaches_9 : decode cX10_leastThatReaches 9 = .ok (.if_icmp .gt 35, 3) := by decide +kernel
theorem dX10_leastThatReaches_12 : decode cX10_leastThatReaches 12 = .ok (.aload_n 0, 1) := by decide +kernel
theorem dX10_leastThatReaches_13 : decode cX10_leastThatReaches 13 = .ok (.iload_n 1, 1) := by decide +kernel
theorem dX10_leastThatReaches_14 : decode cX10_leastThatReaches 14 = .ok (.iload_n 3, 1) := by decide +kernel
theorem tw_1113 : (Jvm.Cond.methodLink "MarshBells$Trials" (70 : Nat) ({ cls := "MarshBells$Trials", name := "runMore", desc := "(II)V" } : Jvm.MethodName)) ∈ lw_tbl := tk_5 (List.mem_of_getElem? (i := 153) rfl)
theorem tw_1092 : (Jvm.Cond.code ({ cls := "MarshBells$Trials", name := "runMore", desc := "(II)V" } : Jvm.MethodName) prog_12_method_4_code (4 : Nat) (Option.none : Option Jvm.ClassFile.FieldType)) ∈ lw_tbl := tk_5 (List.mem_of_getElem? (i := 132) rfl)
theorem tw_1091 : (Jvm.Cond.instanceMethod ({ cls := "MarshBells$Trials", name := "runMore", desc := "(II)V" } : Jvm.MethodName)) ∈ lw_tbl := tk_5 (List.mem_of_getElem? (i := 131) rfl)
theorem se_X10_runMore : Cond.selects RX10 yX10_runMore yX10_runMore ∈ lw_tbl := List.mem_append_left _ (List.mem_of_getElem? (i := 70) rfl)
theorem li_X10_70 : kLV RX10 70 RX10 yX10_runMore cX10_runMore 4 none 2 := ⟨tw_1113, tw_1091, se_X10_runMore, tw_1092, tw_8, by decide +kernel⟩
theorem dX10_leastThatReaches_15 : decode cX10_leastThatReaches 15 = .ok (.invokevirtual 70, 3) := by decide +kernel
theorem dX10_leastThatReaches_18 : decode cX10_leastThatReaches 18 = .ok (.aload_n 0, 1) := by decide +kernel
theorem dX10_leastThatReaches_19 : decode cX10_leastThatReaches 19 = .ok (.getfield 22, 3) := by decide +kernel
theorem dX10_leastThatReaches_22 : decode cX10_leastThatReaches 22 = .ok (.getfield 47, 3) := by decide +kernel
theorem dX10_leastThatReaches_25 : decode cX10_leastThatReaches 25 = .ok (.iload_n 2, 1) := by decide +kernel
theorem dX10_leastThatReaches_26 : decode cX10_leastThatReaches 26 = .ok (.iaload, 1) := by decide +kernel
theorem dX10_leastThatReaches_27 : decode cX10_leastThatReaches 27 = .ok (.aload_n 0, 1) := by decide +kernel
theorem dX10_leastThatReaches_28 : decode cX10_leastThatReaches 28 = .ok (.getfield 18, 3) := by decide +kernel
theorem dX10_leastThatReaches_31 : decode cX10_leastThatReaches 31 = .ok (.iload_n 2, 1) := by decide +kernel
theorem dX10_leastThatReaches_32 : decode cX10_leastThatReaches 32 = .ok (.iaload, 1) := by decide +kernel
theorem dX10_leastThatReaches_33 : decode cX10_leastThatReaches 33 = .ok (.if_icmp .le 5, 3) := by decide +kernel
theorem dX10_leastThatReaches_38 : decode cX10_leastThatReaches 38 = .ok (.iinc 3 1, 3) := by decide +kernel
theorem dX10_leastThatReaches_41 : decode cX10_leastThatReaches 41 = .ok (.goto (-35), 3) := by decide +kernel
theorem dX10_leastThatReaches_36 : decode cX10_leastThatReaches 36 = .ok (.iload_n 3, 1) := by decide +kernel
theorem dX10_leastThatReaches_37 : decode cX10_leastThatReaches 37 = .ok (.ireturn, 1) := by decide +kernel
theorem dX10_leastThatReaches_44 : decode cX10_leastThatReaches 44 = .ok (.iconst (-1), 1) := by decide +kernel
theorem dX10_leastThatReaches_45 : decode cX10_leastThatReaches 45 = .ok (.ireturn, 1) := by decide +kernel
theorem dX10_mostThatDies_0 : decode cX10_mostThatDies 0 = .ok (.aload_n 0, 1) := by decide +kernel
theorem dX10_mostThatDies_1 : decode cX10_mostThatDies 1 = .ok (.invokevirtual 67, 3) := by decide +kernel
theorem dX10_mostThatDies_4 : decode cX10_mostThatDies 4 = .ok (.bipush 120, 2) := by decide +kernel
theorem dX10_mostThatDies_6 : decode cX10_mostThatDies 6 = .ok (.istore_n 2, 1) := by decide +kernel
theorem dX10_mostThatDies_7 : decode cX10_mostThatDies 7 = .ok (.iload_n 2, 1) := by decide +kernel
theorem dX10_mostThatDies_8 : decode cX10_mostThatDies 8 = .ok (.ifCond .le 30, 3) := by decide +kernel
theorem dX10_mostThatDies_11 : decode cX10_mostThatDies 11 = .ok (.aload_n 0, 1) := by decide +kernel
theorem dX10_mostThatDies_12 : decode cX10_mostThatDies 12 = .ok (.iload_n 1, 1) := by decide +kernel
theorem dX10_mostThatDies_13 : decode cX10_mostThatDies 13 = .ok (.iload_n 2, 1) := by decide +kernel
theorem dX10_mostThatDies_14 : decode cX10_mostThatDies 14 = .ok (.invokevirtual 70, 3) := by decide +kernel
theorem dX10_mostThatDies_17 : decode cX10_mostThatDies 17 = .ok (.aload_n 0, 1) := by decide +kernel
theorem tw_1125 : (Jvm.Cond.methodLink "MarshBells$Trials" (74 : Nat) ({ cls := "MarshBells$Trials", name := "laterBits", desc := "()I" } : Jvm.MethodName)) ∈ lw_tbl := tk_5 (List.mem_of_getElem? (i := 165) rfl)
theorem tw_1096 : (Jvm.Cond.code ({ cls := "MarshBells$Trials", name := "laterBits", desc := "()I" } : Jvm.MethodName) prog_12_method_5_code (3 : Nat) (Option.some Jvm.ClassFile.FieldType.int)) ∈ lw_tbl := tk_5 (List.mem_of_getElem? (i := 136) rfl)
theorem tw_1095 : (Jvm.Cond.instanceMethod ({ cls := "MarshBells$Trials", name := "laterBits", desc := "()I" } : Jvm.MethodName)) ∈ lw_tbl := tk_5 (List.mem_of_getElem? (i := 135) rfl)
theorem se_X10_laterBits : Cond.selects RX10 yX10_laterBits yX10_laterBits ∈ lw_tbl := List.mem_append_left _ (List.mem_of_getElem? (i := 71) rfl)
theorem li_X10_74 : kLV RX10 74 RX10 yX10_laterBits cX10_laterBits 3 (some .int) 0 := ⟨tw_1125, tw_1095, se_X10_laterBits, tw_1096, tw_8, by decide +kernel⟩
theorem dX10_mostThatDies_18 : decode cX10_mostThatDies 18 = .ok (.invokevirtual 74, 3) := by decide +kernel
theorem dX10_mostThatDies_21 : decode cX10_mostThatDies 21 = .ok (.iconst 1, 1) := by decide +kernel
theorem dX10_mostThatDies_22 : decode cX10_mostThatDies 22 = .ok (.iload_n 1, 1) := by decide +kernel
theorem dX10_mostThatDies_23 : decode cX10_mostThatDies 23 = .ok (.ishl, 1) := by decide +kernel
theorem dX10_mostThatDies_24 : decode cX10_mostThatDies 24 = .ok (.iconst (-1), 1) := by decide +kernel
theorem dX10_mostThatDies_25 : decode cX10_mostThatDies 25 = .ok (.ixor, 1) := by decide +kernel
theorem dX10_mostThatDies_26 : decode cX10_mostThatDies 26 = .ok (.iand, 1) := by decide +kernel
theorem dX10_mostThatDies_27 : decode cX10_mostThatDies 27 = .ok (.ifCond .ne 5, 3) := by decide +kernel
theorem dX10_mostThatDies_32 : decode cX10_mostThatDies 32 = .ok (.iinc 2 (-1), 3) := by decide +kernel
theorem dX10_mostThatDies_35 : decode cX10_mostThatDies 35 = .ok (.goto (-28), 3) := by decide +kernel
theorem dX10_mostThatDies_30 : decode cX10_mostThatDies 30 = .ok (.iload_n 2, 1) := by decide +kernel
theorem dX10_mostThatDies_31 : decode cX10_mostThatDies 31 = .ok (.ireturn, 1) := by decide +kernel
theorem dX10_mostThatDies_38 : decode cX10_mostThatDies 38 = .ok (.iconst 0, 1) := by decide +kernel
theorem dX10_mostThatDies_39 : decode cX10_mostThatDies 39 = .ok (.ireturn, 1) := by decide +kernel
theorem dX10_swapped_0 : decode cX10_swapped 0 = .ok (.aload_n 0, 1) := by decide +kernel
theorem dX10_swapped_1 : decode cX10_swapped 1 = .ok (.getfield 22, 3) := by decide +kernel
theorem dX10_swapped_4 : decode cX10_swapped 4 = .ok (.iconst 0, 1) := by decide +kernel
theorem tw_604 : (Jvm.Cond.methodLinkNest "MarshBells$Trials" (77 : Nat) ({ cls := "MarshBells$Day", name := "lostFrom", desc := "(I)I" } : Jvm.MethodName) "MarshBells") ∈ lw_tbl := tk_3 (List.mem_of_getElem? (i := 124) rfl)
theorem tw_607 : (Jvm.Cond.code ({ cls := "MarshBells$Day", name := "lostFrom", desc := "(I)I" } : Jvm.MethodName) prog_3_method_3_code (3 : Nat) (Option.some Jvm.ClassFile.FieldType.int)) ∈ lw_tbl := tk_3 (List.mem_of_getElem? (i := 127) rfl)
theorem tw_606 : (Jvm.Cond.instanceMethod ({ cls := "MarshBells$Day", name := "lostFrom", desc := "(I)I" } : Jvm.MethodName)) ∈ lw_tbl := tk_3 (List.mem_of_getElem? (i := 126) rfl)
theorem se_X1_lostFrom : Cond.selects RX1 yX1_lostFrom yX1_lostFrom ∈ lw_tbl := List.mem_append_left _ (List.mem_of_getElem? (i := 11) rfl)
theorem li_X10_77 : kLN RX10 77 RX1 yX1_lostFrom "MarshBells" cX1_lostFrom 3 (some .int) 1 := ⟨tw_604, tw_606, se_X1_lostFrom, tw_607, tw_7, by decide +kernel⟩
theorem dX10_swapped_5 : decode cX10_swapped 5 = .ok (.invokevirtual 77, 3) := by decide +kernel
theorem dX10_swapped_8 : decode cX10_swapped 8 = .ok (.istore_n 2, 1) := by decide +kernel
theorem dX10_swapped_9 : decode cX10_swapped 9 = .ok (.aload_n 0, 1) := by decide +kernel
theorem tw_371 : (Jvm.Cond.fieldLink "MarshBells$Trials" (12 : Nat) "MarshBells$Trials" "least" "LMarshBells$Least;") ∈ lw_tbl := tk_2 (List.mem_of_getElem? (i := 131) rfl)
theorem fl_X10_12 : kFL RX10 12 10 7 2 := ⟨RX10, TX10, rfl, by decide, inWX10, tw_371⟩
theorem dX10_swapped_10 : decode cX10_swapped 10 = .ok (.getfield 12, 3) := by decide +kernel
theorem tw_592 : (Jvm.Cond.methodLinkNest "MarshBells$Trials" (81 : Nat) ({ cls := "MarshBells$Least", name := "clear", desc := "()V" } : Jvm.MethodName) "MarshBells") ∈ lw_tbl := tk_3 (List.mem_of_getElem? (i := 112) rfl)
theorem tw_9 : (Jvm.Cond.initialized "MarshBells$Least") ∈ lw_tbl := tk_1 (List.mem_of_getElem? (i := 9) rfl)
theorem tw_595 : (Jvm.Cond.code ({ cls := "MarshBells$Least", name := "clear", desc := "()V" } : Jvm.MethodName) prog_6_method_2_code (1 : Nat) (Option.none : Option Jvm.ClassFile.FieldType)) ∈ lw_tbl := tk_3 (List.mem_of_getElem? (i := 115) rfl)
theorem tw_594 : (Jvm.Cond.instanceMethod ({ cls := "MarshBells$Least", name := "clear", desc := "()V" } : Jvm.MethodName)) ∈ lw_tbl := tk_3 (List.mem_of_getElem? (i := 114) rfl)
theorem se_X4_clear : Cond.selects RX4 yX4_clear yX4_clear ∈ lw_tbl := List.mem_append_left _ (List.mem_of_getElem? (i := 8) rfl)
theorem li_X10_81 : kLN RX10 81 RX4 yX4_clear "MarshBells" cX4_clear 1 none 0 := ⟨tw_592, tw_594, se_X4_clear, tw_595, tw_9, by decide +kernel⟩
theorem dX4_clear_0 : decode cX4_clear 0 = .ok (.aload_n 0, 1) := by decide +kernel
theorem dX4_clear_1 : decode cX4_clear 1 = .ok (.iconst 0, 1) := by decide +kernel
theorem tw_362 : (Jvm.Cond.lays "MarshBells$Least" "MarshBells$Least" "any" "Z") ∈ lw_tbl := tk_2 (List.mem_of_getElem? (i := 122) rfl)
theorem tw_364 : (Jvm.Cond.lays "MarshBells$Least" "MarshBells$Least" "offered" "I") ∈ lw_tbl := tk_2 (List.mem_of_getElem? (i := 124) rfl)
theorem tw_366 : (Jvm.Cond.lays "MarshBells$Least" "MarshBells$Least" "lost" "I") ∈ lw_tbl := tk_2 (List.mem_of_getElem? (i := 126) rfl)
theorem inWX4 : ∀ w ∈ u_ws RX4 TX4 3, w ∈ lw_tbl := by
  have e : ∀ k, k < 3 → u_lay RX4 TX4 k ∈ lw_tbl := fun k hk => match k, hk with | 0, _ => tw_362 | 1, _ => tw_364 | 2, _ => tw_366 | k + 3, hk => absurd hk (by omega)
  intro w h
  obtain ⟨k, hk, rfl⟩ := List.mem_map.mp h
  exact e k (List.mem_range.mp hk)
theorem tw_357 : (Jvm.Cond.fieldLink "MarshBells$Least" (9 : Nat) "MarshBells$Least" "any" "Z") ∈ lw_tbl := tk_2 (List.mem_of_getElem? (i := 117) rfl)
theorem fl_X4_9 : kFL RX4 9 4 3 0 := ⟨RX4, TX4, rfl, by decide, inWX4, tw_357⟩
theorem ft_X4_0 : kFT 4 0 .boolean false RX4 := ⟨RX4, TX4, 3, tyX4, rfl, tyX4_ok, nmX4, rfl, by decide +kernel, rfl⟩
theorem dX4_clear_2 : decode cX4_clear 2 = .ok (.putfield 9, 3) := by decide +kernel
theorem dX4_clear_5 : decode cX4_clear 5 = .ok (.return_, 1) := by decide +kernel
theorem dX10_swapped_13 : decode cX10_swapped 13 = .ok (.invokevirtual 81, 3) := by decide +kernel
theorem dX10_swapped_16 : decode cX10_swapped 16 = .ok (.iconst 0, 1) := by decide +kernel
theorem dX10_swapped_17 : decode cX10_swapped 17 = .ok (.istore_n 3, 1) := by decide +kernel
theorem dX10_swapped_18 : decode cX10_swapped 18 = .ok (.iload_n 3, 1) := by decide +kernel
theorem dX10_swapped_19 : decode cX10_swapped 19 = .ok (.aload_n 0, 1) := by decide +kernel
theorem dX10_swapped_20 : decode cX10_swapped 20 = .ok (.invokevirtual 64, 3) := by decide +kernel
theorem dX10_swapped_23 : decode cX10_swapped 23 = .ok (.if_icmp .ge 65, 3) := by decide +kernel
theorem dX10_swapped_88 : decode cX10_swapped 88 = .ok (.aload_n 0, 1) := by decide +kernel
theorem dX10_swapped_89 : decode cX10_swapped 89 = .ok (.getfield 12, 3) := by decide +kernel
theorem tw_358 : (Jvm.Cond.fieldLinkNest "MarshBells$Trials" (90 : Nat) "MarshBells$Least" "any" "Z" "MarshBells") ∈ lw_tbl := tk_2 (List.mem_of_getElem? (i := 118) rfl)
theorem fl_X10_90 : kFN RX10 90 4 3 0 := ⟨RX4, TX4, rfl, by decide, inWX4, tw_358⟩
theorem dX10_swapped_92 : decode cX10_swapped 92 = .ok (.getfield 90, 3) := by decide +kernel
theorem dX10_swapped_95 : decode cX10_swapped 95 = .ok (.ifCond .eq 25, 3) := by decide +kernel
theorem dX10_swapped_98 : decode cX10_swapped 98 = .ok (.aload_n 0, 1) := by decide +kernel
theorem dX10_swapped_99 : decode cX10_swapped 99 = .ok (.getfield 12, 3) := by decide +kernel
theorem tw_361 : (Jvm.Cond.fieldLinkNest "MarshBells$Trials" (94 : Nat) "MarshBells$Least" "lost" "I" "MarshBells") ∈ lw_tbl := tk_2 (List.mem_of_getElem? (i := 121) rfl)
theorem fl_X10_94 : kFN RX10 94 4 3 2 := ⟨RX4, TX4, rfl, by decide, inWX4, tw_361⟩
theorem dX10_swapped_102 : decode cX10_swapped 102 = .ok (.getfield 94, 3) := by decide +kernel
theorem dX10_swapped_105 : decode cX10_swapped 105 = .ok (.iload_n 2, 1) := by decide +kernel
theorem dX10_swapped_106 : decode cX10_swapped 106 = .ok (.if_icmp .ge 14, 3) := by decide +kernel
theorem dX10_swapped_109 : decode cX10_swapped 109 = .ok (.aload_n 0, 1) := by decide +kernel
theorem dX10_swapped_110 : decode cX10_swapped 110 = .ok (.getfield 12, 3) := by decide +kernel
theorem dX10_swapped_113 : decode cX10_swapped 113 = .ok (.iload_n 1, 1) := by decide +kernel
theorem tw_664 : (Jvm.Cond.methodLinkNest "MarshBells$Trials" (97 : Nat) ({ cls := "MarshBells$Least", name := "told", desc := "(I)I" } : Jvm.MethodName) "MarshBells") ∈ lw_tbl := tk_3 (List.mem_of_getElem? (i := 184) rfl)
theorem tw_667 : (Jvm.Cond.code ({ cls := "MarshBells$Least", name := "told", desc := "(I)I" } : Jvm.MethodName) prog_6_method_4_code (2 : Nat) (Option.some Jvm.ClassFile.FieldType.int)) ∈ lw_tbl := tk_3 (List.mem_of_getElem? (i := 187) rfl)
theorem tw_666 : (Jvm.Cond.instanceMethod ({ cls := "MarshBells$Least", name := "told", desc := "(I)I" } : Jvm.MethodName)) ∈ lw_tbl := tk_3 (List.mem_of_getElem? (i := 186) rfl)
theorem se_X4_told : Cond.selects RX4 yX4_told yX4_told ∈ lw_tbl := List.mem_append_left _ (List.mem_of_getElem? (i := 23) rfl)
theorem li_X10_97 : kLN RX10 97 RX4 yX4_told "MarshBells" cX4_told 2 (some .int) 1 := ⟨tw_664, tw_666, se_X4_told, tw_667, tw_9, by decide +kernel⟩
theorem dX4_told_0 : decode cX4_told 0 = .ok (.aload_n 0, 1) := by decide +kernel
theorem dX4_told_1 : decode cX4_told 1 = .ok (.getfield 9, 3) := by decide +kernel
theorem dX4_told_4 : decode cX4_told 4 = .ok (.ifCond .ne 5, 3) := by decide +kernel
theorem dX4_told_9 : decode cX4_told 9 = .ok (.iload_n 1, 1) := by decide +kernel
theorem dX4_told_10 : decode cX4_told 10 = .ok (.ifCond .ne 10, 3) := by decide +kernel
theorem dX4_told_20 : decode cX4_told 20 = .ok (.aload_n 0, 1) := by decide +kernel
theorem tw_360 : (Jvm.Cond.fieldLink "MarshBells$Least" (15 : Nat) "MarshBells$Least" "lost" "I") ∈ lw_tbl := tk_2 (List.mem_of_getElem? (i := 120) rfl)
theorem fl_X4_15 : kFL RX4 15 4 3 2 := ⟨RX4, TX4, rfl, by decide, inWX4, tw_360⟩
theorem dX4_told_21 : decode cX4_told 21 = .ok (.getfield 15, 3) := by decide +kernel
theorem dX4_told_13 : decode cX4_told 13 = .ok (.aload_n 0, 1) := by decide +kernel
theorem tw_359 : (Jvm.Cond.fieldLink "MarshBells$Least" (19 : Nat) "MarshBells$Least" "offered" "I") ∈ lw_tbl := tk_2 (List.mem_of_getElem? (i := 119) rfl)
theorem fl_X4_19 : kFL RX4 19 4 3 1 := ⟨RX4, TX4, rfl, by decide, inWX4, tw_359⟩
theorem dX4_told_14 : decode cX4_told 14 = .ok (.getfield 19, 3) := by decide +kernel
theorem dX4_told_17 : decode cX4_told 17 = .ok (.goto 7, 3) := by decide +kernel
theorem dX4_told_24 : decode cX4_told 24 = .ok (.ireturn, 1) := by decide +kernel
theorem dX4_told_7 : decode cX4_told 7 = .ok (.iconst (-1), 1) := by decide +kernel
theorem dX4_told_8 : decode cX4_told 8 = .ok (.ireturn, 1) := by decide +kernel
theorem dX10_swapped_114 : decode cX10_swapped 114 = .ok (.invokevirtual 97, 3) := by decide +kernel
theorem dX10_swapped_117 : decode cX10_swapped 117 = .ok (.goto 4, 3) := by decide +kernel
theorem dX10_swapped_120 : decode cX10_swapped 120 = .ok (.iconst (-1), 1) := by decide +kernel
theorem dX10_swapped_121 : decode cX10_swapped 121 = .ok (.ireturn, 1) := by decide +kernel
theorem dX10_swapped_26 : decode cX10_swapped 26 = .ok (.iload_n 3, 1) := by decide +kernel
theorem dX10_swapped_27 : decode cX10_swapped 27 = .ok (.iconst 1, 1) := by decide +kernel
theorem dX10_swapped_28 : decode cX10_swapped 28 = .ok (.iadd, 1) := by decide +kernel
theorem dX10_swapped_29 : decode cX10_swapped 29 = .ok (.istore 4, 2) := by decide +kernel
theorem dX10_swapped_31 : decode cX10_swapped 31 = .ok (.iload 4, 2) := by decide +kernel
theorem dX10_swapped_33 : decode cX10_swapped 33 = .ok (.aload_n 0, 1) := by decide +kernel
theorem dX10_swapped_34 : decode cX10_swapped 34 = .ok (.invokevirtual 64, 3) := by decide +kernel
theorem dX10_swapped_37 : decode cX10_swapped 37 = .ok (.if_icmp .ge 45, 3) := by decide +kernel
theorem dX10_swapped_82 : decode cX10_swapped 82 = .ok (.iinc 3 1, 3) := by decide +kernel
theorem dX10_swapped_85 : decode cX10_swapped 85 = .ok (.goto (-67), 3) := by decide +kernel
theorem dX10_swapped_40 : decode cX10_swapped 40 = .ok (.aload_n 0, 1) := by decide +kernel
theorem dX10_swapped_41 : decode cX10_swapped 41 = .ok (.iload_n 3, 1) := by decide +kernel
theorem dX10_swapped_42 : decode cX10_swapped 42 = .ok (.iload 4, 2) := by decide +kernel
theorem tw_1225 : (Jvm.Cond.methodLink "MarshBells$Trials" (84 : Nat) ({ cls := "MarshBells$Trials", name := "exchange", desc := "(II)V" } : Jvm.MethodName)) ∈ lw_tbl := tk_6 (List.mem_of_getElem? (i := 25) rfl)
theorem tw_1228 : (Jvm.Cond.code ({ cls := "MarshBells$Trials", name := "exchange", desc := "(II)V" } : Jvm.MethodName) prog_12_method_9_code (4 : Nat) (Option.none : Option Jvm.ClassFile.FieldType)) ∈ lw_tbl := tk_6 (List.mem_of_getElem? (i := 28) rfl)
theorem tw_1227 : (Jvm.Cond.instanceMethod ({ cls := "MarshBells$Trials", name := "exchange", desc := "(II)V" } : Jvm.MethodName)) ∈ lw_tbl := tk_6 (List.mem_of_getElem? (i := 27) rfl)
theorem se_X10_exchange : Cond.selects RX10 yX10_exchange yX10_exchange ∈ lw_tbl := List.mem_append_left _ (List.mem_of_getElem? (i := 87) rfl)
theorem li_X10_84 : kLV RX10 84 RX10 yX10_exchange cX10_exchange 4 none 2 := ⟨tw_1225, tw_1227, se_X10_exchange, tw_1228, tw_8, by decide +kernel⟩
theorem dX10_exchange_0 : decode cX10_exchange 0 = .ok (.aload_n 0, 1) := by decide +kernel
theorem dX10_exchange_1 : decode cX10_exchange 1 = .ok (.getfield 32, 3) := by decide +kernel
theorem dX10_exchange_4 : decode cX10_exchange 4 = .ok (.getfield 56, 3) := by decide +kernel
theorem dX10_exchange_7 : decode cX10_exchange 7 = .ok (.iload_n 1, 1) := by decide +kernel
theorem dX10_exchange_8 : decode cX10_exchange 8 = .ok (.iaload, 1) := by decide +kernel
theorem dX10_exchange_9 : decode cX10_exchange 9 = .ok (.istore_n 3, 1) := by decide +kernel
theorem dX10_exchange_10 : decode cX10_exchange 10 = .ok (.aload_n 0, 1) := by decide +kernel
theorem dX10_exchange_11 : decode cX10_exchange 11 = .ok (.getfield 32, 3) := by decide +kernel
theorem dX10_exchange_14 : decode cX10_exchange 14 = .ok (.getfield 56, 3) := by decide +kernel
theorem dX10_exchange_17 : decode cX10_exchange 17 = .ok (.iload_n 1, 1) := by decide +kernel
theorem dX10_exchange_18 : decode cX10_exchange 18 = .ok (.aload_n 0, 1) := by decide +kernel
theorem dX10_exchange_19 : decode cX10_exchange 19 = .ok (.getfield 32, 3) := by decide +kernel
theorem dX10_exchange_22 : decode cX10_exchange 22 = .ok (.getfield 56, 3) := by decide +kernel
theorem dX10_exchange_25 : decode cX10_exchange 25 = .ok (.iload_n 2, 1) := by decide +kernel
theorem dX10_exchange_26 : decode cX10_exchange 26 = .ok (.iaload, 1) := by decide +kernel
theorem dX10_exchange_27 : decode cX10_exchange 27 = .ok (.iastore, 1) := by decide +kernel
theorem dX10_exchange_28 : decode cX10_exchange 28 = .ok (.aload_n 0, 1) := by decide +kernel
theorem dX10_exchange_29 : decode cX10_exchange 29 = .ok (.getfield 32, 3) := by decide +kernel
theorem dX10_exchange_32 : decode cX10_exchange 32 = .ok (.getfield 56, 3) := by decide +kernel
theorem dX10_exchange_35 : decode cX10_exchange 35 = .ok (.iload_n 2, 1) := by decide +kernel
theorem dX10_exchange_36 : decode cX10_exchange 36 = .ok (.iload_n 3, 1) := by decide +kernel
theorem dX10_exchange_37 : decode cX10_exchange 37 = .ok (.iastore, 1) := by decide +kernel
theorem dX10_exchange_38 : decode cX10_exchange 38 = .ok (.return_, 1) := by decide +kernel
theorem dX10_swapped_44 : decode cX10_swapped 44 = .ok (.invokevirtual 84, 3) := by decide +kernel
theorem dX10_swapped_47 : decode cX10_swapped 47 = .ok (.aload_n 0, 1) := by decide +kernel
theorem dX10_swapped_48 : decode cX10_swapped 48 = .ok (.getfield 12, 3) := by decide +kernel
theorem dX10_swapped_51 : decode cX10_swapped 51 = .ok (.bipush 100, 2) := by decide +kernel
theorem dX10_swapped_53 : decode cX10_swapped 53 = .ok (.iload_n 3, 1) := by decide +kernel
theorem dX10_swapped_54 : decode cX10_swapped 54 = .ok (.imul, 1) := by decide +kernel
theorem dX10_swapped_55 : decode cX10_swapped 55 = .ok (.iload 4, 2) := by decide +kernel
theorem dX10_swapped_57 : decode cX10_swapped 57 = .ok (.iadd, 1) := by decide +kernel
theorem dX10_swapped_58 : decode cX10_swapped 58 = .ok (.aload_n 0, 1) := by decide +kernel
theorem dX10_swapped_59 : decode cX10_swapped 59 = .ok (.getfield 22, 3) := by decide +kernel
theorem dX10_swapped_62 : decode cX10_swapped 62 = .ok (.iconst 0, 1) := by decide +kernel
theorem dX10_swapped_63 : decode cX10_swapped 63 = .ok (.invokevirtual 77, 3) := by decide +kernel
theorem tw_660 : (Jvm.Cond.methodLinkNest "MarshBells$Trials" (87 : Nat) ({ cls := "MarshBells$Least", name := "offer", desc := "(II)V" } : Jvm.MethodName) "MarshBells") ∈ lw_tbl := tk_3 (List.mem_of_getElem? (i := 180) rfl)
theorem tw_663 : (Jvm.Cond.code ({ cls := "MarshBells$Least", name := "offer", desc := "(II)V" } : Jvm.MethodName) prog_6_method_3_code (3 : Nat) (Option.none : Option Jvm.ClassFile.FieldType)) ∈ lw_tbl := tk_3 (List.mem_of_getElem? (i := 183) rfl)
theorem tw_662 : (Jvm.Cond.instanceMethod ({ cls := "MarshBells$Least", name := "offer", desc := "(II)V" } : Jvm.MethodName)) ∈ lw_tbl := tk_3 (List.mem_of_getElem? (i := 182) rfl)
theorem se_X4_offer : Cond.selects RX4 yX4_offer yX4_offer ∈ lw_tbl := List.mem_append_left _ (List.mem_of_getElem? (i := 22) rfl)
theorem li_X10_87 : kLN RX10 87 RX4 yX4_offer "MarshBells" cX4_offer 3 none 2 := ⟨tw_660, tw_662, se_X4_offer, tw_663, tw_9, by decide +kernel⟩
theorem dX4_offer_0 : decode cX4_offer 0 = .ok (.aload_n 0, 1) := by decide +kernel
theorem dX4_offer_1 : decode cX4_offer 1 = .ok (.getfield 9, 3) := by decide +kernel
theorem dX4_offer_4 : decode cX4_offer 4 = .ok (.ifCond .eq 27, 3) := by decide +kernel
theorem dX4_offer_7 : decode cX4_offer 7 = .ok (.iload_n 2, 1) := by decide +kernel
theorem dX4_offer_8 : decode cX4_offer 8 = .ok (.aload_n 0, 1) := by decide +kernel
theorem dX4_offer_9 : decode cX4_offer 9 = .ok (.getfield 15, 3) := by decide +kernel
theorem dX4_offer_12 : decode cX4_offer 12 = .ok (.if_icmp .lt 19, 3) := by decide +kernel
theorem dX4_offer_15 : decode cX4_offer 15 = .ok (.iload_n 2, 1) := by decide +kernel
theorem dX4_offer_16 : decode cX4_offer 16 = .ok (.aload_n 0, 1) := by decide +kernel
theorem dX4_offer_17 : decode cX4_offer 17 = .ok (.getfield 15, 3) := by decide +kernel
theorem dX4_offer_20 : decode cX4_offer 20 = .ok (.if_icmp .ne 26, 3) := by decide +kernel
theorem dX4_offer_23 : decode cX4_offer 23 = .ok (.iload_n 1, 1) := by decide +kernel
theorem dX4_offer_24 : decode cX4_offer 24 = .ok (.aload_n 0, 1) := by decide +kernel
theorem dX4_offer_25 : decode cX4_offer 25 = .ok (.getfield 19, 3) := by decide +kernel
theorem dX4_offer_28 : decode cX4_offer 28 = .ok (.if_icmp .ge 18, 3) := by decide +kernel
theorem dX4_offer_31 : decode cX4_offer 31 = .ok (.aload_n 0, 1) := by decide +kernel
theorem dX4_offer_32 : decode cX4_offer 32 = .ok (.iconst 1, 1) := by decide +kernel
theorem dX4_offer_33 : decode cX4_offer 33 = .ok (.putfield 9, 3) := by decide +kernel
theorem dX4_offer_36 : decode cX4_offer 36 = .ok (.aload_n 0, 1) := by decide +kernel
theorem dX4_offer_37 : decode cX4_offer 37 = .ok (.iload_n 1, 1) := by decide +kernel
theorem ft_X4_1 : kFT 4 1 .int false RX4 := ⟨RX4, TX4, 3, tyX4, rfl, tyX4_ok, nmX4, rfl, by decide +kernel, rfl⟩
theorem dX4_offer_38 : decode cX4_offer 38 = .ok (.putfield 19, 3) := by decide +kernel
theorem dX4_offer_41 : decode cX4_offer 41 = .ok (.aload_n 0, 1) := by decide +kernel
theorem dX4_offer_42 : decode cX4_offer 42 = .ok (.iload_n 2, 1) := by decide +kernel
theorem ft_X4_2 : kFT 4 2 .int false RX4 := ⟨RX4, TX4, 3, tyX4, rfl, tyX4_ok, nmX4, rfl, by decide +kernel, rfl⟩
theorem dX4_offer_43 : decode cX4_offer 43 = .ok (.putfield 15, 3) := by decide +kernel
theorem dX4_offer_46 : decode cX4_offer 46 = .ok (.return_, 1) := by decide +kernel
theorem dX10_swapped_66 : decode cX10_swapped 66 = .ok (.invokevirtual 87, 3) := by decide +kernel
theorem dX10_swapped_69 : decode cX10_swapped 69 = .ok (.aload_n 0, 1) := by decide +kernel
theorem dX10_swapped_70 : decode cX10_swapped 70 = .ok (.iload_n 3, 1) := by decide +kernel
theorem dX10_swapped_71 : decode cX10_swapped 71 = .ok (.iload 4, 2) := by decide +kernel
theorem dX10_swapped_73 : decode cX10_swapped 73 = .ok (.invokevirtual 84, 3) := by decide +kernel
theorem dX10_swapped_76 : decode cX10_swapped 76 = .ok (.iinc 4 1, 3) := by decide +kernel
theorem dX10_swapped_79 : decode cX10_swapped 79 = .ok (.goto (-48), 3) := by decide +kernel
theorem dX10_leastBy_0 : decode cX10_leastBy 0 = .ok (.aload_n 0, 1) := by decide +kernel
theorem dX10_leastBy_1 : decode cX10_leastBy 1 = .ok (.getfield 32, 3) := by decide +kernel
theorem dX10_leastBy_4 : decode cX10_leastBy 4 = .ok (.iload_n 1, 1) := by decide +kernel
theorem dX10_leastBy_5 : decode cX10_leastBy 5 = .ok (.iload_n 2, 1) := by decide +kernel
theorem tw_1240 : (Jvm.Cond.methodLinkNest "MarshBells$Trials" (100 : Nat) ({ cls := "MarshBells$Held", name := "value", desc := "(II)I" } : Jvm.MethodName) "MarshBells") ∈ lw_tbl := tk_6 (List.mem_of_getElem? (i := 40) rfl)
theorem tw_1071 : (Jvm.Cond.code ({ cls := "MarshBells$Held", name := "value", desc := "(II)I" } : Jvm.MethodName) prog_5_method_5_code (3 : Nat) (Option.some Jvm.ClassFile.FieldType.int)) ∈ lw_tbl := tk_5 (List.mem_of_getElem? (i := 111) rfl)
theorem tw_1070 : (Jvm.Cond.instanceMethod ({ cls := "MarshBells$Held", name := "value", desc := "(II)I" } : Jvm.MethodName)) ∈ lw_tbl := tk_5 (List.mem_of_getElem? (i := 110) rfl)
theorem se_X3_value : Cond.selects RX3 yX3_value yX3_value ∈ lw_tbl := List.mem_append_left _ (List.mem_of_getElem? (i := 68) rfl)
theorem li_X10_100 : kLN RX10 100 RX3 yX3_value "MarshBells" cX3_value 3 (some .int) 2 := ⟨tw_1240, tw_1070, se_X3_value, tw_1071, tw_6, by decide +kernel⟩
theorem dX10_leastBy_6 : decode cX10_leastBy 6 = .ok (.invokevirtual 100, 3) := by decide +kernel
theorem dX10_leastBy_9 : decode cX10_leastBy 9 = .ok (.istore 4, 2) := by decide +kernel
theorem dX10_leastBy_11 : decode cX10_leastBy 11 = .ok (.aload_n 0, 1) := by decide +kernel
theorem dX10_leastBy_12 : decode cX10_leastBy 12 = .ok (.getfield 22, 3) := by decide +kernel
theorem dX10_leastBy_15 : decode cX10_leastBy 15 = .ok (.iconst 0, 1) := by decide +kernel
theorem dX10_leastBy_16 : decode cX10_leastBy 16 = .ok (.invokevirtual 43, 3) := by decide +kernel
theorem dX10_leastBy_19 : decode cX10_leastBy 19 = .ok (.aload_n 0, 1) := by decide +kernel
theorem dX10_leastBy_20 : decode cX10_leastBy 20 = .ok (.getfield 12, 3) := by decide +kernel
theorem dX10_leastBy_23 : decode cX10_leastBy 23 = .ok (.invokevirtual 81, 3) := by decide +kernel
theorem dX10_leastBy_26 : decode cX10_leastBy 26 = .ok (.iconst 0, 1) := by decide +kernel
theorem dX10_leastBy_27 : decode cX10_leastBy 27 = .ok (.istore 5, 2) := by decide +kernel
theorem dX10_leastBy_29 : decode cX10_leastBy 29 = .ok (.iload 5, 2) := by decide +kernel
theorem dX10_leastBy_31 : decode cX10_leastBy 31 = .ok (.iload_n 1, 1) := by decide +kernel
theorem tw_1241 : (Jvm.Cond.methodLinkNest "MarshBells$Trials" (104 : Nat) ({ cls := "MarshBells", name := "mostOf", desc := "(I)I" } : Jvm.MethodName) "MarshBells") ∈ lw_tbl := tk_6 (List.mem_of_getElem? (i := 41) rfl)
theorem tw_1 : (Jvm.Cond.initialized "MarshBells") ∈ lw_tbl := tk_1 (List.mem_of_getElem? (i := 1) rfl)
theorem tw_1067 : (Jvm.Cond.code ({ cls := "MarshBells", name := "mostOf", desc := "(I)I" } : Jvm.MethodName) prog_1_method_47_code (1 : Nat) (Option.some Jvm.ClassFile.FieldType.int)) ∈ lw_tbl := tk_5 (List.mem_of_getElem? (i := 107) rfl)
theorem tw_1066 : (Jvm.Cond.static ({ cls := "MarshBells", name := "mostOf", desc := "(I)I" } : Jvm.MethodName)) ∈ lw_tbl := tk_5 (List.mem_of_getElem? (i := 106) rfl)
theorem li_X10_104 : kLT RX10 104 yX11_mostOf "MarshBells" cX11_mostOf 1 (some .int) 1 := ⟨tw_1241, tw_1066, tw_1067, tw_1, by decide +kernel⟩
theorem dX11_mostOf_0 : decode cX11_mostOf 0 = .ok (.iload_n 0, 1) := by decide +kernel
theorem dX11_mostOf_1 : decode cX11_mostOf 1 = .ok (.tableswitch 36 0 2 #[27, 30, 33], 27) := by decide +kernel
theorem dX11_mostOf_28 : decode cX11_mostOf 28 = .ok (.bipush 60, 2) := by decide +kernel
theorem dX11_mostOf_30 : decode cX11_mostOf 30 = .ok (.ireturn, 1) := by decide +kernel
theorem dX11_mostOf_31 : decode cX11_mostOf 31 = .ok (.bipush 30, 2) := by decide +kernel
theorem dX11_mostOf_33 : decode cX11_mostOf 33 = .ok (.ireturn, 1) := by decide +kernel
theorem dX11_mostOf_34 : decode cX11_mostOf 34 = .ok (.bipush 9, 2) := by decide +kernel
theorem dX11_mostOf_36 : decode cX11_mostOf 36 = .ok (.ireturn, 1) := by decide +kernel
theorem dX11_mostOf_37 : decode cX11_mostOf 37 = .ok (.bipush 99, 2) := by decide +kernel
theorem dX11_mostOf_39 : decode cX11_mostOf 39 = .ok (.ireturn, 1) := by decide +kernel
theorem dX10_leastBy_32 : decode cX10_leastBy 32 = .ok (.invokestatic 104, 3) := by decide +kernel
theorem dX10_leastBy_35 : decode cX10_leastBy 35 = .ok (.if_icmp .gt 37, 3) := by decide +kernel
theorem dX10_leastBy_38 : decode cX10_leastBy 38 = .ok (.aload_n 0, 1) := by decide +kernel
theorem dX10_leastBy_39 : decode cX10_leastBy 39 = .ok (.getfield 32, 3) := by decide +kernel
theorem dX10_leastBy_42 : decode cX10_leastBy 42 = .ok (.iload_n 1, 1) := by decide +kernel
theorem dX10_leastBy_43 : decode cX10_leastBy 43 = .ok (.iload_n 2, 1) := by decide +kernel
theorem dX10_leastBy_44 : decode cX10_leastBy 44 = .ok (.iload 5, 2) := by decide +kernel
theorem tw_1242 : (Jvm.Cond.methodLinkNest "MarshBells$Trials" (107 : Nat) ({ cls := "MarshBells$Held", name := "put", desc := "(III)V" } : Jvm.MethodName) "MarshBells") ∈ lw_tbl := tk_6 (List.mem_of_getElem? (i := 42) rfl)
theorem li_X10_107 : kLN RX10 107 RX3 yX3_put "MarshBells" cX3_put 4 none 3 := ⟨tw_1242, tw_578, se_X3_put, tw_579, tw_6, by decide +kernel⟩
theorem dX10_leastBy_46 : decode cX10_leastBy 46 = .ok (.invokevirtual 107, 3) := by decide +kernel
theorem dX10_leastBy_49 : decode cX10_leastBy 49 = .ok (.aload_n 0, 1) := by decide +kernel
theorem dX10_leastBy_50 : decode cX10_leastBy 50 = .ok (.getfield 12, 3) := by decide +kernel
theorem dX10_leastBy_53 : decode cX10_leastBy 53 = .ok (.iload 5, 2) := by decide +kernel
theorem dX10_leastBy_55 : decode cX10_leastBy 55 = .ok (.aload_n 0, 1) := by decide +kernel
theorem dX10_leastBy_56 : decode cX10_leastBy 56 = .ok (.getfield 22, 3) := by decide +kernel
theorem dX10_leastBy_59 : decode cX10_leastBy 59 = .ok (.iload_n 2, 1) := by decide +kernel
theorem dX10_leastBy_60 : decode cX10_leastBy 60 = .ok (.invokevirtual 77, 3) := by decide +kernel
theorem dX10_leastBy_63 : decode cX10_leastBy 63 = .ok (.invokevirtual 87, 3) := by decide +kernel
theorem dX10_leastBy_66 : decode cX10_leastBy 66 = .ok (.iinc 5 1, 3) := by decide +kernel
theorem dX10_leastBy_69 : decode cX10_leastBy 69 = .ok (.goto (-40), 3) := by decide +kernel
theorem dX10_leastBy_72 : decode cX10_leastBy 72 = .ok (.aload_n 0, 1) := by decide +kernel
theorem dX10_leastBy_73 : decode cX10_leastBy 73 = .ok (.getfield 32, 3) := by decide +kernel
theorem dX10_leastBy_76 : decode cX10_leastBy 76 = .ok (.iload_n 1, 1) := by decide +kernel
theorem dX10_leastBy_77 : decode cX10_leastBy 77 = .ok (.iload_n 2, 1) := by decide +kernel
theorem dX10_leastBy_78 : decode cX10_leastBy 78 = .ok (.iload 4, 2) := by decide +kernel
theorem dX10_leastBy_80 : decode cX10_leastBy 80 = .ok (.invokevirtual 107, 3) := by decide +kernel
theorem dX10_leastBy_83 : decode cX10_leastBy 83 = .ok (.aload_n 0, 1) := by decide +kernel
theorem dX10_leastBy_84 : decode cX10_leastBy 84 = .ok (.getfield 12, 3) := by decide +kernel
theorem dX10_leastBy_87 : decode cX10_leastBy 87 = .ok (.iload_n 3, 1) := by decide +kernel
theorem dX10_leastBy_88 : decode cX10_leastBy 88 = .ok (.invokevirtual 97, 3) := by decide +kernel
theorem dX10_leastBy_91 : decode cX10_leastBy 91 = .ok (.ireturn, 1) := by decide +kernel
theorem dX10_withoutOne_0 : decode cX10_withoutOne 0 = .ok (.aload_n 0, 1) := by decide +kernel
theorem dX10_withoutOne_1 : decode cX10_withoutOne 1 = .ok (.getfield 12, 3) := by decide +kernel
theorem dX10_withoutOne_4 : decode cX10_withoutOne 4 = .ok (.invokevirtual 81, 3) := by decide +kernel
theorem dX10_withoutOne_7 : decode cX10_withoutOne 7 = .ok (.iconst 0, 1) := by decide +kernel
theorem dX10_withoutOne_8 : decode cX10_withoutOne 8 = .ok (.istore_n 1, 1) := by decide +kernel
theorem dX10_withoutOne_9 : decode cX10_withoutOne 9 = .ok (.iload_n 1, 1) := by decide +kernel
theorem dX10_withoutOne_10 : decode cX10_withoutOne 10 = .ok (.aload_n 0, 1) := by decide +kernel
theorem dX10_withoutOne_11 : decode cX10_withoutOne 11 = .ok (.invokevirtual 64, 3) := by decide +kernel
theorem dX10_withoutOne_14 : decode cX10_withoutOne 14 = .ok (.if_icmp .ge 23, 3) := by decide +kernel
theorem dX10_withoutOne_37 : decode cX10_withoutOne 37 = .ok (.aload_n 0, 1) := by decide +kernel
theorem dX10_withoutOne_38 : decode cX10_withoutOne 38 = .ok (.getfield 12, 3) := by decide +kernel
theorem dX10_withoutOne_41 : decode cX10_withoutOne 41 = .ok (.iconst 0, 1) := by decide +kernel
theorem dX10_withoutOne_42 : decode cX10_withoutOne 42 = .ok (.invokevirtual 97, 3) := by decide +kernel
theorem dX10_withoutOne_45 : decode cX10_withoutOne 45 = .ok (.ireturn, 1) := by decide +kernel
theorem dX10_withoutOne_17 : decode cX10_withoutOne 17 = .ok (.aload_n 0, 1) := by decide +kernel
theorem dX10_withoutOne_18 : decode cX10_withoutOne 18 = .ok (.getfield 12, 3) := by decide +kernel
theorem dX10_withoutOne_21 : decode cX10_withoutOne 21 = .ok (.iload_n 1, 1) := by decide +kernel
theorem dX10_withoutOne_22 : decode cX10_withoutOne 22 = .ok (.aload_n 0, 1) := by decide +kernel
theorem dX10_withoutOne_23 : decode cX10_withoutOne 23 = .ok (.iload_n 1, 1) := by decide +kernel
theorem dX10_withoutOne_24 : decode cX10_withoutOne 24 = .ok (.iload_n 1, 1) := by decide +kernel
theorem tw_600 : (Jvm.Cond.methodLink "MarshBells$Trials" (111 : Nat) ({ cls := "MarshBells$Trials", name := "lostWithout", desc := "(II)I" } : Jvm.MethodName)) ∈ lw_tbl := tk_3 (List.mem_of_getElem? (i := 120) rfl)
theorem tw_603 : (Jvm.Cond.code ({ cls := "MarshBells$Trials", name := "lostWithout", desc := "(II)I" } : Jvm.MethodName) prog_12_method_14_code (6 : Nat) (Option.some Jvm.ClassFile.FieldType.int)) ∈ lw_tbl := tk_3 (List.mem_of_getElem? (i := 123) rfl)
theorem tw_602 : (Jvm.Cond.instanceMethod ({ cls := "MarshBells$Trials", name := "lostWithout", desc := "(II)I" } : Jvm.MethodName)) ∈ lw_tbl := tk_3 (List.mem_of_getElem? (i := 122) rfl)
theorem se_X10_lostWithout : Cond.selects RX10 yX10_lostWithout yX10_lostWithout ∈ lw_tbl := List.mem_append_left _ (List.mem_of_getElem? (i := 10) rfl)
theorem li_X10_111 : kLV RX10 111 RX10 yX10_lostWithout cX10_lostWithout 6 (some .int) 2 := ⟨tw_600, tw_602, se_X10_lostWithout, tw_603, tw_8, by decide +kernel⟩
theorem dX10_lostWithout_0 : decode cX10_lostWithout 0 = .ok (.aload_n 0, 1) := by decide +kernel
theorem dX10_lostWithout_1 : decode cX10_lostWithout 1 = .ok (.getfield 32, 3) := by decide +kernel
theorem dX10_lostWithout_4 : decode cX10_lostWithout 4 = .ok (.getfield 56, 3) := by decide +kernel
theorem dX10_lostWithout_7 : decode cX10_lostWithout 7 = .ok (.iload_n 1, 1) := by decide +kernel
theorem dX10_lostWithout_8 : decode cX10_lostWithout 8 = .ok (.iaload, 1) := by decide +kernel
theorem dX10_lostWithout_9 : decode cX10_lostWithout 9 = .ok (.istore_n 3, 1) := by decide +kernel
theorem dX10_lostWithout_10 : decode cX10_lostWithout 10 = .ok (.aload_n 0, 1) := by decide +kernel
theorem dX10_lostWithout_11 : decode cX10_lostWithout 11 = .ok (.getfield 32, 3) := by decide +kernel
theorem dX10_lostWithout_14 : decode cX10_lostWithout 14 = .ok (.getfield 56, 3) := by decide +kernel
theorem dX10_lostWithout_17 : decode cX10_lostWithout 17 = .ok (.iload_n 2, 1) := by decide +kernel
theorem dX10_lostWithout_18 : decode cX10_lostWithout 18 = .ok (.iaload, 1) := by decide +kernel
theorem dX10_lostWithout_19 : decode cX10_lostWithout 19 = .ok (.istore 4, 2) := by decide +kernel
theorem dX10_lostWithout_21 : decode cX10_lostWithout 21 = .ok (.aload_n 0, 1) := by decide +kernel
theorem dX10_lostWithout_22 : decode cX10_lostWithout 22 = .ok (.getfield 32, 3) := by decide +kernel
theorem dX10_lostWithout_25 : decode cX10_lostWithout 25 = .ok (.getfield 56, 3) := by decide +kernel
theorem dX10_lostWithout_28 : decode cX10_lostWithout 28 = .ok (.iload_n 1, 1) := by decide +kernel
theorem dX10_lostWithout_29 : decode cX10_lostWithout 29 = .ok (.iconst 0, 1) := by decide +kernel
theorem dX10_lostWithout_30 : decode cX10_lostWithout 30 = .ok (.iastore, 1) := by decide +kernel
theorem dX10_lostWithout_31 : decode cX10_lostWithout 31 = .ok (.aload_n 0, 1) := by decide +kernel
theorem dX10_lostWithout_32 : decode cX10_lostWithout 32 = .ok (.getfield 32, 3) := by decide +kernel
theorem dX10_lostWithout_35 : decode cX10_lostWithout 35 = .ok (.getfield 56, 3) := by decide +kernel
theorem dX10_lostWithout_38 : decode cX10_lostWithout 38 = .ok (.iload_n 2, 1) := by decide +kernel
theorem dX10_lostWithout_39 : decode cX10_lostWithout 39 = .ok (.iconst 0, 1) := by decide +kernel
theorem dX10_lostWithout_40 : decode cX10_lostWithout 40 = .ok (.iastore, 1) := by decide +kernel
theorem dX10_lostWithout_41 : decode cX10_lostWithout 41 = .ok (.aload_n 0, 1) := by decide +kernel
theorem dX10_lostWithout_42 : decode cX10_lostWithout 42 = .ok (.getfield 22, 3) := by decide +kernel
theorem dX10_lostWithout_45 : decode cX10_lostWithout 45 = .ok (.iconst 0, 1) := by decide +kernel
theorem dX10_lostWithout_46 : decode cX10_lostWithout 46 = .ok (.invokevirtual 77, 3) := by decide +kernel
theorem dX10_lostWithout_49 : decode cX10_lostWithout 49 = .ok (.istore 5, 2) := by decide +kernel
theorem dX10_lostWithout_51 : decode cX10_lostWithout 51 = .ok (.aload_n 0, 1) := by decide +kernel
theorem dX10_lostWithout_52 : decode cX10_lostWithout 52 = .ok (.getfield 32, 3) := by decide +kernel
theorem dX10_lostWithout_55 : decode cX10_lostWithout 55 = .ok (.getfield 56, 3) := by decide +kernel
theorem dX10_lostWithout_58 : decode cX10_lostWithout 58 = .ok (.iload_n 1, 1) := by decide +kernel
theorem dX10_lostWithout_59 : decode cX10_lostWithout 59 = .ok (.iload_n 3, 1) := by decide +kernel
theorem dX10_lostWithout_60 : decode cX10_lostWithout 60 = .ok (.iastore, 1) := by decide +kernel
theorem dX10_lostWithout_61 : decode cX10_lostWithout 61 = .ok (.aload_n 0, 1) := by decide +kernel
theorem dX10_lostWithout_62 : decode cX10_lostWithout 62 = .ok (.getfield 32, 3) := by decide +kernel
theorem dX10_lostWithout_65 : decode cX10_lostWithout 65 = .ok (.getfield 56, 3) := by decide +kernel
theorem dX10_lostWithout_68 : decode cX10_lostWithout 68 = .ok (.iload_n 2, 1) := by decide +kernel
theorem dX10_lostWithout_69 : decode cX10_lostWithout 69 = .ok (.iload 4, 2) := by decide +kernel
theorem dX10_lostWithout_71 : decode cX10_lostWithout 71 = .ok (.iastore, 1) := by decide +kernel
theorem dX10_lostWithout_72 : decode cX10_lostWithout 72 = .ok (.iload 5, 2) := by decide +kernel
theorem dX10_lostWithout_74 : decode cX10_lostWithout 74 = .ok (.ireturn, 1) := by decide +kernel
theorem dX10_withoutOne_25 : decode cX10_withoutOne 25 = .ok (.invokevirtual 111, 3) := by decide +kernel
theorem dX10_withoutOne_28 : decode cX10_withoutOne 28 = .ok (.invokevirtual 87, 3) := by decide +kernel
theorem dX10_withoutOne_31 : decode cX10_withoutOne 31 = .ok (.iinc 1 1, 3) := by decide +kernel
theorem dX10_withoutOne_34 : decode cX10_withoutOne 34 = .ok (.goto (-25), 3) := by decide +kernel
theorem dX10_withoutTwo_0 : decode cX10_withoutTwo 0 = .ok (.aload_n 0, 1) := by decide +kernel
theorem dX10_withoutTwo_1 : decode cX10_withoutTwo 1 = .ok (.getfield 12, 3) := by decide +kernel
theorem dX10_withoutTwo_4 : decode cX10_withoutTwo 4 = .ok (.invokevirtual 81, 3) := by decide +kernel
theorem dX10_withoutTwo_7 : decode cX10_withoutTwo 7 = .ok (.iconst 0, 1) := by decide +kernel
theorem dX10_withoutTwo_8 : decode cX10_withoutTwo 8 = .ok (.istore_n 2, 1) := by decide +kernel
theorem dX10_withoutTwo_9 : decode cX10_withoutTwo 9 = .ok (.iload_n 2, 1) := by decide +kernel
theorem dX10_withoutTwo_10 : decode cX10_withoutTwo 10 = .ok (.aload_n 0, 1) := by decide +kernel
theorem dX10_withoutTwo_11 : decode cX10_withoutTwo 11 = .ok (.invokevirtual 64, 3) := by decide +kernel
theorem dX10_withoutTwo_14 : decode cX10_withoutTwo 14 = .ok (.if_icmp .ge 46, 3) := by decide +kernel
theorem dX10_withoutTwo_60 : decode cX10_withoutTwo 60 = .ok (.aload_n 0, 1) := by decide +kernel
theorem dX10_withoutTwo_61 : decode cX10_withoutTwo 61 = .ok (.getfield 12, 3) := by decide +kernel
theorem dX10_withoutTwo_64 : decode cX10_withoutTwo 64 = .ok (.iload_n 1, 1) := by decide +kernel
theorem dX10_withoutTwo_65 : decode cX10_withoutTwo 65 = .ok (.invokevirtual 97, 3) := by decide +kernel
theorem dX10_withoutTwo_68 : decode cX10_withoutTwo 68 = .ok (.ireturn, 1) := by decide +kernel
theorem dX10_withoutTwo_17 : decode cX10_withoutTwo 17 = .ok (.iload_n 2, 1) := by decide +kernel
theorem dX10_withoutTwo_18 : decode cX10_withoutTwo 18 = .ok (.iconst 1, 1) := by decide +kernel
theorem dX10_withoutTwo_19 : decode cX10_withoutTwo 19 = .ok (.iadd, 1) := by decide +kernel
theorem dX10_withoutTwo_20 : decode cX10_withoutTwo 20 = .ok (.istore_n 3, 1) := by decide +kernel
theorem dX10_withoutTwo_21 : decode cX10_withoutTwo 21 = .ok (.iload_n 3, 1) := by decide +kernel
theorem dX10_withoutTwo_22 : decode cX10_withoutTwo 22 = .ok (.aload_n 0, 1) := by decide +kernel
theorem dX10_withoutTwo_23 : decode cX10_withoutTwo 23 = .ok (.invokevirtual 64, 3) := by decide +kernel
theorem dX10_withoutTwo_26 : decode cX10_withoutTwo 26 = .ok (.if_icmp .ge 28, 3) := by decide +kernel
theorem dX10_withoutTwo_54 : decode cX10_withoutTwo 54 = .ok (.iinc 2 1, 3) := by decide +kernel
theorem dX10_withoutTwo_57 : decode cX10_withoutTwo 57 = .ok (.goto (-48), 3) := by decide +kernel
theorem dX10_withoutTwo_29 : decode cX10_withoutTwo 29 = .ok (.aload_n 0, 1) := by decide +kernel
theorem dX10_withoutTwo_30 : decode cX10_withoutTwo 30 = .ok (.getfield 12, 3) := by decide +kernel
theorem dX10_withoutTwo_33 : decode cX10_withoutTwo 33 = .ok (.bipush 100, 2) := by decide +kernel
theorem dX10_withoutTwo_35 : decode cX10_withoutTwo 35 = .ok (.iload_n 2, 1) := by decide +kernel
theorem dX10_withoutTwo_36 : decode cX10_withoutTwo 36 = .ok (.imul, 1) := by decide +kernel
theorem dX10_withoutTwo_37 : decode cX10_withoutTwo 37 = .ok (.iload_n 3, 1) := by decide +kernel
theorem dX10_withoutTwo_38 : decode cX10_withoutTwo 38 = .ok (.iadd, 1) := by decide +kernel
theorem dX10_withoutTwo_39 : decode cX10_withoutTwo 39 = .ok (.aload_n 0, 1) := by decide +kernel
theorem dX10_withoutTwo_40 : decode cX10_withoutTwo 40 = .ok (.iload_n 2, 1) := by decide +kernel
theorem dX10_withoutTwo_41 : decode cX10_withoutTwo 41 = .ok (.iload_n 3, 1) := by decide +kernel
theorem dX10_withoutTwo_42 : decode cX10_withoutTwo 42 = .ok (.invokevirtual 111, 3) := by decide +kernel
theorem dX10_withoutTwo_45 : decode cX10_withoutTwo 45 = .ok (.invokevirtual 87, 3) := by decide +kernel
theorem dX10_withoutTwo_48 : decode cX10_withoutTwo 48 = .ok (.iinc 3 1, 3) := by decide +kernel
theorem dX10_withoutTwo_51 : decode cX10_withoutTwo 51 = .ok (.goto (-30), 3) := by decide +kernel
theorem dX10_lostByRule_0 : decode cX10_lostByRule 0 = .ok (.aload_n 0, 1) := by decide +kernel
theorem dX10_lostByRule_1 : decode cX10_lostByRule 1 = .ok (.getfield 32, 3) := by decide +kernel
theorem tw_266 : (Jvm.Cond.fieldLinkNest "MarshBells$Trials" (114 : Nat) "MarshBells$Held" "rule" "I" "MarshBells") ∈ lw_tbl := tk_2 (List.mem_of_getElem? (i := 26) rfl)
theorem fl_X10_114 : kFN RX10 114 3 12 11 := ⟨RX3, TX3, rfl, by decide, inWX3, tw_266⟩
theorem dX10_lostByRule_4 : decode cX10_lostByRule 4 = .ok (.getfield 114, 3) := by decide +kernel
theorem dX10_lostByRule_7 : decode cX10_lostByRule 7 = .ok (.istore_n 2, 1) := by decide +kernel
theorem dX10_lostByRule_8 : decode cX10_lostByRule 8 = .ok (.aload_n 0, 1) := by decide +kernel
theorem dX10_lostByRule_9 : decode cX10_lostByRule 9 = .ok (.getfield 32, 3) := by decide +kernel
theorem dX10_lostByRule_12 : decode cX10_lostByRule 12 = .ok (.iload_n 1, 1) := by decide +kernel
theorem dX10_lostByRule_13 : decode cX10_lostByRule 13 = .ok (.putfield 114, 3) := by decide +kernel
theorem dX10_lostByRule_16 : decode cX10_lostByRule 16 = .ok (.aload_n 0, 1) := by decide +kernel
theorem dX10_lostByRule_17 : decode cX10_lostByRule 17 = .ok (.getfield 22, 3) := by decide +kernel
theorem dX10_lostByRule_20 : decode cX10_lostByRule 20 = .ok (.iconst 0, 1) := by decide +kernel
theorem dX10_lostByRule_21 : decode cX10_lostByRule 21 = .ok (.invokevirtual 77, 3) := by decide +kernel
theorem dX10_lostByRule_24 : decode cX10_lostByRule 24 = .ok (.istore_n 3, 1) := by decide +kernel
theorem dX10_lostByRule_25 : decode cX10_lostByRule 25 = .ok (.aload_n 0, 1) := by decide +kernel
theorem dX10_lostByRule_26 : decode cX10_lostByRule 26 = .ok (.getfield 32, 3) := by decide +kernel
theorem dX10_lostByRule_29 : decode cX10_lostByRule 29 = .ok (.iload_n 2, 1) := by decide +kernel
theorem dX10_lostByRule_30 : decode cX10_lostByRule 30 = .ok (.putfield 114, 3) := by decide +kernel
theorem dX10_lostByRule_33 : decode cX10_lostByRule 33 = .ok (.iload_n 3, 1) := by decide +kernel
theorem dX10_lostByRule_34 : decode cX10_lostByRule 34 = .ok (.ireturn, 1) := by decide +kernel
theorem dX10_bestRule_0 : decode cX10_bestRule 0 = .ok (.aload_n 0, 1) := by decide +kernel
theorem dX10_bestRule_1 : decode cX10_bestRule 1 = .ok (.getfield 12, 3) := by decide +kernel
theorem dX10_bestRule_4 : decode cX10_bestRule 4 = .ok (.invokevirtual 81, 3) := by decide +kernel
theorem dX10_bestRule_7 : decode cX10_bestRule 7 = .ok (.iconst (-1), 1) := by decide +kernel
theorem dX10_bestRule_8 : decode cX10_bestRule 8 = .ok (.istore_n 1, 1) := by decide +kernel
theorem dX10_bestRule_9 : decode cX10_bestRule 9 = .ok (.iload_n 1, 1) := by decide +kernel
theorem dX10_bestRule_10 : decode cX10_bestRule 10 = .ok (.aload_n 0, 1) := by decide +kernel
theorem dX10_bestRule_11 : decode cX10_bestRule 11 = .ok (.getfield 22, 3) := by decide +kernel
theorem dX10_bestRule_14 : decode cX10_bestRule 14 = .ok (.getfield 33, 3) := by decide +kernel
theorem tw_160 : (Jvm.Cond.fieldLinkNest "MarshBells$Trials" (117 : Nat) "MarshBells$Plan" "rules" "LMarshBells$Rules;" "MarshBells") ∈ lw_tbl := tk_1 (List.mem_of_getElem? (i := 160) rfl)
theorem fl_X10_117 : kFN RX10 117 7 5 1 := ⟨RX7, TX7, rfl, by decide, inWX7, tw_160⟩
theorem dX10_bestRule_17 : decode cX10_bestRule 17 = .ok (.getfield 117, 3) := by decide +kernel
theorem tw_54 : (Jvm.Cond.fieldLinkNest "MarshBells$Trials" (121 : Nat) "MarshBells$Rules" "size" "I" "MarshBells") ∈ lw_tbl := tk_1 (List.mem_of_getElem? (i := 54) rfl)
theorem fl_X10_121 : kFN RX10 121 8 5 3 := ⟨RX8, TX8, rfl, by decide, inWX8, tw_54⟩
theorem dX10_bestRule_20 : decode cX10_bestRule 20 = .ok (.getfield 121, 3) := by decide +kernel
theorem dX10_bestRule_23 : decode cX10_bestRule 23 = .ok (.if_icmp .ge 22, 3) := by decide +kernel
theorem dX10_bestRule_26 : decode cX10_bestRule 26 = .ok (.aload_n 0, 1) := by decide +kernel
theorem dX10_bestRule_27 : decode cX10_bestRule 27 = .ok (.getfield 12, 3) := by decide +kernel
theorem dX10_bestRule_30 : decode cX10_bestRule 30 = .ok (.iload_n 1, 1) := by decide +kernel
theorem dX10_bestRule_31 : decode cX10_bestRule 31 = .ok (.aload_n 0, 1) := by decide +kernel
theorem dX10_bestRule_32 : decode cX10_bestRule 32 = .ok (.iload_n 1, 1) := by decide +kernel
theorem tw_676 : (Jvm.Cond.methodLink "MarshBells$Trials" (126 : Nat) ({ cls := "MarshBells$Trials", name := "lostByRule", desc := "(I)I" } : Jvm.MethodName)) ∈ lw_tbl := tk_3 (List.mem_of_getElem? (i := 196) rfl)
theorem tw_679 : (Jvm.Cond.code ({ cls := "MarshBells$Trials", name := "lostByRule", desc := "(I)I" } : Jvm.MethodName) prog_12_method_15_code (4 : Nat) (Option.some Jvm.ClassFile.FieldType.int)) ∈ lw_tbl := tk_3 (List.mem_of_getElem? (i := 199) rfl)
theorem tw_678 : (Jvm.Cond.instanceMethod ({ cls := "MarshBells$Trials", name := "lostByRule", desc := "(I)I" } : Jvm.MethodName)) ∈ lw_tbl := tk_3 (List.mem_of_getElem? (i := 198) rfl)
theorem se_X10_lostByRule : Cond.selects RX10 yX10_lostByRule yX10_lostByRule ∈ lw_tbl := List.mem_append_left _ (List.mem_of_getElem? (i := 25) rfl)
theorem li_X10_126 : kLV RX10 126 RX10 yX10_lostByRule cX10_lostByRule 4 (some .int) 1 := ⟨tw_676, tw_678, se_X10_lostByRule, tw_679, tw_8, by decide +kernel⟩
theorem dX10_bestRule_33 : decode cX10_bestRule 33 = .ok (.invokevirtual 126, 3) := by decide +kernel
theorem dX10_bestRule_36 : decode cX10_bestRule 36 = .ok (.invokevirtual 87, 3) := by decide +kernel
theorem dX10_bestRule_39 : decode cX10_bestRule 39 = .ok (.iinc 1 1, 3) := by decide +kernel
theorem dX10_bestRule_42 : decode cX10_bestRule 42 = .ok (.goto (-33), 3) := by decide +kernel
theorem dX10_bestRule_45 : decode cX10_bestRule 45 = .ok (.aload_n 0, 1) := by decide +kernel
theorem dX10_bestRule_46 : decode cX10_bestRule 46 = .ok (.getfield 12, 3) := by decide +kernel
theorem dX10_bestRule_49 : decode cX10_bestRule 49 = .ok (.iconst 0, 1) := by decide +kernel
theorem dX10_bestRule_50 : decode cX10_bestRule 50 = .ok (.invokevirtual 97, 3) := by decide +kernel
theorem dX10_bestRule_53 : decode cX10_bestRule 53 = .ok (.ireturn, 1) := by decide +kernel
theorem dX10_worthOfBell_0 : decode cX10_worthOfBell 0 = .ok (.aload_n 0, 1) := by decide +kernel
theorem dX10_worthOfBell_1 : decode cX10_worthOfBell 1 = .ok (.getfield 22, 3) := by decide +kernel
theorem dX10_worthOfBell_4 : decode cX10_worthOfBell 4 = .ok (.iconst 0, 1) := by decide +kernel
theorem dX10_worthOfBell_5 : decode cX10_worthOfBell 5 = .ok (.invokevirtual 77, 3) := by decide +kernel
theorem dX10_worthOfBell_8 : decode cX10_worthOfBell 8 = .ok (.istore_n 2, 1) := by decide +kernel
theorem dX10_worthOfBell_9 : decode cX10_worthOfBell 9 = .ok (.aload_n 0, 1) := by decide +kernel
theorem dX10_worthOfBell_10 : decode cX10_worthOfBell 10 = .ok (.getfield 32, 3) := by decide +kernel
theorem dX10_worthOfBell_13 : decode cX10_worthOfBell 13 = .ok (.getfield 56, 3) := by decide +kernel
theorem dX10_worthOfBell_16 : decode cX10_worthOfBell 16 = .ok (.iconst 0, 1) := by decide +kernel
theorem dX10_worthOfBell_17 : decode cX10_worthOfBell 17 = .ok (.aload_n 0, 1) := by decide +kernel
theorem dX10_worthOfBell_18 : decode cX10_worthOfBell 18 = .ok (.getfield 18, 3) := by decide +kernel
theorem dX10_worthOfBell_21 : decode cX10_worthOfBell 21 = .ok (.iconst 0, 1) := by decide +kernel
theorem dX10_worthOfBell_22 : decode cX10_worthOfBell 22 = .ok (.bipush 12, 2) := by decide +kernel
theorem dX10_worthOfBell_24 : decode cX10_worthOfBell 24 = .ok (.invokestatic 50, 3) := by decide +kernel
theorem dX10_worthOfBell_27 : decode cX10_worthOfBell 27 = .ok (.iconst 0, 1) := by decide +kernel
theorem dX10_worthOfBell_28 : decode cX10_worthOfBell 28 = .ok (.istore_n 3, 1) := by decide +kernel
theorem dX10_worthOfBell_29 : decode cX10_worthOfBell 29 = .ok (.iload_n 3, 1) := by decide +kernel
theorem dX10_worthOfBell_30 : decode cX10_worthOfBell 30 = .ok (.aload_n 0, 1) := by decide +kernel
theorem dX10_worthOfBell_31 : decode cX10_worthOfBell 31 = .ok (.invokevirtual 64, 3) := by decide +kernel
theorem dX10_worthOfBell_34 : decode cX10_worthOfBell 34 = .ok (.if_icmp .ge 28, 3) := by decide +kernel
theorem dX10_worthOfBell_62 : decode cX10_worthOfBell 62 = .ok (.aload_n 0, 1) := by decide +kernel
theorem dX10_worthOfBell_63 : decode cX10_worthOfBell 63 = .ok (.getfield 22, 3) := by decide +kernel
theorem dX10_worthOfBell_66 : decode cX10_worthOfBell 66 = .ok (.iconst 0, 1) := by decide +kernel
theorem dX10_worthOfBell_67 : decode cX10_worthOfBell 67 = .ok (.invokevirtual 77, 3) := by decide +kernel
theorem dX10_worthOfBell_70 : decode cX10_worthOfBell 70 = .ok (.istore_n 3, 1) := by decide +kernel
theorem dX10_worthOfBell_71 : decode cX10_worthOfBell 71 = .ok (.aload_n 0, 1) := by decide +kernel
theorem dX10_worthOfBell_72 : decode cX10_worthOfBell 72 = .ok (.getfield 18, 3) := by decide +kernel
theorem dX10_worthOfBell_75 : decode cX10_worthOfBell 75 = .ok (.iconst 0, 1) := by decide +kernel
theorem dX10_worthOfBell_76 : decode cX10_worthOfBell 76 = .ok (.aload_n 0, 1) := by decide +kernel
theorem dX10_worthOfBell_77 : decode cX10_worthOfBell 77 = .ok (.getfield 32, 3) := by decide +kernel
theorem dX10_worthOfBell_80 : decode cX10_worthOfBell 80 = .ok (.getfield 56, 3) := by decide +kernel
theorem dX10_worthOfBell_83 : decode cX10_worthOfBell 83 = .ok (.iconst 0, 1) := by decide +kernel
theorem dX10_worthOfBell_84 : decode cX10_worthOfBell 84 = .ok (.bipush 12, 2) := by decide +kernel
theorem dX10_worthOfBell_86 : decode cX10_worthOfBell 86 = .ok (.invokestatic 50, 3) := by decide +kernel
theorem dX10_worthOfBell_89 : decode cX10_worthOfBell 89 = .ok (.iload_n 2, 1) := by decide +kernel
theorem dX10_worthOfBell_90 : decode cX10_worthOfBell 90 = .ok (.iload_n 3, 1) := by decide +kernel
theorem dX10_worthOfBell_91 : decode cX10_worthOfBell 91 = .ok (.isub, 1) := by decide +kernel
theorem dX10_worthOfBell_92 : decode cX10_worthOfBell 92 = .ok (.ireturn, 1) := by decide +kernel
theorem dX10_worthOfBell_37 : decode cX10_worthOfBell 37 = .ok (.aload_n 0, 1) := by decide +kernel
theorem dX10_worthOfBell_38 : decode cX10_worthOfBell 38 = .ok (.getfield 32, 3) := by decide +kernel
theorem dX10_worthOfBell_41 : decode cX10_worthOfBell 41 = .ok (.getfield 56, 3) := by decide +kernel
theorem dX10_worthOfBell_44 : decode cX10_worthOfBell 44 = .ok (.iload_n 3, 1) := by decide +kernel
theorem dX10_worthOfBell_45 : decode cX10_worthOfBell 45 = .ok (.aload_n 0, 1) := by decide +kernel
theorem dX10_worthOfBell_46 : decode cX10_worthOfBell 46 = .ok (.getfield 18, 3) := by decide +kernel
theorem dX10_worthOfBell_49 : decode cX10_worthOfBell 49 = .ok (.iload_n 3, 1) := by decide +kernel
theorem dX10_worthOfBell_50 : decode cX10_worthOfBell 50 = .ok (.iaload, 1) := by decide +kernel
theorem dX10_worthOfBell_51 : decode cX10_worthOfBell 51 = .ok (.iload_n 1, 1) := by decide +kernel
theorem tw_1269 : (Jvm.Cond.methodLink "MarshBells$Trials" (129 : Nat) ({ cls := "java/lang/Math", name := "min", desc := "(II)I" } : Jvm.MethodName)) ∈ lw_tbl := tk_6 (List.mem_of_getElem? (i := 69) rfl)
theorem lm_X10_129 : kLM RX10 129 Lib.Math.min.name Lib.Math.min.code := ⟨tw_1269, tw_650, tw_18, tw_651⟩
theorem dX10_worthOfBell_52 : decode cX10_worthOfBell 52 = .ok (.invokestatic 129, 3) := by decide +kernel
theorem dX10_worthOfBell_55 : decode cX10_worthOfBell 55 = .ok (.iastore, 1) := by decide +kernel
theorem dX10_worthOfBell_56 : decode cX10_worthOfBell 56 = .ok (.iinc 3 1, 3) := by decide +kernel
theorem dX10_worthOfBell_59 : decode cX10_worthOfBell 59 = .ok (.goto (-30), 3) := by decide +kernel
theorem dX10_findBeginners_0 : decode cX10_findBeginners 0 = .ok (.aload_n 0, 1) := by decide +kernel
theorem dX10_findBeginners_1 : decode cX10_findBeginners 1 = .ok (.iconst 0, 1) := by decide +kernel
theorem tw_373 : (Jvm.Cond.fieldLink "MarshBells$Trials" (134 : Nat) "MarshBells$Trials" "fitting" "I") ∈ lw_tbl := tk_2 (List.mem_of_getElem? (i := 133) rfl)
theorem fl_X10_134 : kFL RX10 134 10 7 4 := ⟨RX10, TX10, rfl, by decide, inWX10, tw_373⟩
theorem ft_X10_4 : kFT 10 4 .int false RX10 := ⟨RX10, TX10, 7, tyX10, rfl, tyX10_ok, nmX10, rfl, by decide +kernel, rfl⟩
theorem dX10_findBeginners_2 : decode cX10_findBeginners 2 = .ok (.putfield 134, 3) := by decide +kernel
theorem dX10_findBeginners_5 : decode cX10_findBeginners 5 = .ok (.aload_n 0, 1) := by decide +kernel
theorem dX10_findBeginners_6 : decode cX10_findBeginners 6 = .ok (.iconst (-1), 1) := by decide +kernel
theorem tw_375 : (Jvm.Cond.fieldLink "MarshBells$Trials" (137 : Nat) "MarshBells$Trials" "firstFitting" "I") ∈ lw_tbl := tk_2 (List.mem_of_getElem? (i := 135) rfl)
theorem fl_X10_137 : kFL RX10 137 10 7 5 := ⟨RX10, TX10, rfl, by decide, inWX10, tw_375⟩
theorem ft_X10_5 : kFT 10 5 .int false RX10 := ⟨RX10, TX10, 7, tyX10, rfl, tyX10_ok, nmX10, rfl, by decide +kernel, rfl⟩
theorem dX10_findBeginners_7 : decode cX10_findBeginners 7 = .ok (.putfield 137, 3) := by decide +kernel
theorem dX10_findBeginners_10 : decode cX10_findBeginners 10 = .ok (.aload_n 0, 1) := by decide +kernel
theorem dX10_findBeginners_11 : decode cX10_findBeginners 11 = .ok (.iconst (-1), 1) := by decide +kernel
theorem tw_377 : (Jvm.Cond.fieldLink "MarshBells$Trials" (140 : Nat) "MarshBells$Trials" "surely" "I") ∈ lw_tbl := tk_2 (List.mem_of_getElem? (i := 137) rfl)
theorem fl_X10_140 : kFL RX10 140 10 7 6 := ⟨RX10, TX10, rfl, by decide, inWX10, tw_377⟩
theorem ft_X10_6 : kFT 10 6 .int false RX10 := ⟨RX10, TX10, 7, tyX10, rfl, tyX10_ok, nmX10, rfl, by decide +kernel, rfl⟩
theorem dX10_findBeginners_12 : decode cX10_findBeginners 12 = .ok (.putfield 140, 3) := by decide +kernel
theorem dX10_findBeginners_15 : decode cX10_findBeginners 15 = .ok (.iconst 0, 1) := by decide +kernel
theorem dX10_findBeginners_16 : decode cX10_findBeginners 16 = .ok (.istore_n 1, 1) := by decide +kernel
theorem dX10_findBeginners_17 : decode cX10_findBeginners 17 = .ok (.iload_n 1, 1) := by decide +kernel
theorem dX10_findBeginners_18 : decode cX10_findBeginners 18 = .ok (.aload_n 0, 1) := by decide +kernel
theorem dX10_findBeginners_19 : decode cX10_findBeginners 19 = .ok (.invokevirtual 64, 3) := by decide +kernel
theorem dX10_findBeginners_22 : decode cX10_findBeginners 22 = .ok (.if_icmp .ge 82, 3) := by decide +kernel
theorem dX10_findBeginners_104 : decode cX10_findBeginners 104 = .ok (.return_, 1) := by decide +kernel
theorem dX10_findBeginners_25 : decode cX10_findBeginners 25 = .ok (.aload_n 0, 1) := by decide +kernel
theorem dX10_findBeginners_26 : decode cX10_findBeginners 26 = .ok (.getfield 22, 3) := by decide +kernel
theorem dX10_findBeginners_29 : decode cX10_findBeginners 29 = .ok (.iconst 0, 1) := by decide +kernel
theorem dX10_findBeginners_30 : decode cX10_findBeginners 30 = .ok (.invokevirtual 43, 3) := by decide +kernel
theorem dX10_findBeginners_33 : decode cX10_findBeginners 33 = .ok (.aload_n 0, 1) := by decide +kernel
theorem dX10_findBeginners_34 : decode cX10_findBeginners 34 = .ok (.getfield 32, 3) := by decide +kernel
theorem dX10_findBeginners_37 : decode cX10_findBeginners 37 = .ok (.getfield 56, 3) := by decide +kernel
theorem dX10_findBeginners_40 : decode cX10_findBeginners 40 = .ok (.iload_n 1, 1) := by decide +kernel
theorem dX10_findBeginners_41 : decode cX10_findBeginners 41 = .ok (.iaload, 1) := by decide +kernel
theorem dX10_findBeginners_42 : decode cX10_findBeginners 42 = .ok (.istore_n 2, 1) := by decide +kernel
theorem dX10_findBeginners_43 : decode cX10_findBeginners 43 = .ok (.iconst 0, 1) := by decide +kernel
theorem dX10_findBeginners_44 : decode cX10_findBeginners 44 = .ok (.istore_n 3, 1) := by decide +kernel
theorem dX10_findBeginners_45 : decode cX10_findBeginners 45 = .ok (.iload_n 3, 1) := by decide +kernel
theorem dX10_findBeginners_46 : decode cX10_findBeginners 46 = .ok (.bipush 30, 2) := by decide +kernel
theorem dX10_findBeginners_48 : decode cX10_findBeginners 48 = .ok (.if_icmp .gt 40, 3) := by decide +kernel
theorem dX10_findBeginners_51 : decode cX10_findBeginners 51 = .ok (.aload_n 0, 1) := by decide +kernel
theorem dX10_findBeginners_52 : decode cX10_findBeginners 52 = .ok (.getfield 32, 3) := by decide +kernel
theorem dX10_findBeginners_55 : decode cX10_findBeginners 55 = .ok (.getfield 56, 3) := by decide +kernel
theorem dX10_findBeginners_58 : decode cX10_findBeginners 58 = .ok (.iload_n 1, 1) := by decide +kernel
theorem dX10_findBeginners_59 : decode cX10_findBeginners 59 = .ok (.iload_n 3, 1) := by decide +kernel
theorem dX10_findBeginners_60 : decode cX10_findBeginners 60 = .ok (.iastore, 1) := by decide +kernel
theorem dX10_findBeginners_61 : decode cX10_findBeginners 61 = .ok (.aload_n 0, 1) := by decide +kernel
theorem dX10_findBeginners_62 : decode cX10_findBeginners 62 = .ok (.getfield 22, 3) := by decide +kernel
theorem dX10_findBeginners_65 : decode cX10_findBeginners 65 = .ok (.iload_n 1, 1) := by decide +kernel
theorem dX10_findBeginners_66 : decode cX10_findBeginners 66 = .ok (.invokevirtual 43, 3) := by decide +kernel
theorem dX10_findBeginners_69 : decode cX10_findBeginners 69 = .ok (.aload_n 0, 1) := by decide +kernel
theorem tw_1292 : (Jvm.Cond.methodLink "MarshBells$Trials" (143 : Nat) ({ cls := "MarshBells$Trials", name := "isAsSeen", desc := "()Z" } : Jvm.MethodName)) ∈ lw_tbl := tk_6 (List.mem_of_getElem? (i := 92) rfl)
theorem tw_1295 : (Jvm.Cond.code ({ cls := "MarshBells$Trials", name := "isAsSeen", desc := "()Z" } : Jvm.MethodName) prog_12_method_19_code (2 : Nat) (Option.some Jvm.ClassFile.FieldType.boolean)) ∈ lw_tbl := tk_6 (List.mem_of_getElem? (i := 95) rfl)
theorem tw_1294 : (Jvm.Cond.instanceMethod ({ cls := "MarshBells$Trials", name := "isAsSeen", desc := "()Z" } : Jvm.MethodName)) ∈ lw_tbl := tk_6 (List.mem_of_getElem? (i := 94) rfl)
theorem se_X10_isAsSeen : Cond.selects RX10 yX10_isAsSeen yX10_isAsSeen ∈ lw_tbl := List.mem_append_left _ (List.mem_of_getElem? (i := 92) rfl)
theorem li_X10_143 : kLV RX10 143 RX10 yX10_isAsSeen cX10_isAsSeen 2 (some .boolean) 0 := ⟨tw_1292, tw_1294, se_X10_isAsSeen, tw_1295, tw_8, by decide +kernel⟩
theorem dX10_isAsSeen_0 : decode cX10_isAsSeen 0 = .ok (.iconst 0, 1) := by decide +kernel
theorem dX10_isAsSeen_1 : decode cX10_isAsSeen 1 = .ok (.istore_n 1, 1) := by decide +kernel
theorem dX10_isAsSeen_2 : decode cX10_isAsSeen 2 = .ok (.iload_n 1, 1) := by decide +kernel
theorem dX10_isAsSeen_3 : decode cX10_isAsSeen 3 = .ok (.aload_n 0, 1) := by decide +kernel
theorem dX10_isAsSeen_4 : decode cX10_isAsSeen 4 = .ok (.getfield 32, 3) := by decide +kernel
theorem tw_262 : (Jvm.Cond.fieldLinkNest "MarshBells$Trials" (150 : Nat) "MarshBells$Held" "seen" "I" "MarshBells") ∈ lw_tbl := tk_2 (List.mem_of_getElem? (i := 22) rfl)
theorem fl_X10_150 : kFN RX10 150 3 12 10 := ⟨RX3, TX3, rfl, by decide, inWX3, tw_262⟩
theorem dX10_isAsSeen_7 : decode cX10_isAsSeen 7 = .ok (.getfield 150, 3) := by decide +kernel
theorem dX10_isAsSeen_10 : decode cX10_isAsSeen 10 = .ok (.if_icmp .ge 39, 3) := by decide +kernel
theorem dX10_isAsSeen_49 : decode cX10_isAsSeen 49 = .ok (.iconst 1, 1) := by decide +kernel
theorem dX10_isAsSeen_50 : decode cX10_isAsSeen 50 = .ok (.ireturn, 1) := by decide +kernel
theorem dX10_isAsSeen_13 : decode cX10_isAsSeen 13 = .ok (.aload_n 0, 1) := by decide +kernel
theorem dX10_isAsSeen_14 : decode cX10_isAsSeen 14 = .ok (.getfield 22, 3) := by decide +kernel
theorem dX10_isAsSeen_17 : decode cX10_isAsSeen 17 = .ok (.aload_n 0, 1) := by decide +kernel
theorem dX10_isAsSeen_18 : decode cX10_isAsSeen 18 = .ok (.getfield 32, 3) := by decide +kernel
theorem tw_255 : (Jvm.Cond.fieldLinkNest "MarshBells$Trials" (153 : Nat) "MarshBells$Held" "seenLessons" "[I" "MarshBells") ∈ lw_tbl := tk_2 (List.mem_of_getElem? (i := 15) rfl)
theorem fl_X10_153 : kFN RX10 153 3 12 7 := ⟨RX3, TX3, rfl, by decide, inWX3, tw_255⟩
theorem dX10_isAsSeen_21 : decode cX10_isAsSeen 21 = .ok (.getfield 153, 3) := by decide +kernel
theorem dX10_isAsSeen_24 : decode cX10_isAsSeen 24 = .ok (.iload_n 1, 1) := by decide +kernel
theorem dX10_isAsSeen_25 : decode cX10_isAsSeen 25 = .ok (.iaload, 1) := by decide +kernel
theorem tw_1296 : (Jvm.Cond.methodLinkNest "MarshBells$Trials" (156 : Nat) ({ cls := "MarshBells$Day", name := "late", desc := "(I)I" } : Jvm.MethodName) "MarshBells") ∈ lw_tbl := tk_6 (List.mem_of_getElem? (i := 96) rfl)
theorem li_X10_156 : kLN RX10 156 RX1 yX1_late "MarshBells" cX1_late 2 (some .int) 1 := ⟨tw_1296, tw_658, se_X1_late, tw_659, tw_7, by decide +kernel⟩
theorem dX10_isAsSeen_26 : decode cX10_isAsSeen 26 = .ok (.invokevirtual 156, 3) := by decide +kernel
theorem dX10_isAsSeen_29 : decode cX10_isAsSeen 29 = .ok (.aload_n 0, 1) := by decide +kernel
theorem dX10_isAsSeen_30 : decode cX10_isAsSeen 30 = .ok (.getfield 32, 3) := by decide +kernel
theorem tw_257 : (Jvm.Cond.fieldLinkNest "MarshBells$Trials" (159 : Nat) "MarshBells$Held" "seenLates" "[I" "MarshBells") ∈ lw_tbl := tk_2 (List.mem_of_getElem? (i := 17) rfl)
theorem fl_X10_159 : kFN RX10 159 3 12 8 := ⟨RX3, TX3, rfl, by decide, inWX3, tw_257⟩
theorem dX10_isAsSeen_33 : decode cX10_isAsSeen 33 = .ok (.getfield 159, 3) := by decide +kernel
theorem dX10_isAsSeen_36 : decode cX10_isAsSeen 36 = .ok (.iload_n 1, 1) := by decide +kernel
theorem dX10_isAsSeen_37 : decode cX10_isAsSeen 37 = .ok (.iaload, 1) := by decide +kernel
theorem dX10_isAsSeen_38 : decode cX10_isAsSeen 38 = .ok (.if_icmp .eq 5, 3) := by decide +kernel
theorem dX10_isAsSeen_43 : decode cX10_isAsSeen 43 = .ok (.iinc 1 1, 3) := by decide +kernel
theorem dX10_isAsSeen_46 : decode cX10_isAsSeen 46 = .ok (.goto (-44), 3) := by decide +kernel
theorem dX10_isAsSeen_41 : decode cX10_isAsSeen 41 = .ok (.iconst 0, 1) := by decide +kernel
theorem dX10_isAsSeen_42 : decode cX10_isAsSeen 42 = .ok (.ireturn, 1) := by decide +kernel
theorem dX10_findBeginners_70 : decode cX10_findBeginners 70 = .ok (.invokevirtual 143, 3) := by decide +kernel
theorem dX10_findBeginners_73 : decode cX10_findBeginners 73 = .ok (.ifCond .eq 9, 3) := by decide +kernel
theorem dX10_findBeginners_76 : decode cX10_findBeginners 76 = .ok (.aload_n 0, 1) := by decide +kernel
theorem dX10_findBeginners_77 : decode cX10_findBeginners 77 = .ok (.iload_n 1, 1) := by decide +kernel
theorem dX10_findBeginners_78 : decode cX10_findBeginners 78 = .ok (.iload_n 3, 1) := by decide +kernel
theorem tw_1297 : (Jvm.Cond.methodLink "MarshBells$Trials" (147 : Nat) ({ cls := "MarshBells$Trials", name := "addBeginner", desc := "(II)V" } : Jvm.MethodName)) ∈ lw_tbl := tk_6 (List.mem_of_getElem? (i := 97) rfl)
theorem tw_1300 : (Jvm.Cond.code ({ cls := "MarshBells$Trials", name := "addBeginner", desc := "(II)V" } : Jvm.MethodName) prog_12_method_20_code (3 : Nat) (Option.none : Option Jvm.ClassFile.FieldType)) ∈ lw_tbl := tk_6 (List.mem_of_getElem? (i := 100) rfl)
theorem tw_1299 : (Jvm.Cond.instanceMethod ({ cls := "MarshBells$Trials", name := "addBeginner", desc := "(II)V" } : Jvm.MethodName)) ∈ lw_tbl := tk_6 (List.mem_of_getElem? (i := 99) rfl)
theorem se_X10_addBeginner : Cond.selects RX10 yX10_addBeginner yX10_addBeginner ∈ lw_tbl := List.mem_append_left _ (List.mem_of_getElem? (i := 93) rfl)
theorem li_X10_147 : kLV RX10 147 RX10 yX10_addBeginner cX10_addBeginner 3 none 2 := ⟨tw_1297, tw_1299, se_X10_addBeginner, tw_1300, tw_8, by decide +kernel⟩
theorem dX10_addBeginner_0 : decode cX10_addBeginner 0 = .ok (.aload_n 0, 1) := by decide +kernel
theorem dX10_addBeginner_1 : decode cX10_addBeginner 1 = .ok (.getfield 134, 3) := by decide +kernel
theorem dX10_addBeginner_4 : decode cX10_addBeginner 4 = .ok (.ifCond .ne 21, 3) := by decide +kernel
theorem dX10_addBeginner_25 : decode cX10_addBeginner 25 = .ok (.aload_n 0, 1) := by decide +kernel
theorem dX10_addBeginner_26 : decode cX10_addBeginner 26 = .ok (.getfield 140, 3) := by decide +kernel
theorem dX10_addBeginner_29 : decode cX10_addBeginner 29 = .ok (.iload_n 1, 1) := by decide +kernel
theorem dX10_addBeginner_30 : decode cX10_addBeginner 30 = .ok (.if_icmp .eq 8, 3) := by decide +kernel
theorem dX10_addBeginner_33 : decode cX10_addBeginner 33 = .ok (.aload_n 0, 1) := by decide +kernel
theorem dX10_addBeginner_34 : decode cX10_addBeginner 34 = .ok (.iconst (-1), 1) := by decide +kernel
theorem dX10_addBeginner_35 : decode cX10_addBeginner 35 = .ok (.putfield 140, 3) := by decide +kernel
theorem dX10_addBeginner_7 : decode cX10_addBeginner 7 = .ok (.aload_n 0, 1) := by decide +kernel
theorem dX10_addBeginner_8 : decode cX10_addBeginner 8 = .ok (.bipush 100, 2) := by decide +kernel
theorem dX10_addBeginner_10 : decode cX10_addBeginner 10 = .ok (.iload_n 1, 1) := by decide +kernel
theorem dX10_addBeginner_11 : decode cX10_addBeginner 11 = .ok (.imul, 1) := by decide +kernel
theorem dX10_addBeginner_12 : decode cX10_addBeginner 12 = .ok (.iload_n 2, 1) := by decide +kernel
theorem dX10_addBeginner_13 : decode cX10_addBeginner 13 = .ok (.iadd, 1) := by decide +kernel
theorem dX10_addBeginner_14 : decode cX10_addBeginner 14 = .ok (.putfield 137, 3) := by decide +kernel
theorem dX10_addBeginner_17 : decode cX10_addBeginner 17 = .ok (.aload_n 0, 1) := by decide +kernel
theorem dX10_addBeginner_18 : decode cX10_addBeginner 18 = .ok (.iload_n 1, 1) := by decide +kernel
theorem dX10_addBeginner_19 : decode cX10_addBeginner 19 = .ok (.putfield 140, 3) := by decide +kernel
theorem dX10_addBeginner_22 : decode cX10_addBeginner 22 = .ok (.goto 16, 3) := by decide +kernel
theorem dX10_addBeginner_38 : decode cX10_addBeginner 38 = .ok (.aload_n 0, 1) := by decide +kernel
theorem dX10_addBeginner_39 : decode cX10_addBeginner 39 = .ok (.dup, 1) := by decide +kernel
theorem dX10_addBeginner_40 : decode cX10_addBeginner 40 = .ok (.getfield 134, 3) := by decide +kernel
theorem dX10_addBeginner_43 : decode cX10_addBeginner 43 = .ok (.iconst 1, 1) := by decide +kernel
theorem dX10_addBeginner_44 : decode cX10_addBeginner 44 = .ok (.iadd, 1) := by decide +kernel
theorem dX10_addBeginner_45 : decode cX10_addBeginner 45 = .ok (.putfield 134, 3) := by decide +kernel
theorem dX10_addBeginner_48 : decode cX10_addBeginner 48 = .ok (.return_, 1) := by decide +kernel
theorem dX10_findBeginners_79 : decode cX10_findBeginners 79 = .ok (.invokevirtual 147, 3) := by decide +kernel
theorem dX10_findBeginners_82 : decode cX10_findBeginners 82 = .ok (.iinc 3 1, 3) := by decide +kernel
theorem dX10_findBeginners_85 : decode cX10_findBeginners 85 = .ok (.goto (-40), 3) := by decide +kernel
theorem dX10_findBeginners_88 : decode cX10_findBeginners 88 = .ok (.aload_n 0, 1) := by decide +kernel
theorem dX10_findBeginners_89 : decode cX10_findBeginners 89 = .ok (.getfield 32, 3) := by decide +kernel
theorem dX10_findBeginners_92 : decode cX10_findBeginners 92 = .ok (.getfield 56, 3) := by decide +kernel
theorem dX10_findBeginners_95 : decode cX10_findBeginners 95 = .ok (.iload_n 1, 1) := by decide +kernel
theorem dX10_findBeginners_96 : decode cX10_findBeginners 96 = .ok (.iload_n 2, 1) := by decide +kernel
theorem dX10_findBeginners_97 : decode cX10_findBeginners 97 = .ok (.iastore, 1) := by decide +kernel
theorem dX10_findBeginners_98 : decode cX10_findBeginners 98 = .ok (.iinc 1 1, 3) := by decide +kernel
theorem dX10_findBeginners_101 : decode cX10_findBeginners 101 = .ok (.goto (-84), 3) := by decide +kernel
theorem dX10_leastByShift_0 : decode cX10_leastByShift 0 = .ok (.aload_n 0, 1) := by decide +kernel
theorem dX10_leastByShift_1 : decode cX10_leastByShift 1 = .ok (.getfield 22, 3) := by decide +kernel
theorem dX10_leastByShift_4 : decode cX10_leastByShift 4 = .ok (.getfield 33, 3) := by decide +kernel
theorem tw_155 : (Jvm.Cond.fieldLinkNest "MarshBells$Trials" (162 : Nat) "MarshBells$Plan" "lessons" "[LMarshBells$Lesson;" "MarshBells") ∈ lw_tbl := tk_1 (List.mem_of_getElem? (i := 155) rfl)
theorem fl_X10_162 : kFN RX10 162 7 5 0 := ⟨RX7, TX7, rfl, by decide, inWX7, tw_155⟩
theorem dX10_leastByShift_7 : decode cX10_leastByShift 7 = .ok (.getfield 162, 3) := by decide +kernel
theorem dX10_leastByShift_10 : decode cX10_leastByShift 10 = .ok (.iload_n 1, 1) := by decide +kernel
theorem dX10_leastByShift_11 : decode cX10_leastByShift 11 = .ok (.aaload, 1) := by decide +kernel
theorem dX10_leastByShift_12 : decode cX10_leastByShift 12 = .ok (.astore_n 3, 1) := by decide +kernel
theorem dX10_leastByShift_13 : decode cX10_leastByShift 13 = .ok (.aload_n 3, 1) := by decide +kernel
theorem tw_87 : (Jvm.Cond.fieldLinkNest "MarshBells$Trials" (166 : Nat) "MarshBells$Lesson" "from" "I" "MarshBells") ∈ lw_tbl := tk_1 (List.mem_of_getElem? (i := 87) rfl)
theorem fl_X10_166 : kFN RX10 166 5 14 3 := ⟨RX5, TX5, rfl, by decide, inWX5, tw_87⟩
theorem dX10_leastByShift_14 : decode cX10_leastByShift 14 = .ok (.getfield 166, 3) := by decide +kernel
theorem dX10_leastByShift_17 : decode cX10_leastByShift 17 = .ok (.istore 4, 2) := by decide +kernel
theorem dX10_leastByShift_19 : decode cX10_leastByShift 19 = .ok (.aload_n 3, 1) := by decide +kernel
theorem tw_91 : (Jvm.Cond.fieldLinkNest "MarshBells$Trials" (171 : Nat) "MarshBells$Lesson" "to" "I" "MarshBells") ∈ lw_tbl := tk_1 (List.mem_of_getElem? (i := 91) rfl)
theorem fl_X10_171 : kFN RX10 171 5 14 4 := ⟨RX5, TX5, rfl, by decide, inWX5, tw_91⟩
theorem dX10_leastByShift_20 : decode cX10_leastByShift 20 = .ok (.getfield 171, 3) := by decide +kernel
theorem dX10_leastByShift_23 : decode cX10_leastByShift 23 = .ok (.istore 5, 2) := by decide +kernel
theorem dX10_leastByShift_25 : decode cX10_leastByShift 25 = .ok (.aload_n 0, 1) := by decide +kernel
theorem dX10_leastByShift_26 : decode cX10_leastByShift 26 = .ok (.getfield 22, 3) := by decide +kernel
theorem dX10_leastByShift_29 : decode cX10_leastByShift 29 = .ok (.iconst 0, 1) := by decide +kernel
theorem dX10_leastByShift_30 : decode cX10_leastByShift 30 = .ok (.invokevirtual 43, 3) := by decide +kernel
theorem dX10_leastByShift_33 : decode cX10_leastByShift 33 = .ok (.aload_n 0, 1) := by decide +kernel
theorem dX10_leastByShift_34 : decode cX10_leastByShift 34 = .ok (.getfield 12, 3) := by decide +kernel
theorem dX10_leastByShift_37 : decode cX10_leastByShift 37 = .ok (.invokevirtual 81, 3) := by decide +kernel
theorem dX10_leastByShift_40 : decode cX10_leastByShift 40 = .ok (.bipush (-20), 2) := by decide +kernel
theorem dX10_leastByShift_42 : decode cX10_leastByShift 42 = .ok (.istore 6, 2) := by decide +kernel
theorem dX10_leastByShift_44 : decode cX10_leastByShift 44 = .ok (.iload 6, 2) := by decide +kernel
theorem dX10_leastByShift_46 : decode cX10_leastByShift 46 = .ok (.bipush 20, 2) := by decide +kernel
theorem dX10_leastByShift_48 : decode cX10_leastByShift 48 = .ok (.if_icmp .gt 63, 3) := by decide +kernel
theorem dX10_leastByShift_51 : decode cX10_leastByShift 51 = .ok (.iload 4, 2) := by decide +kernel
theorem dX10_leastByShift_53 : decode cX10_leastByShift 53 = .ok (.iload 6, 2) := by decide +kernel
theorem dX10_leastByShift_55 : decode cX10_leastByShift 55 = .ok (.iadd, 1) := by decide +kernel
theorem dX10_leastByShift_56 : decode cX10_leastByShift 56 = .ok (.ifCond .lt 49, 3) := by decide +kernel
theorem dX10_leastByShift_59 : decode cX10_leastByShift 59 = .ok (.iload 5, 2) := by decide +kernel
theorem dX10_leastByShift_61 : decode cX10_leastByShift 61 = .ok (.iload 6, 2) := by decide +kernel
theorem dX10_leastByShift_63 : decode cX10_leastByShift 63 = .ok (.iadd, 1) := by decide +kernel
theorem dX10_leastByShift_64 : decode cX10_leastByShift 64 = .ok (.sipush 999, 3) := by decide +kernel
theorem dX10_leastByShift_67 : decode cX10_leastByShift 67 = .ok (.if_icmp .gt 38, 3) := by decide +kernel
theorem dX10_leastByShift_70 : decode cX10_leastByShift 70 = .ok (.aload_n 3, 1) := by decide +kernel
theorem dX10_leastByShift_71 : decode cX10_leastByShift 71 = .ok (.iload 4, 2) := by decide +kernel
theorem dX10_leastByShift_73 : decode cX10_leastByShift 73 = .ok (.iload 6, 2) := by decide +kernel
theorem dX10_leastByShift_75 : decode cX10_leastByShift 75 = .ok (.iadd, 1) := by decide +kernel
theorem ft_X5_3 : kFT 5 3 .int false RX5 := ⟨RX5, TX5, 14, tyX5, rfl, tyX5_ok, nmX5, rfl, by decide +kernel, rfl⟩
theorem dX10_leastByShift_76 : decode cX10_leastByShift 76 = .ok (.putfield 166, 3) := by decide +kernel
theorem dX10_leastByShift_79 : decode cX10_leastByShift 79 = .ok (.aload_n 3, 1) := by decide +kernel
theorem dX10_leastByShift_80 : decode cX10_leastByShift 80 = .ok (.iload 5, 2) := by decide +kernel
theorem dX10_leastByShift_82 : decode cX10_leastByShift 82 = .ok (.iload 6, 2) := by decide +kernel
theorem dX10_leastByShift_84 : decode cX10_leastByShift 84 = .ok (.iadd, 1) := by decide +kernel
theorem ft_X5_4 : kFT 5 4 .int false RX5 := ⟨RX5, TX5, 14, tyX5, rfl, tyX5_ok, nmX5, rfl, by decide +kernel, rfl⟩
theorem dX10_leastByShift_85 : decode cX10_leastByShift 85 = .ok (.putfield 171, 3) := by decide +kernel
theorem dX10_leastByShift_88 : decode cX10_leastByShift 88 = .ok (.aload_n 0, 1) := by decide +kernel
theorem dX10_leastByShift_89 : decode cX10_leastByShift 89 = .ok (.getfield 12, 3) := by decide +kernel
theorem dX10_leastByShift_92 : decode cX10_leastByShift 92 = .ok (.iload 6, 2) := by decide +kernel
theorem dX10_leastByShift_94 : decode cX10_leastByShift 94 = .ok (.aload_n 0, 1) := by decide +kernel
theorem dX10_leastByShift_95 : decode cX10_leastByShift 95 = .ok (.getfield 22, 3) := by decide +kernel
theorem dX10_leastByShift_98 : decode cX10_leastByShift 98 = .ok (.iload_n 1, 1) := by decide +kernel
theorem dX10_leastByShift_99 : decode cX10_leastByShift 99 = .ok (.invokevirtual 77, 3) := by decide +kernel
theorem dX10_leastByShift_102 : decode cX10_leastByShift 102 = .ok (.invokevirtual 87, 3) := by decide +kernel
theorem dX10_leastByShift_105 : decode cX10_leastByShift 105 = .ok (.iinc 6 1, 3) := by decide +kernel
theorem dX10_leastByShift_108 : decode cX10_leastByShift 108 = .ok (.goto (-64), 3) := by decide +kernel
theorem dX10_leastByShift_111 : decode cX10_leastByShift 111 = .ok (.aload_n 3, 1) := by decide +kernel
theorem dX10_leastByShift_112 : decode cX10_leastByShift 112 = .ok (.iload 4, 2) := by decide +kernel
theorem dX10_leastByShift_114 : decode cX10_leastByShift 114 = .ok (.putfield 166, 3) := by decide +kernel
theorem dX10_leastByShift_117 : decode cX10_leastByShift 117 = .ok (.aload_n 3, 1) := by decide +kernel
theorem dX10_leastByShift_118 : decode cX10_leastByShift 118 = .ok (.iload 5, 2) := by decide +kernel
theorem dX10_leastByShift_120 : decode cX10_leastByShift 120 = .ok (.putfield 171, 3) := by decide +kernel
theorem dX10_leastByShift_123 : decode cX10_leastByShift 123 = .ok (.aload_n 0, 1) := by decide +kernel
theorem dX10_leastByShift_124 : decode cX10_leastByShift 124 = .ok (.getfield 12, 3) := by decide +kernel
theorem dX10_leastByShift_127 : decode cX10_leastByShift 127 = .ok (.iload_n 2, 1) := by decide +kernel
theorem dX10_leastByShift_128 : decode cX10_leastByShift 128 = .ok (.invokevirtual 97, 3) := by decide +kernel
theorem dX10_leastByShift_131 : decode cX10_leastByShift 131 = .ok (.ireturn, 1) := by decide +kernel
theorem dX10_harmDone_0 : decode cX10_harmDone 0 = .ok (.aload_n 0, 1) := by decide +kernel
theorem dX10_harmDone_1 : decode cX10_harmDone 1 = .ok (.getfield 22, 3) := by decide +kernel
theorem dX10_harmDone_4 : decode cX10_harmDone 4 = .ok (.iconst 0, 1) := by decide +kernel
theorem dX10_harmDone_5 : decode cX10_harmDone 5 = .ok (.invokevirtual 43, 3) := by decide +kernel
theorem dX10_harmDone_8 : decode cX10_harmDone 8 = .ok (.aload_n 0, 1) := by decide +kernel
theorem dX10_harmDone_9 : decode cX10_harmDone 9 = .ok (.getfield 22, 3) := by decide +kernel
theorem dX10_harmDone_12 : decode cX10_harmDone 12 = .ok (.iload_n 2, 1) := by decide +kernel
theorem dX10_harmDone_13 : decode cX10_harmDone 13 = .ok (.invokevirtual 156, 3) := by decide +kernel
theorem dX10_harmDone_16 : decode cX10_harmDone 16 = .ok (.istore_n 3, 1) := by decide +kernel
theorem dX10_harmDone_17 : decode cX10_harmDone 17 = .ok (.aload_n 0, 1) := by decide +kernel
theorem dX10_harmDone_18 : decode cX10_harmDone 18 = .ok (.getfield 32, 3) := by decide +kernel
theorem dX10_harmDone_21 : decode cX10_harmDone 21 = .ok (.getfield 56, 3) := by decide +kernel
theorem dX10_harmDone_24 : decode cX10_harmDone 24 = .ok (.iload_n 1, 1) := by decide +kernel
theorem dX10_harmDone_25 : decode cX10_harmDone 25 = .ok (.iaload, 1) := by decide +kernel
theorem dX10_harmDone_26 : decode cX10_harmDone 26 = .ok (.istore 4, 2) := by decide +kernel
theorem dX10_harmDone_28 : decode cX10_harmDone 28 = .ok (.aload_n 0, 1) := by decide +kernel
theorem dX10_harmDone_29 : decode cX10_harmDone 29 = .ok (.getfield 32, 3) := by decide +kernel
theorem dX10_harmDone_32 : decode cX10_harmDone 32 = .ok (.getfield 56, 3) := by decide +kernel
theorem dX10_harmDone_35 : decode cX10_harmDone 35 = .ok (.iload_n 1, 1) := by decide +kernel
theorem dX10_harmDone_36 : decode cX10_harmDone 36 = .ok (.iconst 0, 1) := by decide +kernel
theorem dX10_harmDone_37 : decode cX10_harmDone 37 = .ok (.iastore, 1) := by decide +kernel
theorem dX10_harmDone_38 : decode cX10_harmDone 38 = .ok (.aload_n 0, 1) := by decide +kernel
theorem dX10_harmDone_39 : decode cX10_harmDone 39 = .ok (.getfield 22, 3) := by decide +kernel
theorem dX10_harmDone_42 : decode cX10_harmDone 42 = .ok (.iload_n 1, 1) := by decide +kernel
theorem dX10_harmDone_43 : decode cX10_harmDone 43 = .ok (.invokevirtual 43, 3) := by decide +kernel
theorem dX10_harmDone_46 : decode cX10_harmDone 46 = .ok (.aload_n 0, 1) := by decide +kernel
theorem dX10_harmDone_47 : decode cX10_harmDone 47 = .ok (.getfield 32, 3) := by decide +kernel
theorem dX10_harmDone_50 : decode cX10_harmDone 50 = .ok (.getfield 56, 3) := by decide +kernel
theorem dX10_harmDone_53 : decode cX10_harmDone 53 = .ok (.iload_n 1, 1) := by decide +kernel
theorem dX10_harmDone_54 : decode cX10_harmDone 54 = .ok (.iload 4, 2) := by decide +kernel
theorem dX10_harmDone_56 : decode cX10_harmDone 56 = .ok (.iastore, 1) := by decide +kernel
theorem dX10_harmDone_57 : decode cX10_harmDone 57 = .ok (.iload_n 3, 1) := by decide +kernel
theorem dX10_harmDone_58 : decode cX10_harmDone 58 = .ok (.aload_n 0, 1) := by decide +kernel
theorem dX10_harmDone_59 : decode cX10_harmDone 59 = .ok (.getfield 22, 3) := by decide +kernel
theorem dX10_harmDone_62 : decode cX10_harmDone 62 = .ok (.iload_n 2, 1) := by decide +kernel
theorem dX10_harmDone_63 : decode cX10_harmDone 63 = .ok (.invokevirtual 156, 3) := by decide +kernel
theorem dX10_harmDone_66 : decode cX10_harmDone 66 = .ok (.isub, 1) := by decide +kernel
theorem dX10_harmDone_67 : decode cX10_harmDone 67 = .ok (.ireturn, 1) := by decide +kernel
theorem dX10_leastByPause_0 : decode cX10_leastByPause 0 = .ok (.aload_n 0, 1) := by decide +kernel
theorem dX10_leastByPause_1 : decode cX10_leastByPause 1 = .ok (.getfield 12, 3) := by decide +kernel
theorem dX10_leastByPause_4 : decode cX10_leastByPause 4 = .ok (.invokevirtual 81, 3) := by decide +kernel
theorem dX10_leastByPause_7 : decode cX10_leastByPause 7 = .ok (.iconst 0, 1) := by decide +kernel
theorem dX10_leastByPause_8 : decode cX10_leastByPause 8 = .ok (.istore_n 3, 1) := by decide +kernel
theorem dX10_leastByPause_9 : decode cX10_leastByPause 9 = .ok (.iload_n 3, 1) := by decide +kernel
theorem dX10_leastByPause_10 : decode cX10_leastByPause 10 = .ok (.aload_n 0, 1) := by decide +kernel
theorem dX10_leastByPause_11 : decode cX10_leastByPause 11 = .ok (.invokevirtual 64, 3) := by decide +kernel
theorem dX10_leastByPause_14 : decode cX10_leastByPause 14 = .ok (.if_icmp .ge 58, 3) := by decide +kernel
theorem dX10_leastByPause_72 : decode cX10_leastByPause 72 = .ok (.aload_n 0, 1) := by decide +kernel
theorem dX10_leastByPause_73 : decode cX10_leastByPause 73 = .ok (.getfield 12, 3) := by decide +kernel
theorem dX10_leastByPause_76 : decode cX10_leastByPause 76 = .ok (.iload_n 2, 1) := by decide +kernel
theorem dX10_leastByPause_77 : decode cX10_leastByPause 77 = .ok (.invokevirtual 97, 3) := by decide +kernel
theorem dX10_leastByPause_80 : decode cX10_leastByPause 80 = .ok (.ireturn, 1) := by decide +kernel
theorem dX10_leastByPause_17 : decode cX10_leastByPause 17 = .ok (.aload_n 0, 1) := by decide +kernel
theorem dX10_leastByPause_18 : decode cX10_leastByPause 18 = .ok (.getfield 22, 3) := by decide +kernel
theorem dX10_leastByPause_21 : decode cX10_leastByPause 21 = .ok (.getfield 33, 3) := by decide +kernel
theorem dX10_leastByPause_24 : decode cX10_leastByPause 24 = .ok (.getfield 162, 3) := by decide +kernel
theorem dX10_leastByPause_27 : decode cX10_leastByPause 27 = .ok (.iload_n 3, 1) := by decide +kernel
theorem dX10_leastByPause_28 : decode cX10_leastByPause 28 = .ok (.aaload, 1) := by decide +kernel
theorem dX10_leastByPause_29 : decode cX10_leastByPause 29 = .ok (.getfield 166, 3) := by decide +kernel
theorem dX10_leastByPause_32 : decode cX10_leastByPause 32 = .ok (.istore 4, 2) := by decide +kernel
theorem dX10_leastByPause_34 : decode cX10_leastByPause 34 = .ok (.aload_n 0, 1) := by decide +kernel
theorem dX10_leastByPause_35 : decode cX10_leastByPause 35 = .ok (.iload 4, 2) := by decide +kernel
theorem dX10_leastByPause_37 : decode cX10_leastByPause 37 = .ok (.iload_n 1, 1) := by decide +kernel
theorem tw_1413 : (Jvm.Cond.methodLink "MarshBells$Trials" (174 : Nat) ({ cls := "MarshBells$Trials", name := "addGapFrom", desc := "(II)V" } : Jvm.MethodName)) ∈ lw_tbl := tk_6 (List.mem_of_getElem? (i := 213) rfl)
theorem tw_1416 : (Jvm.Cond.code ({ cls := "MarshBells$Trials", name := "addGapFrom", desc := "(II)V" } : Jvm.MethodName) prog_12_method_24_code (4 : Nat) (Option.none : Option Jvm.ClassFile.FieldType)) ∈ lw_tbl := tk_6 (List.mem_of_getElem? (i := 216) rfl)
theorem tw_1415 : (Jvm.Cond.instanceMethod ({ cls := "MarshBells$Trials", name := "addGapFrom", desc := "(II)V" } : Jvm.MethodName)) ∈ lw_tbl := tk_6 (List.mem_of_getElem? (i := 215) rfl)
theorem se_X10_addGapFrom : Cond.selects RX10 yX10_addGapFrom yX10_addGapFrom ∈ lw_tbl := List.mem_append_left _ (List.mem_of_getElem? (i := 107) rfl)
theorem li_X10_174 : kLV RX10 174 RX10 yX10_addGapFrom cX10_addGapFrom 4 none 2 := ⟨tw_1413, tw_1415, se_X10_addGapFrom, tw_1416, tw_8, by decide +kernel⟩
theorem dX10_addGapFrom_0 : decode cX10_addGapFrom 0 = .ok (.iconst 0, 1) := by decide +kernel
theorem dX10_addGapFrom_1 : decode cX10_addGapFrom 1 = .ok (.istore_n 3, 1) := by decide +kernel
theorem dX10_addGapFrom_2 : decode cX10_addGapFrom 2 = .ok (.iload_n 3, 1) := by decide +kernel
theorem dX10_addGapFrom_3 : decode cX10_addGapFrom 3 = .ok (.aload_n 0, 1) := by decide +kernel
theorem dX10_addGapFrom_4 : decode cX10_addGapFrom 4 = .ok (.invokevirtual 64, 3) := by decide +kernel
theorem dX10_addGapFrom_7 : decode cX10_addGapFrom 7 = .ok (.if_icmp .ge 41, 3) := by decide +kernel
theorem dX10_addGapFrom_48 : decode cX10_addGapFrom 48 = .ok (.return_, 1) := by decide +kernel
theorem dX10_addGapFrom_10 : decode cX10_addGapFrom 10 = .ok (.aload_n 0, 1) := by decide +kernel
theorem dX10_addGapFrom_11 : decode cX10_addGapFrom 11 = .ok (.getfield 22, 3) := by decide +kernel
theorem dX10_addGapFrom_14 : decode cX10_addGapFrom 14 = .ok (.getfield 33, 3) := by decide +kernel
theorem dX10_addGapFrom_17 : decode cX10_addGapFrom 17 = .ok (.getfield 162, 3) := by decide +kernel
theorem dX10_addGapFrom_20 : decode cX10_addGapFrom 20 = .ok (.iload_n 3, 1) := by decide +kernel
theorem dX10_addGapFrom_21 : decode cX10_addGapFrom 21 = .ok (.aaload, 1) := by decide +kernel
theorem dX10_addGapFrom_22 : decode cX10_addGapFrom 22 = .ok (.getfield 166, 3) := by decide +kernel
theorem dX10_addGapFrom_25 : decode cX10_addGapFrom 25 = .ok (.iload_n 1, 1) := by decide +kernel
theorem dX10_addGapFrom_26 : decode cX10_addGapFrom 26 = .ok (.if_icmp .lt 16, 3) := by decide +kernel
theorem dX10_addGapFrom_29 : decode cX10_addGapFrom 29 = .ok (.aload_n 0, 1) := by decide +kernel
theorem dX10_addGapFrom_30 : decode cX10_addGapFrom 30 = .ok (.getfield 32, 3) := by decide +kernel
theorem tw_244 : (Jvm.Cond.fieldLinkNest "MarshBells$Trials" (177 : Nat) "MarshBells$Held" "gaps" "[I" "MarshBells") ∈ lw_tbl := tk_2 (List.mem_of_getElem? (i := 4) rfl)
theorem fl_X10_177 : kFN RX10 177 3 12 1 := ⟨RX3, TX3, rfl, by decide, inWX3, tw_244⟩
theorem dX10_addGapFrom_33 : decode cX10_addGapFrom 33 = .ok (.getfield 177, 3) := by decide +kernel
theorem dX10_addGapFrom_36 : decode cX10_addGapFrom 36 = .ok (.iload_n 3, 1) := by decide +kernel
theorem dX10_addGapFrom_37 : decode cX10_addGapFrom 37 = .ok (.dup2, 1) := by decide +kernel
theorem dX10_addGapFrom_38 : decode cX10_addGapFrom 38 = .ok (.iaload, 1) := by decide +kernel
theorem dX10_addGapFrom_39 : decode cX10_addGapFrom 39 = .ok (.iload_n 2, 1) := by decide +kernel
theorem dX10_addGapFrom_40 : decode cX10_addGapFrom 40 = .ok (.iadd, 1) := by decide +kernel
theorem dX10_addGapFrom_41 : decode cX10_addGapFrom 41 = .ok (.iastore, 1) := by decide +kernel
theorem dX10_addGapFrom_42 : decode cX10_addGapFrom 42 = .ok (.iinc 3 1, 3) := by decide +kernel
theorem dX10_addGapFrom_45 : decode cX10_addGapFrom 45 = .ok (.goto (-43), 3) := by decide +kernel
theorem dX10_leastByPause_38 : decode cX10_leastByPause 38 = .ok (.invokevirtual 174, 3) := by decide +kernel
theorem dX10_leastByPause_41 : decode cX10_leastByPause 41 = .ok (.aload_n 0, 1) := by decide +kernel
theorem dX10_leastByPause_42 : decode cX10_leastByPause 42 = .ok (.getfield 12, 3) := by decide +kernel
theorem dX10_leastByPause_45 : decode cX10_leastByPause 45 = .ok (.iload 4, 2) := by decide +kernel
theorem dX10_leastByPause_47 : decode cX10_leastByPause 47 = .ok (.aload_n 0, 1) := by decide +kernel
theorem dX10_leastByPause_48 : decode cX10_leastByPause 48 = .ok (.getfield 22, 3) := by decide +kernel
theorem dX10_leastByPause_51 : decode cX10_leastByPause 51 = .ok (.iconst 0, 1) := by decide +kernel
theorem dX10_leastByPause_52 : decode cX10_leastByPause 52 = .ok (.invokevirtual 77, 3) := by decide +kernel
theorem dX10_leastByPause_55 : decode cX10_leastByPause 55 = .ok (.invokevirtual 87, 3) := by decide +kernel
theorem dX10_leastByPause_58 : decode cX10_leastByPause 58 = .ok (.aload_n 0, 1) := by decide +kernel
theorem dX10_leastByPause_59 : decode cX10_leastByPause 59 = .ok (.iload 4, 2) := by decide +kernel
theorem dX10_leastByPause_61 : decode cX10_leastByPause 61 = .ok (.iload_n 1, 1) := by decide +kernel
theorem dX10_leastByPause_62 : decode cX10_leastByPause 62 = .ok (.ineg, 1) := by decide +kernel
theorem dX10_leastByPause_63 : decode cX10_leastByPause 63 = .ok (.invokevirtual 174, 3) := by decide +kernel
theorem dX10_leastByPause_66 : decode cX10_leastByPause 66 = .ok (.iinc 3 1, 3) := by decide +kernel
theorem dX10_leastByPause_69 : decode cX10_leastByPause 69 = .ok (.goto (-60), 3) := by decide +kernel
set_option maxHeartbeats 4000000 in
set_option maxRecDepth 100000 in
theorem zX10_keepEnds_9 (l : Launch) (G : kG) (sz : Nat) (b : Nat) (a : Nat → Nat) (g0 : Nat → Nat → Int32) (L0 : Nat → Nat → Int64) (hI : zI XT g0) : kM l yX10_keepEnds cX10_keepEnds 1 none { frames := 11, cells := 0, slots := 0, locals := 225 } G [.ref (a 9)] (zw G (XS b) 105 a g0 L0) sz (kQv G (S := zS) (fun u => zI XT u.1 ∧ u.1 0 = g0 0) (fun u => zw G (XS b) 105 a u.1 u.2)) := by
  refine kM.of (by decide) (Nat.le_of_ble_eq_true rfl) ?_
  intro p e s m below meth c A ls H C hr hlk hnm hP hD hS hl
  have C : kC G p s m c cX10_keepEnds 1 RX10 A := C
  have hx := C.1
  have hb := C.2.1
  have hl : lv_has ls 1 [(0, .ref (a 9))] := hl
  have h0c : g0 0 = g0 0 := rfl
  obtain ⟨locs, hlocs⟩ : ∃ q : List Loc, q = [] := ⟨_, rfl⟩
  rw [← hlocs] at hS
  rw [← hlocs]
  refine lv_aload_n hx hb dX10_keepEnds_0 rfl (lv_at hl 0 rfl) ?_
  refine x_getr (Or.inl fl_X10_22) C hP (by decide) xs_9 rfl dX10_keepEnds_1 ?_
  refine lv_iconst (v := 0) hx hb dX10_keepEnds_4 (by decide) ?_
  refine x_callNv (rest := []) li_X10_43 C (zX1_runFrom_8 l G H.size b a g0 L0 hI 0 (by decide)) (kR rfl) hP hD hS 8 1 rfl (zat (by decide) xs_8) rfl hl.1 rfl (Nat.le_of_ble_eq_true rfl) dX10_keepEnds_5 (fun u3 H locs hw1 hP hD hS => ?_)
  obtain ⟨g, L⟩ := u3
  obtain ⟨hI, h0n⟩ := hw1
  have h0c : g 0 = g0 0 := h0n.trans h0c
  have hI : zI XT g := hI
  have hP : va_P G.1 vwCl (zw G (XS b) 105 a g L) H := hP
  have hD : va_D A (zw G (XS b) 105 a g L) := hD
  refine lv_aload_n hx hb dX10_keepEnds_8 rfl (lv_at hl 0 rfl) ?_
  refine x_getr (Or.inl fl_X10_22) C hP (by decide) xs_9 rfl dX10_keepEnds_9 ?_
  refine x_getr (Or.inr fl_X10_47) C hP (by decide) xs_8 rfl dX10_keepEnds_12 ?_
  refine lv_iconst (v := 0) hx hb dX10_keepEnds_15 (by decide) ?_
  refine lv_aload_n hx hb dX10_keepEnds_16 rfl (lv_at hl 0 rfl) ?_
  refine x_getr (Or.inl fl_X10_18) C hP (by decide) xs_9 rfl dX10_keepEnds_17 ?_
  refine lv_iconst (v := 0) hx hb dX10_keepEnds_20 (by decide) ?_
  refine lv_bipush (v := 12) hx hb dX10_keepEnds_21 (by decide) ?_
  refine x_copy (hI.cpy (fun _ _ => rfl)) lc_X10_50 C hl.1 hP hD hS (by decide) (by decide) xs_44 xs_49 (by decide) (by decide) (by decide) (by decide) (by decide) (Nat.le_of_ble_eq_true rfl) (Nat.le_of_ble_eq_true rfl) dX10_keepEnds_23 (fun g H locs eg hI hP hD hS => ?_)
  have h0c : g 0 = g0 0 := by rw [eg]; exact h0c
  exact x_vret C hr hlk hP hD hS (g, L) rfl ⟨hI, h0c⟩ (Nat.le_of_ble_eq_true rfl) (Nat.le_of_ble_eq_true rfl) dX10_keepEnds_26
set_option maxHeartbeats 4000000 in
set_option maxRecDepth 100000 in
theorem zX10_runMore_9 (l : Launch) (G : kG) (sz : Nat) (b : Nat) (a : Nat → Nat) (g0 : Nat → Nat → Int32) (L0 : Nat → Nat → Int64) (hI : zI XT g0) (p1 : Int32) (p2 : Int32) (hp1 : 0 ≤ p1.toInt ∧ p1.toInt ≤ 11) : kM l yX10_runMore cX10_runMore 4 none { frames := 11, cells := 0, slots := 0, locals := 225 } G [.ref (a 9), .int p1, .int p2] (zw G (XS b) 105 a g0 L0) sz (kQv G (S := zS) (fun u => zI XT u.1 ∧ u.1 0 = g0 0) (fun u => zw G (XS b) 105 a u.1 u.2)) := by
  refine kM.of (by decide) (Nat.le_of_ble_eq_true rfl) ?_
  intro p e s m below meth c A ls H C hr hlk hnm hP hD hS hl
  have C : kC G p s m c cX10_runMore 4 RX10 A := C
  have hx := C.1
  have hb := C.2.1
  have hl : lv_has ls 4 [(0, .ref (a 9)), (1, .int p1), (2, .int p2)] := hl
  have h0c : g0 0 = g0 0 := rfl
  obtain ⟨locs, hlocs⟩ : ∃ q : List Loc, q = [] := ⟨_, rfl⟩
  rw [← hlocs] at hS
  rw [← hlocs]
  refine lv_aload_n hx hb dX10_runMore_0 rfl (lv_at hl 0 rfl) ?_
  refine x_getr (Or.inl fl_X10_32) C hP (by decide) xs_9 rfl dX10_runMore_1 ?_
  refine x_getr (Or.inr fl_X10_56) C hP (by decide) xs_6 rfl dX10_runMore_4 ?_
  refine lv_iload_n hx hb dX10_runMore_7 rfl (lv_at hl 1 rfl) ?_
  refine x_ald C hP (by decide) xs_25 (by omega) (by omega) dX10_runMore_8 (fun x1 e2 => ?_)
  refine lv_istore_n (lv' := [(3, .int x1), (0, .ref (a 9)), (1, .int p1), (2, .int p2)]) hx hb dX10_runMore_9 rfl hl (by decide) rfl (fun ls hl => ?_)
  refine lv_aload_n hx hb dX10_runMore_10 rfl (lv_at hl 1 rfl) ?_
  refine x_getr (Or.inl fl_X10_32) C hP (by decide) xs_9 rfl dX10_runMore_11 ?_
  refine x_getr (Or.inr fl_X10_56) C hP (by decide) xs_6 rfl dX10_runMore_14 ?_
  refine lv_iload_n hx hb dX10_runMore_17 rfl (lv_at hl 2 rfl) ?_
  refine lv_iload_n hx hb dX10_runMore_18 rfl (lv_at hl 0 rfl) ?_
  refine lv_iload_n hx hb dX10_runMore_19 rfl (lv_at hl 3 rfl) ?_
  refine lv_iadd hx hb dX10_runMore_20 ?_
  refine x_any (fun x3 => ?_)
  refine x_ast (hI.updN rfl) C hP hD hS (by decide) xs_25 (by omega) (by omega) dX10_runMore_21 (fun g H locs eg hI hP hD hS => ?_)
  have h0c : g 0 = g0 0 := by rw [eg]; exact h0c
  refine lv_aload_n hx hb dX10_runMore_22 rfl (lv_at hl 1 rfl) ?_
  refine x_getr (Or.inl fl_X10_22) C hP (by decide) xs_9 rfl dX10_runMore_23 ?_
  refine lv_iload_n hx hb dX10_runMore_26 rfl (lv_at hl 2 rfl) ?_
  refine x_puti (hI.updN rfl) (Or.inr fl_X10_61) ft_X1_9 C hP hD hS (by decide) xs_8 rfl rfl rfl dX10_runMore_27 (fun g H locs eg hI hP hD hS => ?_)
  have h0c : g 0 = g0 0 := by rw [eg]; exact h0c
  refine lv_aload_n hx hb dX10_runMore_30 rfl (lv_at hl 1 rfl) ?_
  refine x_getr (Or.inl fl_X10_22) C hP (by decide) xs_9 rfl dX10_runMore_31 ?_
  refine lv_iload_n hx hb dX10_runMore_34 rfl (lv_at hl 2 rfl) ?_
  refine x_callNv (rest := []) li_X10_43 C (zX1_runFrom_8 l G H.size b a g L0 hI p1 (by omega)) (kR rfl) hP hD hS 8 1 rfl (zat (by decide) xs_8) rfl hl.1 rfl (Nat.le_of_ble_eq_true rfl) dX10_runMore_35 (fun u6 H locs hw4 hP hD hS => ?_)
  obtain ⟨g, L⟩ := u6
  obtain ⟨hI, h0n⟩ := hw4
  have h0c : g 0 = g0 0 := h0n.trans h0c
  have hI : zI XT g := hI
  have hP : va_P G.1 vwCl (zw G (XS b) 105 a g L) H := hP
  have hD : va_D A (zw G (XS b) 105 a g L) := hD
  refine lv_aload_n hx hb dX10_runMore_38 rfl (lv_at hl 1 rfl) ?_
  refine x_getr (Or.inl fl_X10_22) C hP (by decide) xs_9 rfl dX10_runMore_39 ?_
  refine lv_iconst (v := -1) hx hb dX10_runMore_42 (by decide) ?_
  refine x_puti (hI.updN rfl) (Or.inr fl_X10_61) ft_X1_9 C hP hD hS (by decide) xs_8 rfl rfl rfl dX10_runMore_43 (fun g H locs eg hI hP hD hS => ?_)
  have h0c : g 0 = g0 0 := by rw [eg]; exact h0c
  refine lv_aload_n hx hb dX10_runMore_46 rfl (lv_at hl 1 rfl) ?_
  refine x_getr (Or.inl fl_X10_32) C hP (by decide) xs_9 rfl dX10_runMore_47 ?_
  refine x_getr (Or.inr fl_X10_56) C hP (by decide) xs_6 rfl dX10_runMore_50 ?_
  refine lv_iload_n hx hb dX10_runMore_53 rfl (lv_at hl 2 rfl) ?_
  refine lv_iload_n hx hb dX10_runMore_54 rfl (lv_at hl 0 rfl) ?_
  refine x_ast (hI.updN rfl) C hP hD hS (by decide) xs_25 (by omega) (by omega) dX10_runMore_55 (fun g H locs eg hI hP hD hS => ?_)
  have h0c : g 0 = g0 0 := by rw [eg]; exact h0c
  exact x_vret C hr hlk hP hD hS (g, L) rfl ⟨hI, h0c⟩ (Nat.le_of_ble_eq_true rfl) (Nat.le_of_ble_eq_true rfl) dX10_runMore_56
set_option maxHeartbeats 4000000 in
set_option maxRecDepth 100000 in
theorem zX10_lessonCount_9 (l : Launch) (G : kG) (sz : Nat) (b : Nat) (a : Nat → Nat) (g0 : Nat → Nat → Int32) (L0 : Nat → Nat → Int64) (hI : zI XT g0) : kM l yX10_lessonCount cX10_lessonCount 1 (some .int) { frames := 6, cells := 0, slots := 0, locals := 110 } G [.ref (a 9)] (zw G (XS b) 105 a g0 L0) sz (kQi G (S := zS) (fun r u => zI XT u.1 ∧ u.1 0 = g0 0 ∧ (0 ≤ r.toInt ∧ r.toInt ≤ 12)) (fun u => zw G (XS b) 105 a u.1 u.2)) := by
  refine kM.of (by decide) (Nat.le_of_ble_eq_true rfl) ?_
  intro p e s m below meth c A ls H C hr hlk hnm hP hD hS hl
  have C : kC G p s m c cX10_lessonCount 1 RX10 A := C
  have hx := C.1
  have hb := C.2.1
  have hl : lv_has ls 1 [(0, .ref (a 9))] := hl
  have h0c : g0 0 = g0 0 := rfl
  obtain ⟨locs, hlocs⟩ : ∃ q : List Loc, q = [] := ⟨_, rfl⟩
  rw [← hlocs] at hS
  rw [← hlocs]
  refine lv_aload_n hx hb dX10_lessonCount_0 rfl (lv_at hl 0 rfl) ?_
  refine x_getr (Or.inl fl_X10_22) C hP (by decide) xs_9 rfl dX10_lessonCount_1 ?_
  refine x_getr (Or.inr fl_X10_33) C hP (by decide) xs_8 rfl dX10_lessonCount_4 ?_
  refine x_getT hI rfl (Or.inr fl_X10_37) C hP (by decide) xs_1 rfl dX10_lessonCount_7 (fun x1 e2 b3 => ?_)
  exact x_iret C hr hlk hP hD hS (g0, L0) rfl ⟨hI, h0c, by omega⟩ (Nat.le_of_ble_eq_true rfl) (Nat.le_of_ble_eq_true rfl) dX10_lessonCount_10
set_option maxHeartbeats 4000000 in
set_option maxRecDepth 100000 in
theorem zX10_laterBits_9 (l : Launch) (G : kG) (sz : Nat) (b : Nat) (a : Nat → Nat) (g0 : Nat → Nat → Int32) (L0 : Nat → Nat → Int64) (hI : zI XT g0) : kM l yX10_laterBits cX10_laterBits 3 (some .int) { frames := 7, cells := 0, slots := 0, locals := 130 } G [.ref (a 9)] (zw G (XS b) 105 a g0 L0) sz (kQi G (S := zS) (fun r u => zI XT u.1 ∧ u.1 0 = g0 0) (fun u => zw G (XS b) 105 a u.1 u.2)) := by
  refine kM.of (by decide) (Nat.le_of_ble_eq_true rfl) ?_
  intro p e s m below meth c A ls H C hr hlk hnm hP hD hS hl
  have C : kC G p s m c cX10_laterBits 3 RX10 A := C
  have hx := C.1
  have hb := C.2.1
  have hl : lv_has ls 3 [(0, .ref (a 9))] := hl
  have h0c : g0 0 = g0 0 := rfl
  obtain ⟨locs, hlocs⟩ : ∃ q : List Loc, q = [] := ⟨_, rfl⟩
  rw [← hlocs] at hS
  rw [← hlocs]
  refine lv_iconst (v := 0) hx hb dX10_laterBits_0 (by decide) ?_
  refine lv_istore_n (lv' := [(1, .int 0), (0, .ref (a 9))]) hx hb dX10_laterBits_1 rfl hl (by decide) rfl (fun ls hl => ?_)
  refine lv_iconst (v := 0) hx hb dX10_laterBits_2 (by decide) ?_
  refine lv_istore_n (lv' := [(2, .int 0), (1, .int 0), (0, .ref (a 9))]) hx hb dX10_laterBits_3 rfl hl (by decide) rfl (fun ls hl => ?_)
  have lp268 : ∀ fu : Nat, ∀ (x265 : Int32) (x266 : Int32) (g : Nat → Nat → Int32) (L : Nat → Nat → Int64) (H : Heap) (locs : List Loc) (ls : Array Slot), (0 ≤ x266.toInt ∧ x266.toInt ≤ 12) → zI XT g → g 0 = g0 0 → va_P G.1 vwCl (zw G (XS b) 105 a g L) H → va_D A (zw G (XS b) 105 a g L) → va_S A s.heap H locs → lv_has ls 3 [(0, .ref (a 9)), (1, .int x265), (2, .int x266)] → 12 - x266.toInt < (fu : Int) → W p l e { frames := 7, cells := 0, slots := 0, locals := 130 } s m [.ref (a 9)].toArray below meth c H locs 0 0 (MQ below ((kQi G (S := zS) (fun r u => zI XT u.1 ∧ u.1 0 = g0 0) (fun u => zw G (XS b) 105 a u.1 u.2)) A) [.ref (a 9)].toArray s 0 0 A) (F0 m 4 ls []) := by
    intro fu
    induction fu with
    | zero => intro x265 x266 g L H locs ls b267 hI h0c hP hD hS hl hm; exact absurd hm (by omega)
    | succ fu ih =>
      intro x265 x266 g L H locs ls b267 hI h0c hP hD hS hl hm
      have ih269 := ih
      refine lv_iload_n hx hb dX10_laterBits_4 rfl (lv_at hl 2 rfl) ?_
      refine lv_aload_n hx hb dX10_laterBits_5 rfl (lv_at hl 0 rfl) ?_
      refine x_callVi (rest := [.int x266]) li_X10_64 C (zX10_lessonCount_9 l G H.size b a g L hI) (kR rfl) hP hD hS 9 10 rfl (zat (by decide) xs_9) rfl hl.1 rfl (Nat.le_of_ble_eq_true rfl) dX10_laterBits_6 (fun x271 u272 H locs hw270 hP hD hS => ?_)
      obtain ⟨g, L⟩ := u272
      obtain ⟨hI, h0n, b273⟩ := hw270
      have h0c : g 0 = g0 0 := h0n.trans h0c
      have hI : zI XT g := hI
      have hP : va_P G.1 vwCl (zw G (XS b) 105 a g L) H := hP
      have hD : va_D A (zw G (XS b) 105 a g L) := hD
      refine lv_icmp_ge (x := x266) (y := x271) (tgt := 42) hx hb dX10_laterBits_9 (by decide) (fun c275 => ?_) (fun c275 => ?_)
      ·
        have c275 := icc_le (m := x271.toInt) (n := x266.toInt) rfl rfl c275
        refine lv_iload_n hx hb dX10_laterBits_42 rfl (lv_at hl 1 rfl) ?_
        exact x_iret C hr hlk hP hD hS (g, L) rfl ⟨hI, h0c⟩ (Nat.le_of_ble_eq_true rfl) (Nat.le_of_ble_eq_true rfl) dX10_laterBits_43
      ·
        have c275 := icc_nle (m := x271.toInt) (n := x266.toInt) rfl rfl c275
        refine lv_aload_n hx hb dX10_laterBits_12 rfl (lv_at hl 0 rfl) ?_
        refine x_getr (Or.inl fl_X10_22) C hP (by decide) xs_9 rfl dX10_laterBits_13 ?_
        refine x_getr (Or.inr fl_X10_47) C hP (by decide) xs_8 rfl dX10_laterBits_16 ?_
        refine lv_iload_n hx hb dX10_laterBits_19 rfl (lv_at hl 2 rfl) ?_
        refine x_ald C hP (by decide) xs_44 (by omega) (by omega) dX10_laterBits_20 (fun x276 e277 => ?_)
        refine lv_aload_n hx hb dX10_laterBits_21 rfl (lv_at hl 0 rfl) ?_
        refine x_getr (Or.inl fl_X10_18) C hP (by decide) xs_9 rfl dX10_laterBits_22 ?_
        refine lv_iload_n hx hb dX10_laterBits_25 rfl (lv_at hl 2 rfl) ?_
        refine x_ald C hP (by decide) xs_49 (by omega) (by omega) dX10_laterBits_26 (fun x278 e279 => ?_)
        have J286 : ∀ (x287 : Int32) (g : Nat → Nat → Int32) (L : Nat → Nat → Int64) (H : Heap) (locs : List Loc) (ls : Array Slot), zI XT g → g 0 = g0 0 → va_P G.1 vwCl (zw G (XS b) 105 a g L) H → va_D A (zw G (XS b) 105 a g L) → va_S A s.heap H locs → lv_has ls 3 [(0, .ref (a 9)), (1, .int x287), (2, .int x266)] → W p l e { frames := 7, cells := 0, slots := 0, locals := 130 } s m [.ref (a 9)].toArray below meth c H locs 0 0 (MQ below ((kQi G (S := zS) (fun r u => zI XT u.1 ∧ u.1 0 = g0 0) (fun u => zw G (XS b) 105 a u.1 u.2)) A) [.ref (a 9)].toArray s 0 0 A) (F0 m 36 ls []) := by
          intro x287 g L H locs ls hI h0c hP hD hS hl
          obtain ⟨x288, e289q, e289⟩ : ∃ z : Int32, x266 + Int32.ofInt (1) = z ∧ z.toInt = x266.toInt + (1) := ⟨_, rfl, ic_addc rfl (by decide) (by omega) (by omega)⟩
          refine lv_iinc (v := x288) (lv' := [(2, .int x288), (0, .ref (a 9)), (1, .int x287)]) hx hb dX10_laterBits_36 hl (k := 2) rfl e289q (by decide) rfl (fun ls hl => ?_)
          refine lv_goto (tgt := 4) hx hb dX10_laterBits_39 (by decide) ?_
          exact ih269 x287 x288 g L H locs ls (by omega) hI h0c hP hD hS (lv_sub hl [1, 2, 0] rfl) (by omega)
        refine lv_icmp_le (x := x276) (y := x278) (tgt := 36) hx hb dX10_laterBits_27 (by decide) (fun c290 => ?_) (fun c290 => ?_)
        ·
          have c290 := icc_le (m := x276.toInt) (n := x278.toInt) rfl rfl c290
          exact J286 x265 g L H locs ls hI h0c hP hD hS (lv_sub hl [0, 1, 2] rfl)
        ·
          have c290 := icc_nle (m := x276.toInt) (n := x278.toInt) rfl rfl c290
          refine lv_iload_n hx hb dX10_laterBits_30 rfl (lv_at hl 1 rfl) ?_
          refine lv_iconst (v := 1) hx hb dX10_laterBits_31 (by decide) ?_
          refine lv_iload_n hx hb dX10_laterBits_32 rfl (lv_at hl 2 rfl) ?_
          refine lv_ishl hx hb dX10_laterBits_33 ?_
          refine x_any (fun x291 => ?_)
          refine lv_ior hx hb dX10_laterBits_34 ?_
          refine x_any (fun x292 => ?_)
          refine lv_istore_n (lv' := [(1, .int x292), (0, .ref (a 9)), (2, .int x266)]) hx hb dX10_laterBits_35 rfl hl (by decide) rfl (fun ls hl => ?_)
          exact J286 x292 g L H locs ls hI h0c hP hD hS (lv_sub hl [1, 0, 2] rfl)
  have hc_ : (0 : Int32).toInt = 0 := by decide
  exact lp268 14 0 0 g0 L0 H locs ls (by decide) hI h0c hP hD hS (lv_sub hl [2, 1, 0] rfl) (by omega)
set_option maxHeartbeats 4000000 in
set_option maxRecDepth 100000 in
theorem zX10_laterMinutes_9 (l : Launch) (G : kG) (sz : Nat) (b : Nat) (a : Nat → Nat) (g0 : Nat → Nat → Int32) (L0 : Nat → Nat → Int64) (hI : zI XT g0) : kM l yX10_laterMinutes cX10_laterMinutes 3 (some .int) { frames := 7, cells := 0, slots := 0, locals := 130 } G [.ref (a 9)] (zw G (XS b) 105 a g0 L0) sz (kQi G (S := zS) (fun r u => zI XT u.1 ∧ u.1 0 = g0 0) (fun u => zw G (XS b) 105 a u.1 u.2)) := by
  refine kM.of (by decide) (Nat.le_of_ble_eq_true rfl) ?_
  intro p e s m below meth c A ls H C hr hlk hnm hP hD hS hl
  have C : kC G p s m c cX10_laterMinutes 3 RX10 A := C
  have hx := C.1
  have hb := C.2.1
  have hl : lv_has ls 3 [(0, .ref (a 9))] := hl
  have h0c : g0 0 = g0 0 := rfl
  obtain ⟨locs, hlocs⟩ : ∃ q : List Loc, q = [] := ⟨_, rfl⟩
  rw [← hlocs] at hS
  rw [← hlocs]
  refine lv_iconst (v := 0) hx hb dX10_laterMinutes_0 (by decide) ?_
  refine lv_istore_n (lv' := [(1, .int 0), (0, .ref (a 9))]) hx hb dX10_laterMinutes_1 rfl hl (by decide) rfl (fun ls hl => ?_)
  refine lv_iconst (v := 0) hx hb dX10_laterMinutes_2 (by decide) ?_
  refine lv_istore_n (lv' := [(2, .int 0), (1, .int 0), (0, .ref (a 9))]) hx hb dX10_laterMinutes_3 rfl hl (by decide) rfl (fun ls hl => ?_)
  have lp170 : ∀ fu : Nat, ∀ (x167 : Int32) (x168 : Int32) (g : Nat → Nat → Int32) (L : Nat → Nat → Int64) (H : Heap) (locs : List Loc) (ls : Array Slot), (0 ≤ x168.toInt ∧ x168.toInt ≤ 12) → zI XT g → g 0 = g0 0 → va_P G.1 vwCl (zw G (XS b) 105 a g L) H → va_D A (zw G (XS b) 105 a g L) → va_S A s.heap H locs → lv_has ls 3 [(0, .ref (a 9)), (1, .int x167), (2, .int x168)] → 12 - x168.toInt < (fu : Int) → W p l e { frames := 7, cells := 0, slots := 0, locals := 130 } s m [.ref (a 9)].toArray below meth c H locs 0 0 (MQ below ((kQi G (S := zS) (fun r u => zI XT u.1 ∧ u.1 0 = g0 0) (fun u => zw G (XS b) 105 a u.1 u.2)) A) [.ref (a 9)].toArray s 0 0 A) (F0 m 4 ls []) := by
    intro fu
    induction fu with
    | zero => intro x167 x168 g L H locs ls b169 hI h0c hP hD hS hl hm; exact absurd hm (by omega)
    | succ fu ih =>
      intro x167 x168 g L H locs ls b169 hI h0c hP hD hS hl hm
      have ih171 := ih
      refine lv_iload_n hx hb dX10_laterMinutes_4 rfl (lv_at hl 2 rfl) ?_
      refine lv_aload_n hx hb dX10_laterMinutes_5 rfl (lv_at hl 0 rfl) ?_
      refine x_callVi (rest := [.int x168]) li_X10_64 C (zX10_lessonCount_9 l G H.size b a g L hI) (kR rfl) hP hD hS 9 10 rfl (zat (by decide) xs_9) rfl hl.1 rfl (Nat.le_of_ble_eq_true rfl) dX10_laterMinutes_6 (fun x173 u174 H locs hw172 hP hD hS => ?_)
      obtain ⟨g, L⟩ := u174
      obtain ⟨hI, h0n, b175⟩ := hw172
      have h0c : g 0 = g0 0 := h0n.trans h0c
      have hI : zI XT g := hI
      have hP : va_P G.1 vwCl (zw G (XS b) 105 a g L) H := hP
      have hD : va_D A (zw G (XS b) 105 a g L) := hD
      refine lv_icmp_ge (x := x168) (y := x173) (tgt := 37) hx hb dX10_laterMinutes_9 (by decide) (fun c177 => ?_) (fun c177 => ?_)
      ·
        have c177 := icc_le (m := x173.toInt) (n := x168.toInt) rfl rfl c177
        refine lv_iload_n hx hb dX10_laterMinutes_37 rfl (lv_at hl 1 rfl) ?_
        exact x_iret C hr hlk hP hD hS (g, L) rfl ⟨hI, h0c⟩ (Nat.le_of_ble_eq_true rfl) (Nat.le_of_ble_eq_true rfl) dX10_laterMinutes_38
      ·
        have c177 := icc_nle (m := x173.toInt) (n := x168.toInt) rfl rfl c177
        refine lv_iload_n hx hb dX10_laterMinutes_12 rfl (lv_at hl 1 rfl) ?_
        refine lv_aload_n hx hb dX10_laterMinutes_13 rfl (lv_at hl 0 rfl) ?_
        refine x_getr (Or.inl fl_X10_22) C hP (by decide) xs_9 rfl dX10_laterMinutes_14 ?_
        refine x_getr (Or.inr fl_X10_47) C hP (by decide) xs_8 rfl dX10_laterMinutes_17 ?_
        refine lv_iload_n hx hb dX10_laterMinutes_20 rfl (lv_at hl 2 rfl) ?_
        refine x_ald C hP (by decide) xs_44 (by omega) (by omega) dX10_laterMinutes_21 (fun x178 e179 => ?_)
        refine lv_aload_n hx hb dX10_laterMinutes_22 rfl (lv_at hl 0 rfl) ?_
        refine x_getr (Or.inl fl_X10_18) C hP (by decide) xs_9 rfl dX10_laterMinutes_23 ?_
        refine lv_iload_n hx hb dX10_laterMinutes_26 rfl (lv_at hl 2 rfl) ?_
        refine x_ald C hP (by decide) xs_49 (by omega) (by omega) dX10_laterMinutes_27 (fun x180 e181 => ?_)
        refine lv_isub hx hb dX10_laterMinutes_28 ?_
        refine x_any (fun x182 => ?_)
        refine lv_iadd hx hb dX10_laterMinutes_29 ?_
        refine x_any (fun x183 => ?_)
        refine lv_istore_n (lv' := [(1, .int x183), (0, .ref (a 9)), (2, .int x168)]) hx hb dX10_laterMinutes_30 rfl hl (by decide) rfl (fun ls hl => ?_)
        obtain ⟨x184, e185q, e185⟩ : ∃ z : Int32, x168 + Int32.ofInt (1) = z ∧ z.toInt = x168.toInt + (1) := ⟨_, rfl, ic_addc rfl (by decide) (by omega) (by omega)⟩
        refine lv_iinc (v := x184) (lv' := [(2, .int x184), (1, .int x183), (0, .ref (a 9))]) hx hb dX10_laterMinutes_31 hl (k := 2) rfl e185q (by decide) rfl (fun ls hl => ?_)
        refine lv_goto (tgt := 4) hx hb dX10_laterMinutes_34 (by decide) ?_
        exact ih171 x183 x184 g L H locs ls (by omega) hI h0c hP hD hS (lv_sub hl [2, 1, 0] rfl) (by omega)
  have hc_ : (0 : Int32).toInt = 0 := by decide
  exact lp170 14 0 0 g0 L0 H locs ls (by decide) hI h0c hP hD hS (lv_sub hl [2, 1, 0] rfl) (by omega)
set_option maxHeartbeats 4000000 in
set_option maxRecDepth 100000 in
theorem zX10_leastThatReaches_9 (l : Launch) (G : kG) (sz : Nat) (b : Nat) (a : Nat → Nat) (g0 : Nat → Nat → Int32) (L0 : Nat → Nat → Int64) (hI : zI XT g0) (p1 : Int32) (p2 : Int32) (hp1 : 0 ≤ p1.toInt ∧ p1.toInt ≤ 11) (hp2 : 0 ≤ p2.toInt ∧ p2.toInt ≤ 11) : kM l yX10_leastThatReaches cX10_leastThatReaches 4 (some .int) { frames := 12, cells := 0, slots := 0, locals := 248 } G [.ref (a 9), .int p1, .int p2] (zw G (XS b) 105 a g0 L0) sz (kQi G (S := zS) (fun r u => zI XT u.1 ∧ u.1 0 = g0 0 ∧ ((-1) ≤ r.toInt ∧ r.toInt ≤ 120)) (fun u => zw G (XS b) 105 a u.1 u.2)) := by
  refine kM.of (by decide) (Nat.le_of_ble_eq_true rfl) ?_
  intro p e s m below meth c A ls H C hr hlk hnm hP hD hS hl
  have C : kC G p s m c cX10_leastThatReaches 4 RX10 A := C
  have hx := C.1
  have hb := C.2.1
  have hl : lv_has ls 4 [(0, .ref (a 9)), (1, .int p1), (2, .int p2)] := hl
  have h0c : g0 0 = g0 0 := rfl
  obtain ⟨locs, hlocs⟩ : ∃ q : List Loc, q = [] := ⟨_, rfl⟩
  rw [← hlocs] at hS
  rw [← hlocs]
  refine lv_aload_n hx hb dX10_leastThatReaches_0 rfl (lv_at hl 0 rfl) ?_
  refine x_callVv (rest := []) li_X10_67 C (zX10_keepEnds_9 l G H.size b a g0 L0 hI) (kR rfl) hP hD hS 9 10 rfl (zat (by decide) xs_9) rfl hl.1 rfl (Nat.le_of_ble_eq_true rfl) dX10_leastThatReaches_1 (fun u3 H locs hw1 hP hD hS => ?_)
  obtain ⟨g, L⟩ := u3
  obtain ⟨hI, h0n⟩ := hw1
  have h0c : g 0 = g0 0 := h0n.trans h0c
  have hI : zI XT g := hI
  have hP : va_P G.1 vwCl (zw G (XS b) 105 a g L) H := hP
  have hD : va_D A (zw G (XS b) 105 a g L) := hD
  refine lv_iconst (v := 1) hx hb dX10_leastThatReaches_4 (by decide) ?_
  refine lv_istore_n (lv' := [(3, .int 1), (0, .ref (a 9)), (1, .int p1), (2, .int p2)]) hx hb dX10_leastThatReaches_5 rfl hl (by decide) rfl (fun ls hl => ?_)
  have lp214 : ∀ fu : Nat, ∀ (x212 : Int32) (g : Nat → Nat → Int32) (L : Nat → Nat → Int64) (H : Heap) (locs : List Loc) (ls : Array Slot), (1 ≤ x212.toInt ∧ x212.toInt ≤ 121) → zI XT g → g 0 = g0 0 → va_P G.1 vwCl (zw G (XS b) 105 a g L) H → va_D A (zw G (XS b) 105 a g L) → va_S A s.heap H locs → lv_has ls 4 [(0, .ref (a 9)), (1, .int p1), (2, .int p2), (3, .int x212)] → 121 - x212.toInt < (fu : Int) → W p l e { frames := 12, cells := 0, slots := 0, locals := 248 } s m [.ref (a 9), .int p1, .int p2].toArray below meth c H locs 0 0 (MQ below ((kQi G (S := zS) (fun r u => zI XT u.1 ∧ u.1 0 = g0 0 ∧ ((-1) ≤ r.toInt ∧ r.toInt ≤ 120)) (fun u => zw G (XS b) 105 a u.1 u.2)) A) [.ref (a 9), .int p1, .int p2].toArray s 0 0 A) (F0 m 6 ls []) := by
    intro fu
    induction fu with
    | zero => intro x212 g L H locs ls b213 hI h0c hP hD hS hl hm; exact absurd hm (by omega)
    | succ fu ih =>
      intro x212 g L H locs ls b213 hI h0c hP hD hS hl hm
      have ih215 := ih
      refine lv_iload_n hx hb dX10_leastThatReaches_6 rfl (lv_at hl 3 rfl) ?_
      refine lv_bipush (v := 120) hx hb dX10_leastThatReaches_7 (by decide) ?_
      refine lv_icmp_gt (x := x212) (y := 120) (tgt := 44) hx hb dX10_leastThatReaches_9 (by decide) (fun c216 => ?_) (fun c216 => ?_)
      ·
        have c216 := icc_lt (m := 120) (n := x212.toInt) (by decide) rfl c216
        refine lv_iconst (v := -1) hx hb dX10_leastThatReaches_44 (by decide) ?_
        exact x_iret C hr hlk hP hD hS (g, L) rfl ⟨hI, h0c, by decide⟩ (Nat.le_of_ble_eq_true rfl) (Nat.le_of_ble_eq_true rfl) dX10_leastThatReaches_45
      ·
        have c216 := icc_nlt (m := 120) (n := x212.toInt) (by decide) rfl c216
        refine lv_aload_n hx hb dX10_leastThatReaches_12 rfl (lv_at hl 0 rfl) ?_
        refine lv_iload_n hx hb dX10_leastThatReaches_13 rfl (lv_at hl 1 rfl) ?_
        refine lv_iload_n hx hb dX10_leastThatReaches_14 rfl (lv_at hl 3 rfl) ?_
        refine x_callVv (rest := []) li_X10_70 C (zX10_runMore_9 l G H.size b a g L hI p1 x212 (by omega)) (kR rfl) hP hD hS 9 10 rfl (zat (by decide) xs_9) rfl hl.1 rfl (Nat.le_of_ble_eq_true rfl) dX10_leastThatReaches_15 (fun u219 H locs hw217 hP hD hS => ?_)
        obtain ⟨g, L⟩ := u219
        obtain ⟨hI, h0n⟩ := hw217
        have h0c : g 0 = g0 0 := h0n.trans h0c
        have hI : zI XT g := hI
        have hP : va_P G.1 vwCl (zw G (XS b) 105 a g L) H := hP
        have hD : va_D A (zw G (XS b) 105 a g L) := hD
        refine lv_aload_n hx hb dX10_leastThatReaches_18 rfl (lv_at hl 0 rfl) ?_
        refine x_getr (Or.inl fl_X10_22) C hP (by decide) xs_9 rfl dX10_leastThatReaches_19 ?_
        refine x_getr (Or.inr fl_X10_47) C hP (by decide) xs_8 rfl dX10_leastThatReaches_22 ?_
        refine lv_iload_n hx hb dX10_leastThatReaches_25 rfl (lv_at hl 2 rfl) ?_
        refine x_ald C hP (by decide) xs_44 (by omega) (by omega) dX10_leastThatReaches_26 (fun x222 e223 => ?_)
        refine lv_aload_n hx hb dX10_leastThatReaches_27 rfl (lv_at hl 0 rfl) ?_
        refine x_getr (Or.inl fl_X10_18) C hP (by decide) xs_9 rfl dX10_leastThatReaches_28 ?_
        refine lv_iload_n hx hb dX10_leastThatReaches_31 rfl (lv_at hl 2 rfl) ?_
        refine x_ald C hP (by decide) xs_49 (by omega) (by omega) dX10_leastThatReaches_32 (fun x224 e225 => ?_)
        refine lv_icmp_le (x := x222) (y := x224) (tgt := 38) hx hb dX10_leastThatReaches_33 (by decide) (fun c226 => ?_) (fun c226 => ?_)
        ·
          have c226 := icc_le (m := x222.toInt) (n := x224.toInt) rfl rfl c226
          obtain ⟨x227, e228q, e228⟩ : ∃ z : Int32, x212 + Int32.ofInt (1) = z ∧ z.toInt = x212.toInt + (1) := ⟨_, rfl, ic_addc rfl (by decide) (by omega) (by omega)⟩
          refine lv_iinc (v := x227) (lv' := [(3, .int x227), (0, .ref (a 9)), (1, .int p1), (2, .int p2)]) hx hb dX10_leastThatReaches_38 hl (k := 3) rfl e228q (by decide) rfl (fun ls hl => ?_)
          refine lv_goto (tgt := 6) hx hb dX10_leastThatReaches_41 (by decide) ?_
          exact ih215 x227 g L H locs ls (by omega) hI h0c hP hD hS (lv_sub hl [1, 2, 3, 0] rfl) (by omega)
        ·
          have c226 := icc_nle (m := x222.toInt) (n := x224.toInt) rfl rfl c226
          refine lv_iload_n hx hb dX10_leastThatReaches_36 rfl (lv_at hl 3 rfl) ?_
          exact x_iret C hr hlk hP hD hS (g, L) rfl ⟨hI, h0c, by omega⟩ (Nat.le_of_ble_eq_true rfl) (Nat.le_of_ble_eq_true rfl) dX10_leastThatReaches_37
  have hc_ : (1 : Int32).toInt = 1 := by decide
  exact lp214 122 1 g L H locs ls (by decide) hI h0c hP hD hS (lv_sub hl [1, 2, 3, 0] rfl) (by omega)
set_option maxHeartbeats 4000000 in
set_option maxRecDepth 100000 in
theorem zX10_mostThatDies_9 (l : Launch) (G : kG) (sz : Nat) (b : Nat) (a : Nat → Nat) (g0 : Nat → Nat → Int32) (L0 : Nat → Nat → Int64) (hI : zI XT g0) (p1 : Int32) (hp1 : 0 ≤ p1.toInt ∧ p1.toInt ≤ 11) : kM l yX10_mostThatDies cX10_mostThatDies 3 (some .int) { frames := 12, cells := 0, slots := 0, locals := 248 } G [.ref (a 9), .int p1] (zw G (XS b) 105 a g0 L0) sz (kQi G (S := zS) (fun r u => zI XT u.1 ∧ u.1 0 = g0 0 ∧ (0 ≤ r.toInt ∧ r.toInt ≤ 120)) (fun u => zw G (XS b) 105 a u.1 u.2)) := by
  refine kM.of (by decide) (Nat.le_of_ble_eq_true rfl) ?_
  intro p e s m below meth c A ls H C hr hlk hnm hP hD hS hl
  have C : kC G p s m c cX10_mostThatDies 3 RX10 A := C
  have hx := C.1
  have hb := C.2.1
  have hl : lv_has ls 3 [(0, .ref (a 9)), (1, .int p1)] := hl
  have h0c : g0 0 = g0 0 := rfl
  obtain ⟨locs, hlocs⟩ : ∃ q : List Loc, q = [] := ⟨_, rfl⟩
  rw [← hlocs] at hS
  rw [← hlocs]
  refine lv_aload_n hx hb dX10_mostThatDies_0 rfl (lv_at hl 0 rfl) ?_
  refine x_callVv (rest := []) li_X10_67 C (zX10_keepEnds_9 l G H.size b a g0 L0 hI) (kR rfl) hP hD hS 9 10 rfl (zat (by decide) xs_9) rfl hl.1 rfl (Nat.le_of_ble_eq_true rfl) dX10_mostThatDies_1 (fun u3 H locs hw1 hP hD hS => ?_)
  obtain ⟨g, L⟩ := u3
  obtain ⟨hI, h0n⟩ := hw1
  have h0c : g 0 = g0 0 := h0n.trans h0c
  have hI : zI XT g := hI
  have hP : va_P G.1 vwCl (zw G (XS b) 105 a g L) H := hP
  have hD : va_D A (zw G (XS b) 105 a g L) := hD
  refine lv_bipush (v := 120) hx hb dX10_mostThatDies_4 (by decide) ?_
  refine lv_istore_n (lv' := [(2, .int 120), (0, .ref (a 9)), (1, .int p1)]) hx hb dX10_mostThatDies_6 rfl hl (by decide) rfl (fun ls hl => ?_)
  have lp270 : ∀ fu : Nat, ∀ (x268 : Int32) (g : Nat → Nat → Int32) (L : Nat → Nat → Int64) (H : Heap) (locs : List Loc) (ls : Array Slot), (0 ≤ x268.toInt ∧ x268.toInt ≤ 120) → zI XT g → g 0 = g0 0 → va_P G.1 vwCl (zw G (XS b) 105 a g L) H → va_D A (zw G (XS b) 105 a g L) → va_S A s.heap H locs → lv_has ls 3 [(0, .ref (a 9)), (1, .int p1), (2, .int x268)] → x268.toInt - 0 < (fu : Int) → W p l e { frames := 12, cells := 0, slots := 0, locals := 248 } s m [.ref (a 9), .int p1].toArray below meth c H locs 0 0 (MQ below ((kQi G (S := zS) (fun r u => zI XT u.1 ∧ u.1 0 = g0 0 ∧ (0 ≤ r.toInt ∧ r.toInt ≤ 120)) (fun u => zw G (XS b) 105 a u.1 u.2)) A) [.ref (a 9), .int p1].toArray s 0 0 A) (F0 m 7 ls []) := by
    intro fu
    induction fu with
    | zero => intro x268 g L H locs ls b269 hI h0c hP hD hS hl hm; exact absurd hm (by omega)
    | succ fu ih =>
      intro x268 g L H locs ls b269 hI h0c hP hD hS hl hm
      have ih271 := ih
      refine lv_iload_n hx hb dX10_mostThatDies_7 rfl (lv_at hl 2 rfl) ?_
      refine lv_if_le (x := x268) (tgt := 38) hx hb dX10_mostThatDies_8 (by decide) (fun c272 => ?_) (fun c272 => ?_)
      ·
        have c272 := icc_le (m := x268.toInt) (n := 0) rfl (by decide) c272
        refine lv_iconst (v := 0) hx hb dX10_mostThatDies_38 (by decide) ?_
        exact x_iret C hr hlk hP hD hS (g, L) rfl ⟨hI, h0c, by decide⟩ (Nat.le_of_ble_eq_true rfl) (Nat.le_of_ble_eq_true rfl) dX10_mostThatDies_39
      ·
        have c272 := icc_nle (m := x268.toInt) (n := 0) rfl (by decide) c272
        refine lv_aload_n hx hb dX10_mostThatDies_11 rfl (lv_at hl 0 rfl) ?_
        refine lv_iload_n hx hb dX10_mostThatDies_12 rfl (lv_at hl 1 rfl) ?_
        refine lv_iload_n hx hb dX10_mostThatDies_13 rfl (lv_at hl 2 rfl) ?_
        refine x_callVv (rest := []) li_X10_70 C (zX10_runMore_9 l G H.size b a g L hI p1 x268 (by omega)) (kR rfl) hP hD hS 9 10 rfl (zat (by decide) xs_9) rfl hl.1 rfl (Nat.le_of_ble_eq_true rfl) dX10_mostThatDies_14 (fun u275 H locs hw273 hP hD hS => ?_)
        obtain ⟨g, L⟩ := u275
        obtain ⟨hI, h0n⟩ := hw273
        have h0c : g 0 = g0 0 := h0n.trans h0c
        have hI : zI XT g := hI
        have hP : va_P G.1 vwCl (zw G (XS b) 105 a g L) H := hP
        have hD : va_D A (zw G (XS b) 105 a g L) := hD
        refine lv_aload_n hx hb dX10_mostThatDies_17 rfl (lv_at hl 0 rfl) ?_
        refine x_callVi (rest := []) li_X10_74 C (zX10_laterBits_9 l G H.size b a g L hI) (kR rfl) hP hD hS 9 10 rfl (zat (by decide) xs_9) rfl hl.1 rfl (Nat.le_of_ble_eq_true rfl) dX10_mostThatDies_18 (fun x279 u280 H locs hw278 hP hD hS => ?_)
        obtain ⟨g, L⟩ := u280
        obtain ⟨hI, h0n⟩ := hw278
        have h0c : g 0 = g0 0 := h0n.trans h0c
        have hI : zI XT g := hI
        have hP : va_P G.1 vwCl (zw G (XS b) 105 a g L) H := hP
        have hD : va_D A (zw G (XS b) 105 a g L) := hD
        refine lv_iconst (v := 1) hx hb dX10_mostThatDies_21 (by decide) ?_
        refine lv_iload_n hx hb dX10_mostThatDies_22 rfl (lv_at hl 1 rfl) ?_
        refine lv_ishl hx hb dX10_mostThatDies_23 ?_
        refine x_any (fun x283 => ?_)
        refine lv_iconst (v := -1) hx hb dX10_mostThatDies_24 (by decide) ?_
        refine lv_ixor hx hb dX10_mostThatDies_25 ?_
        refine x_any (fun x284 => ?_)
        refine lv_iand hx hb dX10_mostThatDies_26 ?_
        refine x_any (fun x285 => ?_)
        refine lv_if_ne (x := x285) (tgt := 32) hx hb dX10_mostThatDies_27 (by decide) (fun c286 => ?_) (fun c286 => ?_)
        ·
          have c286 := icc_neq (m := x285.toInt) (n := 0) rfl (by decide) c286
          obtain ⟨x287, e288q, e288⟩ : ∃ z : Int32, x268 + Int32.ofInt (-1) = z ∧ z.toInt = x268.toInt + (-1) := ⟨_, rfl, ic_addc rfl (by decide) (by omega) (by omega)⟩
          refine lv_iinc (v := x287) (lv' := [(2, .int x287), (0, .ref (a 9)), (1, .int p1)]) hx hb dX10_mostThatDies_32 hl (k := 2) rfl e288q (by decide) rfl (fun ls hl => ?_)
          refine lv_goto (tgt := 7) hx hb dX10_mostThatDies_35 (by decide) ?_
          exact ih271 x287 g L H locs ls (by omega) hI h0c hP hD hS (lv_sub hl [1, 2, 0] rfl) (by omega)
        ·
          have c286 := icc_eq (m := x285.toInt) (n := 0) rfl (by decide) c286
          refine lv_iload_n hx hb dX10_mostThatDies_30 rfl (lv_at hl 2 rfl) ?_
          exact x_iret C hr hlk hP hD hS (g, L) rfl ⟨hI, h0c, by omega⟩ (Nat.le_of_ble_eq_true rfl) (Nat.le_of_ble_eq_true rfl) dX10_mostThatDies_31
  have hc_ : (120 : Int32).toInt = 120 := by decide
  exact lp270 122 120 g L H locs ls (by decide) hI h0c hP hD hS (lv_sub hl [1, 2, 0] rfl) (by omega)
set_option maxHeartbeats 4000000 in
set_option maxRecDepth 100000 in
theorem zX4_clear_13 (l : Launch) (G : kG) (sz : Nat) (b : Nat) (a : Nat → Nat) (g0 : Nat → Nat → Int32) (L0 : Nat → Nat → Int64) (hI : zI XT g0) : kM l yX4_clear cX4_clear 1 none { frames := 6, cells := 0, slots := 0, locals := 110 } G [.ref (a 13)] (zw G (XS b) 105 a g0 L0) sz (kQv G (S := zS) (fun u => zI XT u.1 ∧ u.1 0 = g0 0) (fun u => zw G (XS b) 105 a u.1 u.2)) := by
  refine kM.of (by decide) (Nat.le_of_ble_eq_true rfl) ?_
  intro p e s m below meth c A ls H C hr hlk hnm hP hD hS hl
  have C : kC G p s m c cX4_clear 1 RX4 A := C
  have hx := C.1
  have hb := C.2.1
  have hl : lv_has ls 1 [(0, .ref (a 13))] := hl
  have h0c : g0 0 = g0 0 := rfl
  obtain ⟨locs, hlocs⟩ : ∃ q : List Loc, q = [] := ⟨_, rfl⟩
  rw [← hlocs] at hS
  rw [← hlocs]
  refine lv_aload_n hx hb dX4_clear_0 rfl (lv_at hl 0 rfl) ?_
  refine lv_iconst (v := 0) hx hb dX4_clear_1 (by decide) ?_
  refine x_puti (hI.upd rfl (by decide) (by decide)) (Or.inl fl_X4_9) ft_X4_0 C hP hD hS (by decide) xs_13 rfl rfl rfl dX4_clear_2 (fun g H locs eg hI hP hD hS => ?_)
  have h0c : g 0 = g0 0 := by rw [eg]; exact h0c
  exact x_vret C hr hlk hP hD hS (g, L0) rfl ⟨hI, h0c⟩ (Nat.le_of_ble_eq_true rfl) (Nat.le_of_ble_eq_true rfl) dX4_clear_5
set_option maxHeartbeats 4000000 in
set_option maxRecDepth 100000 in
theorem zX4_told_13 (l : Launch) (G : kG) (sz : Nat) (b : Nat) (a : Nat → Nat) (g0 : Nat → Nat → Int32) (L0 : Nat → Nat → Int64) (hI : zI XT g0) (p1 : Int32) : kM l yX4_told cX4_told 2 (some .int) { frames := 6, cells := 0, slots := 0, locals := 110 } G [.ref (a 13), .int p1] (zw G (XS b) 105 a g0 L0) sz (kQi G (S := zS) (fun r u => zI XT u.1 ∧ u.1 0 = g0 0) (fun u => zw G (XS b) 105 a u.1 u.2)) := by
  refine kM.of (by decide) (Nat.le_of_ble_eq_true rfl) ?_
  intro p e s m below meth c A ls H C hr hlk hnm hP hD hS hl
  have C : kC G p s m c cX4_told 2 RX4 A := C
  have hx := C.1
  have hb := C.2.1
  have hl : lv_has ls 2 [(0, .ref (a 13)), (1, .int p1)] := hl
  have h0c : g0 0 = g0 0 := rfl
  obtain ⟨locs, hlocs⟩ : ∃ q : List Loc, q = [] := ⟨_, rfl⟩
  rw [← hlocs] at hS
  rw [← hlocs]
  refine lv_aload_n hx hb dX4_told_0 rfl (lv_at hl 0 rfl) ?_
  refine x_getT hI rfl (Or.inl fl_X4_9) C hP (by decide) xs_13 rfl dX4_told_1 (fun x1 e2 b3 => ?_)
  refine lv_if_ne (x := x1) (tgt := 9) hx hb dX4_told_4 (by decide) (fun c4 => ?_) (fun c4 => ?_)
  ·
    have c4 := icc_neq (m := x1.toInt) (n := 0) rfl (by decide) c4
    refine lv_iload_n hx hb dX4_told_9 rfl (lv_at hl 1 rfl) ?_
    have J11 : ∀ (x12 : Int32) (g : Nat → Nat → Int32) (L : Nat → Nat → Int64) (H : Heap) (locs : List Loc) (ls : Array Slot), zI XT g → g 0 = g0 0 → va_P G.1 vwCl (zw G (XS b) 105 a g L) H → va_D A (zw G (XS b) 105 a g L) → va_S A s.heap H locs → lv_has ls 2 [] → W p l e { frames := 6, cells := 0, slots := 0, locals := 110 } s m [.ref (a 13), .int p1].toArray below meth c H locs 0 0 (MQ below ((kQi G (S := zS) (fun r u => zI XT u.1 ∧ u.1 0 = g0 0) (fun u => zw G (XS b) 105 a u.1 u.2)) A) [.ref (a 13), .int p1].toArray s 0 0 A) (F0 m 24 ls [.int x12]) := by
      intro x12 g L H locs ls hI h0c hP hD hS hl
      exact x_iret C hr hlk hP hD hS (g, L) rfl ⟨hI, h0c⟩ (Nat.le_of_ble_eq_true rfl) (Nat.le_of_ble_eq_true rfl) dX4_told_24
    refine lv_if_ne (x := p1) (tgt := 20) hx hb dX4_told_10 (by decide) (fun c13 => ?_) (fun c13 => ?_)
    ·
      have c13 := icc_neq (m := p1.toInt) (n := 0) rfl (by decide) c13
      refine lv_aload_n hx hb dX4_told_20 rfl (lv_at hl 0 rfl) ?_
      refine x_geti (Or.inl fl_X4_15) C hP (by decide) xs_13 rfl dX4_told_21 (fun x14 e15 => ?_)
      exact J11 x14 g0 L0 H locs ls hI h0c hP hD hS (lv_sub hl [] rfl)
    ·
      have c13 := icc_eq (m := p1.toInt) (n := 0) rfl (by decide) c13
      refine lv_aload_n hx hb dX4_told_13 rfl (lv_at hl 0 rfl) ?_
      refine x_geti (Or.inl fl_X4_19) C hP (by decide) xs_13 rfl dX4_told_14 (fun x16 e17 => ?_)
      refine lv_goto (tgt := 24) hx hb dX4_told_17 (by decide) ?_
      exact J11 x16 g0 L0 H locs ls hI h0c hP hD hS (lv_sub hl [] rfl)
  ·
    have c4 := icc_eq (m := x1.toInt) (n := 0) rfl (by decide) c4
    refine lv_iconst (v := -1) hx hb dX4_told_7 (by decide) ?_
    exact x_iret C hr hlk hP hD hS (g0, L0) rfl ⟨hI, h0c⟩ (Nat.le_of_ble_eq_true rfl) (Nat.le_of_ble_eq_true rfl) dX4_told_8
set_option maxHeartbeats 4000000 in
set_option maxRecDepth 100000 in
theorem zX10_exchange_9 (l : Launch) (G : kG) (sz : Nat) (b : Nat) (a : Nat → Nat) (g0 : Nat → Nat → Int32) (L0 : Nat → Nat → Int64) (hI : zI XT g0) (p1 : Int32) (p2 : Int32) (hp1 : 0 ≤ p1.toInt ∧ p1.toInt ≤ 11) (hp2 : 0 ≤ p2.toInt ∧ p2.toInt ≤ 11) : kM l yX10_exchange cX10_exchange 4 none { frames := 6, cells := 0, slots := 0, locals := 110 } G [.ref (a 9), .int p1, .int p2] (zw G (XS b) 105 a g0 L0) sz (kQv G (S := zS) (fun u => zI XT u.1 ∧ u.1 0 = g0 0) (fun u => zw G (XS b) 105 a u.1 u.2)) := by
  refine kM.of (by decide) (Nat.le_of_ble_eq_true rfl) ?_
  intro p e s m below meth c A ls H C hr hlk hnm hP hD hS hl
  have C : kC G p s m c cX10_exchange 4 RX10 A := C
  have hx := C.1
  have hb := C.2.1
  have hl : lv_has ls 4 [(0, .ref (a 9)), (1, .int p1), (2, .int p2)] := hl
  have h0c : g0 0 = g0 0 := rfl
  obtain ⟨locs, hlocs⟩ : ∃ q : List Loc, q = [] := ⟨_, rfl⟩
  rw [← hlocs] at hS
  rw [← hlocs]
  refine lv_aload_n hx hb dX10_exchange_0 rfl (lv_at hl 0 rfl) ?_
  refine x_getr (Or.inl fl_X10_32) C hP (by decide) xs_9 rfl dX10_exchange_1 ?_
  refine x_getr (Or.inr fl_X10_56) C hP (by decide) xs_6 rfl dX10_exchange_4 ?_
  refine lv_iload_n hx hb dX10_exchange_7 rfl (lv_at hl 1 rfl) ?_
  refine x_ald C hP (by decide) xs_25 (by omega) (by omega) dX10_exchange_8 (fun x1 e2 => ?_)
  refine lv_istore_n (lv' := [(3, .int x1), (0, .ref (a 9)), (1, .int p1), (2, .int p2)]) hx hb dX10_exchange_9 rfl hl (by decide) rfl (fun ls hl => ?_)
  refine lv_aload_n hx hb dX10_exchange_10 rfl (lv_at hl 1 rfl) ?_
  refine x_getr (Or.inl fl_X10_32) C hP (by decide) xs_9 rfl dX10_exchange_11 ?_
  refine x_getr (Or.inr fl_X10_56) C hP (by decide) xs_6 rfl dX10_exchange_14 ?_
  refine lv_iload_n hx hb dX10_exchange_17 rfl (lv_at hl 2 rfl) ?_
  refine lv_aload_n hx hb dX10_exchange_18 rfl (lv_at hl 1 rfl) ?_
  refine x_getr (Or.inl fl_X10_32) C hP (by decide) xs_9 rfl dX10_exchange_19 ?_
  refine x_getr (Or.inr fl_X10_56) C hP (by decide) xs_6 rfl dX10_exchange_22 ?_
  refine lv_iload_n hx hb dX10_exchange_25 rfl (lv_at hl 3 rfl) ?_
  refine x_ald C hP (by decide) xs_25 (by omega) (by omega) dX10_exchange_26 (fun x3 e4 => ?_)
  refine x_ast (hI.updN rfl) C hP hD hS (by decide) xs_25 (by omega) (by omega) dX10_exchange_27 (fun g H locs eg hI hP hD hS => ?_)
  have h0c : g 0 = g0 0 := by rw [eg]; exact h0c
  refine lv_aload_n hx hb dX10_exchange_28 rfl (lv_at hl 1 rfl) ?_
  refine x_getr (Or.inl fl_X10_32) C hP (by decide) xs_9 rfl dX10_exchange_29 ?_
  refine x_getr (Or.inr fl_X10_56) C hP (by decide) xs_6 rfl dX10_exchange_32 ?_
  refine lv_iload_n hx hb dX10_exchange_35 rfl (lv_at hl 3 rfl) ?_
  refine lv_iload_n hx hb dX10_exchange_36 rfl (lv_at hl 0 rfl) ?_
  refine x_ast (hI.updN rfl) C hP hD hS (by decide) xs_25 (by omega) (by omega) dX10_exchange_37 (fun g H locs eg hI hP hD hS => ?_)
  have h0c : g 0 = g0 0 := by rw [eg]; exact h0c
  exact x_vret C hr hlk hP hD hS (g, L0) rfl ⟨hI, h0c⟩ (Nat.le_of_ble_eq_true rfl) (Nat.le_of_ble_eq_true rfl) dX10_exchange_38
set_option maxHeartbeats 4000000 in
set_option maxRecDepth 100000 in
theorem zX4_offer_13 (l : Launch) (G : kG) (sz : Nat) (b : Nat) (a : Nat → Nat) (g0 : Nat → Nat → Int32) (L0 : Nat → Nat → Int64) (hI : zI XT g0) (p1 : Int32) (p2 : Int32) : kM l yX4_offer cX4_offer 3 none { frames := 6, cells := 0, slots := 0, locals := 110 } G [.ref (a 13), .int p1, .int p2] (zw G (XS b) 105 a g0 L0) sz (kQv G (S := zS) (fun u => zI XT u.1 ∧ u.1 0 = g0 0) (fun u => zw G (XS b) 105 a u.1 u.2)) := by
  refine kM.of (by decide) (Nat.le_of_ble_eq_true rfl) ?_
  intro p e s m below meth c A ls H C hr hlk hnm hP hD hS hl
  have C : kC G p s m c cX4_offer 3 RX4 A := C
  have hx := C.1
  have hb := C.2.1
  have hl : lv_has ls 3 [(0, .ref (a 13)), (1, .int p1), (2, .int p2)] := hl
  have h0c : g0 0 = g0 0 := rfl
  obtain ⟨locs, hlocs⟩ : ∃ q : List Loc, q = [] := ⟨_, rfl⟩
  rw [← hlocs] at hS
  rw [← hlocs]
  refine lv_aload_n hx hb dX4_offer_0 rfl (lv_at hl 0 rfl) ?_
  refine x_getT hI rfl (Or.inl fl_X4_9) C hP (by decide) xs_13 rfl dX4_offer_1 (fun x1 e2 b3 => ?_)
  have J14 : ∀ (g : Nat → Nat → Int32) (L : Nat → Nat → Int64) (H : Heap) (locs : List Loc) (ls : Array Slot), zI XT g → g 0 = g0 0 → va_P G.1 vwCl (zw G (XS b) 105 a g L) H → va_D A (zw G (XS b) 105 a g L) → va_S A s.heap H locs → lv_has ls 3 [] → W p l e { frames := 6, cells := 0, slots := 0, locals := 110 } s m [.ref (a 13), .int p1, .int p2].toArray below meth c H locs 0 0 (MQ below ((kQv G (S := zS) (fun u => zI XT u.1 ∧ u.1 0 = g0 0) (fun u => zw G (XS b) 105 a u.1 u.2)) A) [.ref (a 13), .int p1, .int p2].toArray s 0 0 A) (F0 m 46 ls []) := by
    intro g L H locs ls hI h0c hP hD hS hl
    exact x_vret C hr hlk hP hD hS (g, L) rfl ⟨hI, h0c⟩ (Nat.le_of_ble_eq_true rfl) (Nat.le_of_ble_eq_true rfl) dX4_offer_46
  have J15 : ∀ (g : Nat → Nat → Int32) (L : Nat → Nat → Int64) (H : Heap) (locs : List Loc) (ls : Array Slot), zI XT g → g 0 = g0 0 → va_P G.1 vwCl (zw G (XS b) 105 a g L) H → va_D A (zw G (XS b) 105 a g L) → va_S A s.heap H locs → lv_has ls 3 [(0, .ref (a 13)), (1, .int p1), (2, .int p2)] → W p l e { frames := 6, cells := 0, slots := 0, locals := 110 } s m [.ref (a 13), .int p1, .int p2].toArray below meth c H locs 0 0 (MQ below ((kQv G (S := zS) (fun u => zI XT u.1 ∧ u.1 0 = g0 0) (fun u => zw G (XS b) 105 a u.1 u.2)) A) [.ref (a 13), .int p1, .int p2].toArray s 0 0 A) (F0 m 31 ls []) := by
    intro g L H locs ls hI h0c hP hD hS hl
    refine lv_aload_n hx hb dX4_offer_31 rfl (lv_at hl 0 rfl) ?_
    refine lv_iconst (v := 1) hx hb dX4_offer_32 (by decide) ?_
    refine x_puti (hI.upd rfl (by decide) (by decide)) (Or.inl fl_X4_9) ft_X4_0 C hP hD hS (by decide) xs_13 rfl rfl rfl dX4_offer_33 (fun g H locs eg hI hP hD hS => ?_)
    have h0c : g 0 = g0 0 := by rw [eg]; exact h0c
    refine lv_aload_n hx hb dX4_offer_36 rfl (lv_at hl 0 rfl) ?_
    refine lv_iload_n hx hb dX4_offer_37 rfl (lv_at hl 1 rfl) ?_
    refine x_puti (hI.updN rfl) (Or.inl fl_X4_19) ft_X4_1 C hP hD hS (by decide) xs_13 rfl rfl rfl dX4_offer_38 (fun g H locs eg hI hP hD hS => ?_)
    have h0c : g 0 = g0 0 := by rw [eg]; exact h0c
    refine lv_aload_n hx hb dX4_offer_41 rfl (lv_at hl 0 rfl) ?_
    refine lv_iload_n hx hb dX4_offer_42 rfl (lv_at hl 2 rfl) ?_
    refine x_puti (hI.updN rfl) (Or.inl fl_X4_15) ft_X4_2 C hP hD hS (by decide) xs_13 rfl rfl rfl dX4_offer_43 (fun g H locs eg hI hP hD hS => ?_)
    have h0c : g 0 = g0 0 := by rw [eg]; exact h0c
    exact J14 g L H locs ls hI h0c hP hD hS (lv_sub hl [] rfl)
  refine lv_if_eq (x := x1) (tgt := 31) hx hb dX4_offer_4 (by decide) (fun c16 => ?_) (fun c16 => ?_)
  ·
    have c16 := icc_eq (m := x1.toInt) (n := 0) rfl (by decide) c16
    exact J15 g0 L0 H locs ls hI h0c hP hD hS (lv_sub hl [0, 1, 2] rfl)
  ·
    have c16 := icc_neq (m := x1.toInt) (n := 0) rfl (by decide) c16
    refine lv_iload_n hx hb dX4_offer_7 rfl (lv_at hl 2 rfl) ?_
    refine lv_aload_n hx hb dX4_offer_8 rfl (lv_at hl 0 rfl) ?_
    refine x_geti (Or.inl fl_X4_15) C hP (by decide) xs_13 rfl dX4_offer_9 (fun x17 e18 => ?_)
    refine lv_icmp_lt (x := p2) (y := x17) (tgt := 31) hx hb dX4_offer_12 (by decide) (fun c19 => ?_) (fun c19 => ?_)
    ·
      have c19 := icc_lt (m := p2.toInt) (n := x17.toInt) rfl rfl c19
      exact J15 g0 L0 H locs ls hI h0c hP hD hS (lv_sub hl [0, 1, 2] rfl)
    ·
      have c19 := icc_nlt (m := p2.toInt) (n := x17.toInt) rfl rfl c19
      refine lv_iload_n hx hb dX4_offer_15 rfl (lv_at hl 2 rfl) ?_
      refine lv_aload_n hx hb dX4_offer_16 rfl (lv_at hl 0 rfl) ?_
      refine x_geti (Or.inl fl_X4_15) C hP (by decide) xs_13 rfl dX4_offer_17 (fun x20 e21 => ?_)
      refine lv_icmp_ne (x := p2) (y := x20) (tgt := 46) hx hb dX4_offer_20 (by decide) (fun c22 => ?_) (fun c22 => ?_)
      ·
        have c22 := icc_neq (m := p2.toInt) (n := x20.toInt) rfl rfl c22
        exact J14 g0 L0 H locs ls hI h0c hP hD hS (lv_sub hl [] rfl)
      ·
        have c22 := icc_eq (m := p2.toInt) (n := x20.toInt) rfl rfl c22
        refine lv_iload_n hx hb dX4_offer_23 rfl (lv_at hl 1 rfl) ?_
        refine lv_aload_n hx hb dX4_offer_24 rfl (lv_at hl 0 rfl) ?_
        refine x_geti (Or.inl fl_X4_19) C hP (by decide) xs_13 rfl dX4_offer_25 (fun x23 e24 => ?_)
        refine lv_icmp_ge (x := p1) (y := x23) (tgt := 46) hx hb dX4_offer_28 (by decide) (fun c25 => ?_) (fun c25 => ?_)
        ·
          have c25 := icc_le (m := x23.toInt) (n := p1.toInt) rfl rfl c25
          exact J14 g0 L0 H locs ls hI h0c hP hD hS (lv_sub hl [] rfl)
        ·
          have c25 := icc_nle (m := x23.toInt) (n := p1.toInt) rfl rfl c25
          exact J15 g0 L0 H locs ls hI h0c hP hD hS (lv_sub hl [0, 1, 2] rfl)
set_option maxHeartbeats 4000000 in
set_option maxRecDepth 100000 in
theorem zX10_swapped_9 (l : Launch) (G : kG) (sz : Nat) (b : Nat) (a : Nat → Nat) (g0 : Nat → Nat → Int32) (L0 : Nat → Nat → Int64) (hI : zI XT g0) (p1 : Int32) : kM l yX10_swapped cX10_swapped 5 (some .int) { frames := 11, cells := 0, slots := 0, locals := 225 } G [.ref (a 9), .int p1] (zw G (XS b) 105 a g0 L0) sz (kQi G (S := zS) (fun r u => zI XT u.1 ∧ u.1 0 = g0 0) (fun u => zw G (XS b) 105 a u.1 u.2)) := by
  refine kM.of (by decide) (Nat.le_of_ble_eq_true rfl) ?_
  intro p e s m below meth c A ls H C hr hlk hnm hP hD hS hl
  have C : kC G p s m c cX10_swapped 5 RX10 A := C
  have hx := C.1
  have hb := C.2.1
  have hl : lv_has ls 5 [(0, .ref (a 9)), (1, .int p1)] := hl
  have h0c : g0 0 = g0 0 := rfl
  obtain ⟨locs, hlocs⟩ : ∃ q : List Loc, q = [] := ⟨_, rfl⟩
  rw [← hlocs] at hS
  rw [← hlocs]
  refine lv_aload_n hx hb dX10_swapped_0 rfl (lv_at hl 0 rfl) ?_
  refine x_getr (Or.inl fl_X10_22) C hP (by decide) xs_9 rfl dX10_swapped_1 ?_
  refine lv_iconst (v := 0) hx hb dX10_swapped_4 (by decide) ?_
  refine x_callNi (rest := []) li_X10_77 C (zX1_lostFrom_8 l G H.size b a g0 L0 hI 0 (by decide)) (kR rfl) hP hD hS 8 1 rfl (zat (by decide) xs_8) rfl hl.1 rfl (Nat.le_of_ble_eq_true rfl) dX10_swapped_5 (fun x2 u3 H locs hw1 hP hD hS => ?_)
  obtain ⟨g, L⟩ := u3
  obtain ⟨hI, h0n⟩ := hw1
  have h0c : g 0 = g0 0 := h0n.trans h0c
  have hI : zI XT g := hI
  have hP : va_P G.1 vwCl (zw G (XS b) 105 a g L) H := hP
  have hD : va_D A (zw G (XS b) 105 a g L) := hD
  refine lv_istore_n (lv' := [(2, .int x2), (0, .ref (a 9)), (1, .int p1)]) hx hb dX10_swapped_8 rfl hl (by decide) rfl (fun ls hl => ?_)
  refine lv_aload_n hx hb dX10_swapped_9 rfl (lv_at hl 1 rfl) ?_
  refine x_getr (Or.inl fl_X10_12) C hP (by decide) xs_9 rfl dX10_swapped_10 ?_
  refine x_callNv (rest := []) li_X10_81 C (zX4_clear_13 l G H.size b a g L hI) (kR rfl) hP hD hS 13 4 rfl (zat (by decide) xs_13) rfl hl.1 rfl (Nat.le_of_ble_eq_true rfl) dX10_swapped_13 (fun u8 H locs hw6 hP hD hS => ?_)
  obtain ⟨g, L⟩ := u8
  obtain ⟨hI, h0n⟩ := hw6
  have h0c : g 0 = g0 0 := h0n.trans h0c
  have hI : zI XT g := hI
  have hP : va_P G.1 vwCl (zw G (XS b) 105 a g L) H := hP
  have hD : va_D A (zw G (XS b) 105 a g L) := hD
  refine lv_iconst (v := 0) hx hb dX10_swapped_16 (by decide) ?_
  refine lv_istore_n (lv' := [(3, .int 0), (2, .int x2), (0, .ref (a 9)), (1, .int p1)]) hx hb dX10_swapped_17 rfl hl (by decide) rfl (fun ls hl => ?_)
  have lp2727 : ∀ fu : Nat, ∀ (x2725 : Int32) (g : Nat → Nat → Int32) (L : Nat → Nat → Int64) (H : Heap) (locs : List Loc) (ls : Array Slot), (0 ≤ x2725.toInt ∧ x2725.toInt ≤ 12) → zI XT g → g 0 = g0 0 → va_P G.1 vwCl (zw G (XS b) 105 a g L) H → va_D A (zw G (XS b) 105 a g L) → va_S A s.heap H locs → lv_has ls 5 [(0, .ref (a 9)), (1, .int p1), (2, .int x2), (3, .int x2725)] → 12 - x2725.toInt < (fu : Int) → W p l e { frames := 11, cells := 0, slots := 0, locals := 225 } s m [.ref (a 9), .int p1].toArray below meth c H locs 0 0 (MQ below ((kQi G (S := zS) (fun r u => zI XT u.1 ∧ u.1 0 = g0 0) (fun u => zw G (XS b) 105 a u.1 u.2)) A) [.ref (a 9), .int p1].toArray s 0 0 A) (F0 m 18 ls []) := by
    intro fu
    induction fu with
    | zero => intro x2725 g L H locs ls b2726 hI h0c hP hD hS hl hm; exact absurd hm (by omega)
    | succ fu ih =>
      intro x2725 g L H locs ls b2726 hI h0c hP hD hS hl hm
      have ih2728 := ih
      refine lv_iload_n hx hb dX10_swapped_18 rfl (lv_at hl 3 rfl) ?_
      refine lv_aload_n hx hb dX10_swapped_19 rfl (lv_at hl 0 rfl) ?_
      refine x_callVi (rest := [.int x2725]) li_X10_64 C (zX10_lessonCount_9 l G H.size b a g L hI) (kR rfl) hP hD hS 9 10 rfl (zat (by decide) xs_9) rfl hl.1 rfl (Nat.le_of_ble_eq_true rfl) dX10_swapped_20 (fun x2730 u2731 H locs hw2729 hP hD hS => ?_)
      obtain ⟨g, L⟩ := u2731
      obtain ⟨hI, h0n, b2732⟩ := hw2729
      have h0c : g 0 = g0 0 := h0n.trans h0c
      have hI : zI XT g := hI
      have hP : va_P G.1 vwCl (zw G (XS b) 105 a g L) H := hP
      have hD : va_D A (zw G (XS b) 105 a g L) := hD
      refine lv_icmp_ge (x := x2725) (y := x2730) (tgt := 88) hx hb dX10_swapped_23 (by decide) (fun c2734 => ?_) (fun c2734 => ?_)
      ·
        have c2734 := icc_le (m := x2730.toInt) (n := x2725.toInt) rfl rfl c2734
        refine lv_aload_n hx hb dX10_swapped_88 rfl (lv_at hl 0 rfl) ?_
        refine x_getr (Or.inl fl_X10_12) C hP (by decide) xs_9 rfl dX10_swapped_89 ?_
        refine x_getT hI rfl (Or.inr fl_X10_90) C hP (by decide) xs_13 rfl dX10_swapped_92 (fun x2735 e2736 b2737 => ?_)
        have J2748 : ∀ (x2749 : Int32) (g : Nat → Nat → Int32) (L : Nat → Nat → Int64) (H : Heap) (locs : List Loc) (ls : Array Slot), zI XT g → g 0 = g0 0 → va_P G.1 vwCl (zw G (XS b) 105 a g L) H → va_D A (zw G (XS b) 105 a g L) → va_S A s.heap H locs → lv_has ls 5 [] → W p l e { frames := 11, cells := 0, slots := 0, locals := 225 } s m [.ref (a 9), .int p1].toArray below meth c H locs 0 0 (MQ below ((kQi G (S := zS) (fun r u => zI XT u.1 ∧ u.1 0 = g0 0) (fun u => zw G (XS b) 105 a u.1 u.2)) A) [.ref (a 9), .int p1].toArray s 0 0 A) (F0 m 121 ls [.int x2749]) := by
          intro x2749 g L H locs ls hI h0c hP hD hS hl
          exact x_iret C hr hlk hP hD hS (g, L) rfl ⟨hI, h0c⟩ (Nat.le_of_ble_eq_true rfl) (Nat.le_of_ble_eq_true rfl) dX10_swapped_121
        have J2750 : ∀ (g : Nat → Nat → Int32) (L : Nat → Nat → Int64) (H : Heap) (locs : List Loc) (ls : Array Slot), zI XT g → g 0 = g0 0 → va_P G.1 vwCl (zw G (XS b) 105 a g L) H → va_D A (zw G (XS b) 105 a g L) → va_S A s.heap H locs → lv_has ls 5 [] → W p l e { frames := 11, cells := 0, slots := 0, locals := 225 } s m [.ref (a 9), .int p1].toArray below meth c H locs 0 0 (MQ below ((kQi G (S := zS) (fun r u => zI XT u.1 ∧ u.1 0 = g0 0) (fun u => zw G (XS b) 105 a u.1 u.2)) A) [.ref (a 9), .int p1].toArray s 0 0 A) (F0 m 120 ls []) := by
          intro g L H locs ls hI h0c hP hD hS hl
          refine lv_iconst (v := -1) hx hb dX10_swapped_120 (by decide) ?_
          exact J2748 (-1) g L H locs ls hI h0c hP hD hS (lv_sub hl [] rfl)
        refine lv_if_eq (x := x2735) (tgt := 120) hx hb dX10_swapped_95 (by decide) (fun c2751 => ?_) (fun c2751 => ?_)
        ·
          have c2751 := icc_eq (m := x2735.toInt) (n := 0) rfl (by decide) c2751
          exact J2750 g L H locs ls hI h0c hP hD hS (lv_sub hl [] rfl)
        ·
          have c2751 := icc_neq (m := x2735.toInt) (n := 0) rfl (by decide) c2751
          refine lv_aload_n hx hb dX10_swapped_98 rfl (lv_at hl 0 rfl) ?_
          refine x_getr (Or.inl fl_X10_12) C hP (by decide) xs_9 rfl dX10_swapped_99 ?_
          refine x_geti (Or.inr fl_X10_94) C hP (by decide) xs_13 rfl dX10_swapped_102 (fun x2752 e2753 => ?_)
          refine lv_iload_n hx hb dX10_swapped_105 rfl (lv_at hl 2 rfl) ?_
          refine lv_icmp_ge (x := x2752) (y := x2) (tgt := 120) hx hb dX10_swapped_106 (by decide) (fun c2754 => ?_) (fun c2754 => ?_)
          ·
            have c2754 := icc_le (m := x2.toInt) (n := x2752.toInt) rfl rfl c2754
            exact J2750 g L H locs ls hI h0c hP hD hS (lv_sub hl [] rfl)
          ·
            have c2754 := icc_nle (m := x2.toInt) (n := x2752.toInt) rfl rfl c2754
            refine lv_aload_n hx hb dX10_swapped_109 rfl (lv_at hl 0 rfl) ?_
            refine x_getr (Or.inl fl_X10_12) C hP (by decide) xs_9 rfl dX10_swapped_110 ?_
            refine lv_iload_n hx hb dX10_swapped_113 rfl (lv_at hl 1 rfl) ?_
            refine x_callNi (rest := []) li_X10_97 C (zX4_told_13 l G H.size b a g L hI p1) (kR rfl) hP hD hS 13 4 rfl (zat (by decide) xs_13) rfl hl.1 rfl (Nat.le_of_ble_eq_true rfl) dX10_swapped_114 (fun x2756 u2757 H locs hw2755 hP hD hS => ?_)
            obtain ⟨g, L⟩ := u2757
            obtain ⟨hI, h0n⟩ := hw2755
            have h0c : g 0 = g0 0 := h0n.trans h0c
            have hI : zI XT g := hI
            have hP : va_P G.1 vwCl (zw G (XS b) 105 a g L) H := hP
            have hD : va_D A (zw G (XS b) 105 a g L) := hD
            refine lv_goto (tgt := 121) hx hb dX10_swapped_117 (by decide) ?_
            exact J2748 x2756 g L H locs ls hI h0c hP hD hS (lv_sub hl [] rfl)
      ·
        have c2734 := icc_nle (m := x2730.toInt) (n := x2725.toInt) rfl rfl c2734
        refine lv_iload_n hx hb dX10_swapped_26 rfl (lv_at hl 3 rfl) ?_
        refine lv_iconst (v := 1) hx hb dX10_swapped_27 (by decide) ?_
        refine lv_iadd hx hb dX10_swapped_28 ?_
        refine x_val (ic_addc (m := x2725.toInt) (n := 1) rfl (by decide) (by omega) (by omega)) (fun x2760 e2761 => ?_)
        refine lv_istore (lv' := [(4, .int x2760), (0, .ref (a 9)), (1, .int p1), (2, .int x2), (3, .int x2725)]) hx hb dX10_swapped_29 hl (by decide) rfl (fun ls hl => ?_)
        have lp2870 : ∀ fu : Nat, ∀ (x2868 : Int32) (g : Nat → Nat → Int32) (L : Nat → Nat → Int64) (H : Heap) (locs : List Loc) (ls : Array Slot), (1 ≤ x2868.toInt ∧ x2868.toInt ≤ 12) → zI XT g → g 0 = g0 0 → va_P G.1 vwCl (zw G (XS b) 105 a g L) H → va_D A (zw G (XS b) 105 a g L) → va_S A s.heap H locs → lv_has ls 5 [(0, .ref (a 9)), (1, .int p1), (2, .int x2), (3, .int x2725), (4, .int x2868)] → 12 - x2868.toInt < (fu : Int) → W p l e { frames := 11, cells := 0, slots := 0, locals := 225 } s m [.ref (a 9), .int p1].toArray below meth c H locs 0 0 (MQ below ((kQi G (S := zS) (fun r u => zI XT u.1 ∧ u.1 0 = g0 0) (fun u => zw G (XS b) 105 a u.1 u.2)) A) [.ref (a 9), .int p1].toArray s 0 0 A) (F0 m 31 ls []) := by
          intro fu
          induction fu with
          | zero => intro x2868 g L H locs ls b2869 hI h0c hP hD hS hl hm; exact absurd hm (by omega)
          | succ fu ih =>
            intro x2868 g L H locs ls b2869 hI h0c hP hD hS hl hm
            have ih2871 := ih
            refine lv_iload hx hb dX10_swapped_31 (lv_at hl 4 rfl) ?_
            refine lv_aload_n hx hb dX10_swapped_33 rfl (lv_at hl 0 rfl) ?_
            refine x_callVi (rest := [.int x2868]) li_X10_64 C (zX10_lessonCount_9 l G H.size b a g L hI) (kR rfl) hP hD hS 9 10 rfl (zat (by decide) xs_9) rfl hl.1 rfl (Nat.le_of_ble_eq_true rfl) dX10_swapped_34 (fun x2873 u2874 H locs hw2872 hP hD hS => ?_)
            obtain ⟨g, L⟩ := u2874
            obtain ⟨hI, h0n, b2875⟩ := hw2872
            have h0c : g 0 = g0 0 := h0n.trans h0c
            have hI : zI XT g := hI
            have hP : va_P G.1 vwCl (zw G (XS b) 105 a g L) H := hP
            have hD : va_D A (zw G (XS b) 105 a g L) := hD
            refine lv_icmp_ge (x := x2868) (y := x2873) (tgt := 82) hx hb dX10_swapped_37 (by decide) (fun c2877 => ?_) (fun c2877 => ?_)
            ·
              have c2877 := icc_le (m := x2873.toInt) (n := x2868.toInt) rfl rfl c2877
              obtain ⟨x2878, e2879q, e2879⟩ : ∃ z : Int32, x2725 + Int32.ofInt (1) = z ∧ z.toInt = x2725.toInt + (1) := ⟨_, rfl, ic_addc rfl (by decide) (by omega) (by omega)⟩
              refine lv_iinc (v := x2878) (lv' := [(3, .int x2878), (0, .ref (a 9)), (1, .int p1), (2, .int x2), (4, .int x2868)]) hx hb dX10_swapped_82 hl (k := 3) rfl e2879q (by decide) rfl (fun ls hl => ?_)
              refine lv_goto (tgt := 18) hx hb dX10_swapped_85 (by decide) ?_
              exact ih2728 x2878 g L H locs ls (by omega) hI h0c hP hD hS (lv_sub hl [1, 2, 3, 0] rfl) (by omega)
            ·
              have c2877 := icc_nle (m := x2873.toInt) (n := x2868.toInt) rfl rfl c2877
              refine lv_aload_n hx hb dX10_swapped_40 rfl (lv_at hl 0 rfl) ?_
              refine lv_iload_n hx hb dX10_swapped_41 rfl (lv_at hl 3 rfl) ?_
              refine lv_iload hx hb dX10_swapped_42 (lv_at hl 4 rfl) ?_
              refine x_callVv (rest := []) li_X10_84 C (zX10_exchange_9 l G H.size b a g L hI x2725 x2868 (by omega) (by omega)) (kR rfl) hP hD hS 9 10 rfl (zat (by decide) xs_9) rfl hl.1 rfl (Nat.le_of_ble_eq_true rfl) dX10_swapped_44 (fun u2882 H locs hw2880 hP hD hS => ?_)
              obtain ⟨g, L⟩ := u2882
              obtain ⟨hI, h0n⟩ := hw2880
              have h0c : g 0 = g0 0 := h0n.trans h0c
              have hI : zI XT g := hI
              have hP : va_P G.1 vwCl (zw G (XS b) 105 a g L) H := hP
              have hD : va_D A (zw G (XS b) 105 a g L) := hD
              refine lv_aload_n hx hb dX10_swapped_47 rfl (lv_at hl 0 rfl) ?_
              refine x_getr (Or.inl fl_X10_12) C hP (by decide) xs_9 rfl dX10_swapped_48 ?_
              refine lv_bipush (v := 100) hx hb dX10_swapped_51 (by decide) ?_
              refine lv_iload_n hx hb dX10_swapped_53 rfl (lv_at hl 3 rfl) ?_
              refine lv_imul hx hb dX10_swapped_54 ?_
              refine x_val (ic_mulc (m := 100) (n := x2725.toInt) (by decide) rfl (by omega) (by omega)) (fun x2885 e2886 => ?_)
              refine lv_iload hx hb dX10_swapped_55 (lv_at hl 4 rfl) ?_
              refine lv_iadd hx hb dX10_swapped_57 ?_
              refine x_val (ic_addc (m := x2885.toInt) (n := x2868.toInt) rfl rfl (by omega) (by omega)) (fun x2887 e2888 => ?_)
              refine lv_aload_n hx hb dX10_swapped_58 rfl (lv_at hl 0 rfl) ?_
              refine x_getr (Or.inl fl_X10_22) C hP (by decide) xs_9 rfl dX10_swapped_59 ?_
              refine lv_iconst (v := 0) hx hb dX10_swapped_62 (by decide) ?_
              refine x_callNi (rest := [.int x2887, .ref (a 13)]) li_X10_77 C (zX1_lostFrom_8 l G H.size b a g L hI 0 (by decide)) (kR rfl) hP hD hS 8 1 rfl (zat (by decide) xs_8) rfl hl.1 rfl (Nat.le_of_ble_eq_true rfl) dX10_swapped_63 (fun x2890 u2891 H locs hw2889 hP hD hS => ?_)
              obtain ⟨g, L⟩ := u2891
              obtain ⟨hI, h0n⟩ := hw2889
              have h0c : g 0 = g0 0 := h0n.trans h0c
              have hI : zI XT g := hI
              have hP : va_P G.1 vwCl (zw G (XS b) 105 a g L) H := hP
              have hD : va_D A (zw G (XS b) 105 a g L) := hD
              refine x_callNv (rest := []) li_X10_87 C (zX4_offer_13 l G H.size b a g L hI x2887 x2890) (kR rfl) hP hD hS 13 4 rfl (zat (by decide) xs_13) rfl hl.1 rfl (Nat.le_of_ble_eq_true rfl) dX10_swapped_66 (fun u2896 H locs hw2894 hP hD hS => ?_)
              obtain ⟨g, L⟩ := u2896
              obtain ⟨hI, h0n⟩ := hw2894
              have h0c : g 0 = g0 0 := h0n.trans h0c
              have hI : zI XT g := hI
              have hP : va_P G.1 vwCl (zw G (XS b) 105 a g L) H := hP
              have hD : va_D A (zw G (XS b) 105 a g L) := hD
              refine lv_aload_n hx hb dX10_swapped_69 rfl (lv_at hl 0 rfl) ?_
              refine lv_iload_n hx hb dX10_swapped_70 rfl (lv_at hl 3 rfl) ?_
              refine lv_iload hx hb dX10_swapped_71 (lv_at hl 4 rfl) ?_
              refine x_callVv (rest := []) li_X10_84 C (zX10_exchange_9 l G H.size b a g L hI x2725 x2868 (by omega) (by omega)) (kR rfl) hP hD hS 9 10 rfl (zat (by decide) xs_9) rfl hl.1 rfl (Nat.le_of_ble_eq_true rfl) dX10_swapped_73 (fun u2901 H locs hw2899 hP hD hS => ?_)
              obtain ⟨g, L⟩ := u2901
              obtain ⟨hI, h0n⟩ := hw2899
              have h0c : g 0 = g0 0 := h0n.trans h0c
              have hI : zI XT g := hI
              have hP : va_P G.1 vwCl (zw G (XS b) 105 a g L) H := hP
              have hD : va_D A (zw G (XS b) 105 a g L) := hD
              obtain ⟨x2904, e2905q, e2905⟩ : ∃ z : Int32, x2868 + Int32.ofInt (1) = z ∧ z.toInt = x2868.toInt + (1) := ⟨_, rfl, ic_addc rfl (by decide) (by omega) (by omega)⟩
              refine lv_iinc (v := x2904) (lv' := [(4, .int x2904), (0, .ref (a 9)), (1, .int p1), (2, .int x2), (3, .int x2725)]) hx hb dX10_swapped_76 hl (k := 4) rfl e2905q (by decide) rfl (fun ls hl => ?_)
              refine lv_goto (tgt := 31) hx hb dX10_swapped_79 (by decide) ?_
              exact ih2871 x2904 g L H locs ls (by omega) hI h0c hP hD hS (lv_sub hl [1, 2, 3, 4, 0] rfl) (by omega)
        exact lp2870 13 x2760 g L H locs ls (by omega) hI h0c hP hD hS (lv_sub hl [1, 2, 3, 4, 0] rfl) (by omega)
  have hc_ : (0 : Int32).toInt = 0 := by decide
  exact lp2727 14 0 g L H locs ls (by decide) hI h0c hP hD hS (lv_sub hl [2, 3, 1, 0] rfl) (by omega)
set_option maxHeartbeats 4000000 in
set_option maxRecDepth 100000 in
theorem zX11_mostOf (l : Launch) (G : kG) (sz : Nat) (b : Nat) (a : Nat → Nat) (g0 : Nat → Nat → Int32) (L0 : Nat → Nat → Int64) (hI : zI XT g0) (p1 : Int32) : kM l yX11_mostOf cX11_mostOf 1 (some .int) { frames := 6, cells := 0, slots := 0, locals := 110 } G [.int p1] (zw G (XS b) 105 a g0 L0) sz (kQi G (S := zS) (fun r u => zI XT u.1 ∧ u.1 0 = g0 0 ∧ (9 ≤ r.toInt ∧ r.toInt ≤ 99)) (fun u => zw G (XS b) 105 a u.1 u.2)) := by
  refine kM.of (by decide) (Nat.le_of_ble_eq_true rfl) ?_
  intro p e s m below meth c A ls H C hr hlk hnm hP hD hS hl
  have C : kC G p s m c cX11_mostOf 1 RX11 A := C
  have hx := C.1
  have hb := C.2.1
  have hl : lv_has ls 1 [(0, .int p1)] := hl
  have h0c : g0 0 = g0 0 := rfl
  obtain ⟨locs, hlocs⟩ : ∃ q : List Loc, q = [] := ⟨_, rfl⟩
  rw [← hlocs] at hS
  rw [← hlocs]
  refine lv_iload_n hx hb dX11_mostOf_0 rfl (lv_at hl 0 rfl) ?_
  by_cases c2 : p1.toInt = 0
  ·
    refine lv_tableIn (off := 27) (tgt := 28) hx hb dX11_mostOf_1 (by omega) (by omega) (by rw [c2]; rfl) (by decide) ?_
    refine lv_bipush (v := 60) hx hb dX11_mostOf_28 (by decide) ?_
    exact x_iret C hr hlk hP hD hS (g0, L0) rfl ⟨hI, h0c, by decide⟩ (Nat.le_of_ble_eq_true rfl) (Nat.le_of_ble_eq_true rfl) dX11_mostOf_30
  by_cases c3 : p1.toInt = 1
  ·
    refine lv_tableIn (off := 30) (tgt := 31) hx hb dX11_mostOf_1 (by omega) (by omega) (by rw [c3]; rfl) (by decide) ?_
    refine lv_bipush (v := 30) hx hb dX11_mostOf_31 (by decide) ?_
    exact x_iret C hr hlk hP hD hS (g0, L0) rfl ⟨hI, h0c, by decide⟩ (Nat.le_of_ble_eq_true rfl) (Nat.le_of_ble_eq_true rfl) dX11_mostOf_33
  by_cases c4 : p1.toInt = 2
  ·
    refine lv_tableIn (off := 33) (tgt := 34) hx hb dX11_mostOf_1 (by omega) (by omega) (by rw [c4]; rfl) (by decide) ?_
    refine lv_bipush (v := 9) hx hb dX11_mostOf_34 (by decide) ?_
    exact x_iret C hr hlk hP hD hS (g0, L0) rfl ⟨hI, h0c, by decide⟩ (Nat.le_of_ble_eq_true rfl) (Nat.le_of_ble_eq_true rfl) dX11_mostOf_36
  refine lv_tableOut (tgt := 37) hx hb dX11_mostOf_1 (by omega) (by decide) ?_
  refine lv_bipush (v := 99) hx hb dX11_mostOf_37 (by decide) ?_
  exact x_iret C hr hlk hP hD hS (g0, L0) rfl ⟨hI, h0c, by decide⟩ (Nat.le_of_ble_eq_true rfl) (Nat.le_of_ble_eq_true rfl) dX11_mostOf_39
set_option maxHeartbeats 4000000 in
set_option maxRecDepth 100000 in
theorem zX10_leastBy_9 (l : Launch) (G : kG) (sz : Nat) (b : Nat) (a : Nat → Nat) (g0 : Nat → Nat → Int32) (L0 : Nat → Nat → Int64) (hI : zI XT g0) (p1 : Int32) (p2 : Int32) (p3 : Int32) (hp2 : 0 ≤ p2.toInt ∧ p2.toInt ≤ 11) : kM l yX10_leastBy cX10_leastBy 6 (some .int) { frames := 11, cells := 0, slots := 0, locals := 225 } G [.ref (a 9), .int p1, .int p2, .int p3] (zw G (XS b) 105 a g0 L0) sz (kQi G (S := zS) (fun r u => zI XT u.1 ∧ u.1 0 = g0 0) (fun u => zw G (XS b) 105 a u.1 u.2)) := by
  refine kM.of (by decide) (Nat.le_of_ble_eq_true rfl) ?_
  intro p e s m below meth c A ls H C hr hlk hnm hP hD hS hl
  have C : kC G p s m c cX10_leastBy 6 RX10 A := C
  have hx := C.1
  have hb := C.2.1
  have hl : lv_has ls 6 [(0, .ref (a 9)), (1, .int p1), (2, .int p2), (3, .int p3)] := hl
  have h0c : g0 0 = g0 0 := rfl
  obtain ⟨locs, hlocs⟩ : ∃ q : List Loc, q = [] := ⟨_, rfl⟩
  rw [← hlocs] at hS
  rw [← hlocs]
  refine lv_aload_n hx hb dX10_leastBy_0 rfl (lv_at hl 0 rfl) ?_
  refine x_getr (Or.inl fl_X10_32) C hP (by decide) xs_9 rfl dX10_leastBy_1 ?_
  refine lv_iload_n hx hb dX10_leastBy_4 rfl (lv_at hl 1 rfl) ?_
  refine lv_iload_n hx hb dX10_leastBy_5 rfl (lv_at hl 2 rfl) ?_
  refine x_callNi (rest := []) li_X10_100 C (zX3_value_6 l G H.size b a g0 L0 hI p1 p2 (by omega)) (kR rfl) hP hD hS 6 3 rfl (zat (by decide) xs_6) rfl hl.1 rfl (Nat.le_of_ble_eq_true rfl) dX10_leastBy_6 (fun x2 u3 H locs hw1 hP hD hS => ?_)
  obtain ⟨g, L⟩ := u3
  obtain ⟨hI, h0n⟩ := hw1
  have h0c : g 0 = g0 0 := h0n.trans h0c
  have hI : zI XT g := hI
  have hP : va_P G.1 vwCl (zw G (XS b) 105 a g L) H := hP
  have hD : va_D A (zw G (XS b) 105 a g L) := hD
  refine lv_istore (lv' := [(4, .int x2), (0, .ref (a 9)), (1, .int p1), (2, .int p2), (3, .int p3)]) hx hb dX10_leastBy_9 hl (by decide) rfl (fun ls hl => ?_)
  refine lv_aload_n hx hb dX10_leastBy_11 rfl (lv_at hl 1 rfl) ?_
  refine x_getr (Or.inl fl_X10_22) C hP (by decide) xs_9 rfl dX10_leastBy_12 ?_
  refine lv_iconst (v := 0) hx hb dX10_leastBy_15 (by decide) ?_
  refine x_callNv (rest := []) li_X10_43 C (zX1_runFrom_8 l G H.size b a g L hI 0 (by decide)) (kR rfl) hP hD hS 8 1 rfl (zat (by decide) xs_8) rfl hl.1 rfl (Nat.le_of_ble_eq_true rfl) dX10_leastBy_16 (fun u8 H locs hw6 hP hD hS => ?_)
  obtain ⟨g, L⟩ := u8
  obtain ⟨hI, h0n⟩ := hw6
  have h0c : g 0 = g0 0 := h0n.trans h0c
  have hI : zI XT g := hI
  have hP : va_P G.1 vwCl (zw G (XS b) 105 a g L) H := hP
  have hD : va_D A (zw G (XS b) 105 a g L) := hD
  refine lv_aload_n hx hb dX10_leastBy_19 rfl (lv_at hl 1 rfl) ?_
  refine x_getr (Or.inl fl_X10_12) C hP (by decide) xs_9 rfl dX10_leastBy_20 ?_
  refine x_callNv (rest := []) li_X10_81 C (zX4_clear_13 l G H.size b a g L hI) (kR rfl) hP hD hS 13 4 rfl (zat (by decide) xs_13) rfl hl.1 rfl (Nat.le_of_ble_eq_true rfl) dX10_leastBy_23 (fun u13 H locs hw11 hP hD hS => ?_)
  obtain ⟨g, L⟩ := u13
  obtain ⟨hI, h0n⟩ := hw11
  have h0c : g 0 = g0 0 := h0n.trans h0c
  have hI : zI XT g := hI
  have hP : va_P G.1 vwCl (zw G (XS b) 105 a g L) H := hP
  have hD : va_D A (zw G (XS b) 105 a g L) := hD
  refine lv_iconst (v := 0) hx hb dX10_leastBy_26 (by decide) ?_
  refine lv_istore (lv' := [(5, .int 0), (4, .int x2), (0, .ref (a 9)), (1, .int p1), (2, .int p2), (3, .int p3)]) hx hb dX10_leastBy_27 hl (by decide) rfl (fun ls hl => ?_)
  have lp434 : ∀ fu : Nat, ∀ (x432 : Int32) (g : Nat → Nat → Int32) (L : Nat → Nat → Int64) (H : Heap) (locs : List Loc) (ls : Array Slot), (0 ≤ x432.toInt ∧ x432.toInt ≤ 100) → zI XT g → g 0 = g0 0 → va_P G.1 vwCl (zw G (XS b) 105 a g L) H → va_D A (zw G (XS b) 105 a g L) → va_S A s.heap H locs → lv_has ls 6 [(0, .ref (a 9)), (1, .int p1), (2, .int p2), (3, .int p3), (4, .int x2), (5, .int x432)] → 100 - x432.toInt < (fu : Int) → W p l e { frames := 11, cells := 0, slots := 0, locals := 225 } s m [.ref (a 9), .int p1, .int p2, .int p3].toArray below meth c H locs 0 0 (MQ below ((kQi G (S := zS) (fun r u => zI XT u.1 ∧ u.1 0 = g0 0) (fun u => zw G (XS b) 105 a u.1 u.2)) A) [.ref (a 9), .int p1, .int p2, .int p3].toArray s 0 0 A) (F0 m 29 ls []) := by
    intro fu
    induction fu with
    | zero => intro x432 g L H locs ls b433 hI h0c hP hD hS hl hm; exact absurd hm (by omega)
    | succ fu ih =>
      intro x432 g L H locs ls b433 hI h0c hP hD hS hl hm
      have ih435 := ih
      refine lv_iload hx hb dX10_leastBy_29 (lv_at hl 5 rfl) ?_
      refine lv_iload_n hx hb dX10_leastBy_31 rfl (lv_at hl 1 rfl) ?_
      refine x_callTi (rest := [.int x432]) li_X10_104 C (zX11_mostOf l G H.size b a g L hI p1) (kR rfl) hP hD hS rfl hl.1 rfl (Nat.le_of_ble_eq_true rfl) dX10_leastBy_32 (fun x437 u438 H locs hw436 hP hD hS => ?_)
      obtain ⟨g, L⟩ := u438
      obtain ⟨hI, h0n, b439⟩ := hw436
      have h0c : g 0 = g0 0 := h0n.trans h0c
      have hI : zI XT g := hI
      have hP : va_P G.1 vwCl (zw G (XS b) 105 a g L) H := hP
      have hD : va_D A (zw G (XS b) 105 a g L) := hD
      refine lv_icmp_gt (x := x432) (y := x437) (tgt := 72) hx hb dX10_leastBy_35 (by decide) (fun c441 => ?_) (fun c441 => ?_)
      ·
        have c441 := icc_lt (m := x437.toInt) (n := x432.toInt) rfl rfl c441
        refine lv_aload_n hx hb dX10_leastBy_72 rfl (lv_at hl 0 rfl) ?_
        refine x_getr (Or.inl fl_X10_32) C hP (by decide) xs_9 rfl dX10_leastBy_73 ?_
        refine lv_iload_n hx hb dX10_leastBy_76 rfl (lv_at hl 1 rfl) ?_
        refine lv_iload_n hx hb dX10_leastBy_77 rfl (lv_at hl 2 rfl) ?_
        refine lv_iload hx hb dX10_leastBy_78 (lv_at hl 4 rfl) ?_
        refine x_callNv (rest := []) li_X10_107 C (zX3_put_6 l G H.size b a g L hI p1 p2 x2 (by omega)) (kR rfl) hP hD hS 6 3 rfl (zat (by decide) xs_6) rfl hl.1 rfl (Nat.le_of_ble_eq_true rfl) dX10_leastBy_80 (fun u444 H locs hw442 hP hD hS => ?_)
        obtain ⟨g, L⟩ := u444
        obtain ⟨hI, h0n⟩ := hw442
        have h0c : g 0 = g0 0 := h0n.trans h0c
        have hI : zI XT g := hI
        have hP : va_P G.1 vwCl (zw G (XS b) 105 a g L) H := hP
        have hD : va_D A (zw G (XS b) 105 a g L) := hD
        refine lv_aload_n hx hb dX10_leastBy_83 rfl (lv_at hl 0 rfl) ?_
        refine x_getr (Or.inl fl_X10_12) C hP (by decide) xs_9 rfl dX10_leastBy_84 ?_
        refine lv_iload_n hx hb dX10_leastBy_87 rfl (lv_at hl 3 rfl) ?_
        refine x_callNi (rest := []) li_X10_97 C (zX4_told_13 l G H.size b a g L hI p3) (kR rfl) hP hD hS 13 4 rfl (zat (by decide) xs_13) rfl hl.1 rfl (Nat.le_of_ble_eq_true rfl) dX10_leastBy_88 (fun x448 u449 H locs hw447 hP hD hS => ?_)
        obtain ⟨g, L⟩ := u449
        obtain ⟨hI, h0n⟩ := hw447
        have h0c : g 0 = g0 0 := h0n.trans h0c
        have hI : zI XT g := hI
        have hP : va_P G.1 vwCl (zw G (XS b) 105 a g L) H := hP
        have hD : va_D A (zw G (XS b) 105 a g L) := hD
        exact x_iret C hr hlk hP hD hS (g, L) rfl ⟨hI, h0c⟩ (Nat.le_of_ble_eq_true rfl) (Nat.le_of_ble_eq_true rfl) dX10_leastBy_91
      ·
        have c441 := icc_nlt (m := x437.toInt) (n := x432.toInt) rfl rfl c441
        refine lv_aload_n hx hb dX10_leastBy_38 rfl (lv_at hl 0 rfl) ?_
        refine x_getr (Or.inl fl_X10_32) C hP (by decide) xs_9 rfl dX10_leastBy_39 ?_
        refine lv_iload_n hx hb dX10_leastBy_42 rfl (lv_at hl 1 rfl) ?_
        refine lv_iload_n hx hb dX10_leastBy_43 rfl (lv_at hl 2 rfl) ?_
        refine lv_iload hx hb dX10_leastBy_44 (lv_at hl 5 rfl) ?_
        refine x_callNv (rest := []) li_X10_107 C (zX3_put_6 l G H.size b a g L hI p1 p2 x432 (by omega)) (kR rfl) hP hD hS 6 3 rfl (zat (by decide) xs_6) rfl hl.1 rfl (Nat.le_of_ble_eq_true rfl) dX10_leastBy_46 (fun u454 H locs hw452 hP hD hS => ?_)
        obtain ⟨g, L⟩ := u454
        obtain ⟨hI, h0n⟩ := hw452
        have h0c : g 0 = g0 0 := h0n.trans h0c
        have hI : zI XT g := hI
        have hP : va_P G.1 vwCl (zw G (XS b) 105 a g L) H := hP
        have hD : va_D A (zw G (XS b) 105 a g L) := hD
        refine lv_aload_n hx hb dX10_leastBy_49 rfl (lv_at hl 0 rfl) ?_
        refine x_getr (Or.inl fl_X10_12) C hP (by decide) xs_9 rfl dX10_leastBy_50 ?_
        refine lv_iload hx hb dX10_leastBy_53 (lv_at hl 5 rfl) ?_
        refine lv_aload_n hx hb dX10_leastBy_55 rfl (lv_at hl 0 rfl) ?_
        refine x_getr (Or.inl fl_X10_22) C hP (by decide) xs_9 rfl dX10_leastBy_56 ?_
        refine lv_iload_n hx hb dX10_leastBy_59 rfl (lv_at hl 2 rfl) ?_
        refine x_callNi (rest := [.int x432, .ref (a 13)]) li_X10_77 C (zX1_lostFrom_8 l G H.size b a g L hI p2 (by omega)) (kR rfl) hP hD hS 8 1 rfl (zat (by decide) xs_8) rfl hl.1 rfl (Nat.le_of_ble_eq_true rfl) dX10_leastBy_60 (fun x458 u459 H locs hw457 hP hD hS => ?_)
        obtain ⟨g, L⟩ := u459
        obtain ⟨hI, h0n⟩ := hw457
        have h0c : g 0 = g0 0 := h0n.trans h0c
        have hI : zI XT g := hI
        have hP : va_P G.1 vwCl (zw G (XS b) 105 a g L) H := hP
        have hD : va_D A (zw G (XS b) 105 a g L) := hD
        refine x_callNv (rest := []) li_X10_87 C (zX4_offer_13 l G H.size b a g L hI x432 x458) (kR rfl) hP hD hS 13 4 rfl (zat (by decide) xs_13) rfl hl.1 rfl (Nat.le_of_ble_eq_true rfl) dX10_leastBy_63 (fun u464 H locs hw462 hP hD hS => ?_)
        obtain ⟨g, L⟩ := u464
        obtain ⟨hI, h0n⟩ := hw462
        have h0c : g 0 = g0 0 := h0n.trans h0c
        have hI : zI XT g := hI
        have hP : va_P G.1 vwCl (zw G (XS b) 105 a g L) H := hP
        have hD : va_D A (zw G (XS b) 105 a g L) := hD
        obtain ⟨x467, e468q, e468⟩ : ∃ z : Int32, x432 + Int32.ofInt (1) = z ∧ z.toInt = x432.toInt + (1) := ⟨_, rfl, ic_addc rfl (by decide) (by omega) (by omega)⟩
        refine lv_iinc (v := x467) (lv' := [(5, .int x467), (0, .ref (a 9)), (1, .int p1), (2, .int p2), (3, .int p3), (4, .int x2)]) hx hb dX10_leastBy_66 hl (k := 5) rfl e468q (by decide) rfl (fun ls hl => ?_)
        refine lv_goto (tgt := 29) hx hb dX10_leastBy_69 (by decide) ?_
        exact ih435 x467 g L H locs ls (by omega) hI h0c hP hD hS (lv_sub hl [1, 2, 3, 4, 5, 0] rfl) (by omega)
  have hc_ : (0 : Int32).toInt = 0 := by decide
  exact lp434 102 0 g L H locs ls (by decide) hI h0c hP hD hS (lv_sub hl [2, 3, 4, 5, 1, 0] rfl) (by omega)
set_option maxHeartbeats 4000000 in
set_option maxRecDepth 100000 in
theorem zX10_lostWithout_9 (l : Launch) (G : kG) (sz : Nat) (b : Nat) (a : Nat → Nat) (g0 : Nat → Nat → Int32) (L0 : Nat → Nat → Int64) (hI : zI XT g0) (p1 : Int32) (p2 : Int32) (hp1 : 0 ≤ p1.toInt ∧ p1.toInt ≤ 11) (hp2 : 0 ≤ p2.toInt ∧ p2.toInt ≤ 11) : kM l yX10_lostWithout cX10_lostWithout 6 (some .int) { frames := 11, cells := 0, slots := 0, locals := 225 } G [.ref (a 9), .int p1, .int p2] (zw G (XS b) 105 a g0 L0) sz (kQi G (S := zS) (fun r u => zI XT u.1 ∧ u.1 0 = g0 0) (fun u => zw G (XS b) 105 a u.1 u.2)) := by
  refine kM.of (by decide) (Nat.le_of_ble_eq_true rfl) ?_
  intro p e s m below meth c A ls H C hr hlk hnm hP hD hS hl
  have C : kC G p s m c cX10_lostWithout 6 RX10 A := C
  have hx := C.1
  have hb := C.2.1
  have hl : lv_has ls 6 [(0, .ref (a 9)), (1, .int p1), (2, .int p2)] := hl
  have h0c : g0 0 = g0 0 := rfl
  obtain ⟨locs, hlocs⟩ : ∃ q : List Loc, q = [] := ⟨_, rfl⟩
  rw [← hlocs] at hS
  rw [← hlocs]
  refine lv_aload_n hx hb dX10_lostWithout_0 rfl (lv_at hl 0 rfl) ?_
  refine x_getr (Or.inl fl_X10_32) C hP (by decide) xs_9 rfl dX10_lostWithout_1 ?_
  refine x_getr (Or.inr fl_X10_56) C hP (by decide) xs_6 rfl dX10_lostWithout_4 ?_
  refine lv_iload_n hx hb dX10_lostWithout_7 rfl (lv_at hl 1 rfl) ?_
  refine x_ald C hP (by decide) xs_25 (by omega) (by omega) dX10_lostWithout_8 (fun x1 e2 => ?_)
  refine lv_istore_n (lv' := [(3, .int x1), (0, .ref (a 9)), (1, .int p1), (2, .int p2)]) hx hb dX10_lostWithout_9 rfl hl (by decide) rfl (fun ls hl => ?_)
  refine lv_aload_n hx hb dX10_lostWithout_10 rfl (lv_at hl 1 rfl) ?_
  refine x_getr (Or.inl fl_X10_32) C hP (by decide) xs_9 rfl dX10_lostWithout_11 ?_
  refine x_getr (Or.inr fl_X10_56) C hP (by decide) xs_6 rfl dX10_lostWithout_14 ?_
  refine lv_iload_n hx hb dX10_lostWithout_17 rfl (lv_at hl 3 rfl) ?_
  refine x_ald C hP (by decide) xs_25 (by omega) (by omega) dX10_lostWithout_18 (fun x3 e4 => ?_)
  refine lv_istore (lv' := [(4, .int x3), (3, .int x1), (0, .ref (a 9)), (1, .int p1), (2, .int p2)]) hx hb dX10_lostWithout_19 hl (by decide) rfl (fun ls hl => ?_)
  refine lv_aload_n hx hb dX10_lostWithout_21 rfl (lv_at hl 2 rfl) ?_
  refine x_getr (Or.inl fl_X10_32) C hP (by decide) xs_9 rfl dX10_lostWithout_22 ?_
  refine x_getr (Or.inr fl_X10_56) C hP (by decide) xs_6 rfl dX10_lostWithout_25 ?_
  refine lv_iload_n hx hb dX10_lostWithout_28 rfl (lv_at hl 3 rfl) ?_
  refine lv_iconst (v := 0) hx hb dX10_lostWithout_29 (by decide) ?_
  refine x_ast (hI.updN rfl) C hP hD hS (by decide) xs_25 (by omega) (by omega) dX10_lostWithout_30 (fun g H locs eg hI hP hD hS => ?_)
  have h0c : g 0 = g0 0 := by rw [eg]; exact h0c
  refine lv_aload_n hx hb dX10_lostWithout_31 rfl (lv_at hl 2 rfl) ?_
  refine x_getr (Or.inl fl_X10_32) C hP (by decide) xs_9 rfl dX10_lostWithout_32 ?_
  refine x_getr (Or.inr fl_X10_56) C hP (by decide) xs_6 rfl dX10_lostWithout_35 ?_
  refine lv_iload_n hx hb dX10_lostWithout_38 rfl (lv_at hl 4 rfl) ?_
  refine lv_iconst (v := 0) hx hb dX10_lostWithout_39 (by decide) ?_
  refine x_ast (hI.updN rfl) C hP hD hS (by decide) xs_25 (by omega) (by omega) dX10_lostWithout_40 (fun g H locs eg hI hP hD hS => ?_)
  have h0c : g 0 = g0 0 := by rw [eg]; exact h0c
  refine lv_aload_n hx hb dX10_lostWithout_41 rfl (lv_at hl 2 rfl) ?_
  refine x_getr (Or.inl fl_X10_22) C hP (by decide) xs_9 rfl dX10_lostWithout_42 ?_
  refine lv_iconst (v := 0) hx hb dX10_lostWithout_45 (by decide) ?_
  refine x_callNi (rest := []) li_X10_77 C (zX1_lostFrom_8 l G H.size b a g L0 hI 0 (by decide)) (kR rfl) hP hD hS 8 1 rfl (zat (by decide) xs_8) rfl hl.1 rfl (Nat.le_of_ble_eq_true rfl) dX10_lostWithout_46 (fun x6 u7 H locs hw5 hP hD hS => ?_)
  obtain ⟨g, L⟩ := u7
  obtain ⟨hI, h0n⟩ := hw5
  have h0c : g 0 = g0 0 := h0n.trans h0c
  have hI : zI XT g := hI
  have hP : va_P G.1 vwCl (zw G (XS b) 105 a g L) H := hP
  have hD : va_D A (zw G (XS b) 105 a g L) := hD
  refine lv_istore (lv' := [(5, .int x6), (4, .int x3), (3, .int x1), (0, .ref (a 9)), (1, .int p1), (2, .int p2)]) hx hb dX10_lostWithout_49 hl (by decide) rfl (fun ls hl => ?_)
  refine lv_aload_n hx hb dX10_lostWithout_51 rfl (lv_at hl 3 rfl) ?_
  refine x_getr (Or.inl fl_X10_32) C hP (by decide) xs_9 rfl dX10_lostWithout_52 ?_
  refine x_getr (Or.inr fl_X10_56) C hP (by decide) xs_6 rfl dX10_lostWithout_55 ?_
  refine lv_iload_n hx hb dX10_lostWithout_58 rfl (lv_at hl 4 rfl) ?_
  refine lv_iload_n hx hb dX10_lostWithout_59 rfl (lv_at hl 2 rfl) ?_
  refine x_ast (hI.updN rfl) C hP hD hS (by decide) xs_25 (by omega) (by omega) dX10_lostWithout_60 (fun g H locs eg hI hP hD hS => ?_)
  have h0c : g 0 = g0 0 := by rw [eg]; exact h0c
  refine lv_aload_n hx hb dX10_lostWithout_61 rfl (lv_at hl 3 rfl) ?_
  refine x_getr (Or.inl fl_X10_32) C hP (by decide) xs_9 rfl dX10_lostWithout_62 ?_
  refine x_getr (Or.inr fl_X10_56) C hP (by decide) xs_6 rfl dX10_lostWithout_65 ?_
  refine lv_iload_n hx hb dX10_lostWithout_68 rfl (lv_at hl 5 rfl) ?_
  refine lv_iload hx hb dX10_lostWithout_69 (lv_at hl 1 rfl) ?_
  refine x_ast (hI.updN rfl) C hP hD hS (by decide) xs_25 (by omega) (by omega) dX10_lostWithout_71 (fun g H locs eg hI hP hD hS => ?_)
  have h0c : g 0 = g0 0 := by rw [eg]; exact h0c
  refine lv_iload hx hb dX10_lostWithout_72 (lv_at hl 0 rfl) ?_
  exact x_iret C hr hlk hP hD hS (g, L) rfl ⟨hI, h0c⟩ (Nat.le_of_ble_eq_true rfl) (Nat.le_of_ble_eq_true rfl) dX10_lostWithout_74
set_option maxHeartbeats 4000000 in
set_option maxRecDepth 100000 in
theorem zX10_withoutOne_9 (l : Launch) (G : kG) (sz : Nat) (b : Nat) (a : Nat → Nat) (g0 : Nat → Nat → Int32) (L0 : Nat → Nat → Int64) (hI : zI XT g0) : kM l yX10_withoutOne cX10_withoutOne 2 (some .int) { frames := 12, cells := 0, slots := 0, locals := 250 } G [.ref (a 9)] (zw G (XS b) 105 a g0 L0) sz (kQi G (S := zS) (fun r u => zI XT u.1 ∧ u.1 0 = g0 0) (fun u => zw G (XS b) 105 a u.1 u.2)) := by
  refine kM.of (by decide) (Nat.le_of_ble_eq_true rfl) ?_
  intro p e s m below meth c A ls H C hr hlk hnm hP hD hS hl
  have C : kC G p s m c cX10_withoutOne 2 RX10 A := C
  have hx := C.1
  have hb := C.2.1
  have hl : lv_has ls 2 [(0, .ref (a 9))] := hl
  have h0c : g0 0 = g0 0 := rfl
  obtain ⟨locs, hlocs⟩ : ∃ q : List Loc, q = [] := ⟨_, rfl⟩
  rw [← hlocs] at hS
  rw [← hlocs]
  refine lv_aload_n hx hb dX10_withoutOne_0 rfl (lv_at hl 0 rfl) ?_
  refine x_getr (Or.inl fl_X10_12) C hP (by decide) xs_9 rfl dX10_withoutOne_1 ?_
  refine x_callNv (rest := []) li_X10_81 C (zX4_clear_13 l G H.size b a g0 L0 hI) (kR rfl) hP hD hS 13 4 rfl (zat (by decide) xs_13) rfl hl.1 rfl (Nat.le_of_ble_eq_true rfl) dX10_withoutOne_4 (fun u3 H locs hw1 hP hD hS => ?_)
  obtain ⟨g, L⟩ := u3
  obtain ⟨hI, h0n⟩ := hw1
  have h0c : g 0 = g0 0 := h0n.trans h0c
  have hI : zI XT g := hI
  have hP : va_P G.1 vwCl (zw G (XS b) 105 a g L) H := hP
  have hD : va_D A (zw G (XS b) 105 a g L) := hD
  refine lv_iconst (v := 0) hx hb dX10_withoutOne_7 (by decide) ?_
  refine lv_istore_n (lv' := [(1, .int 0), (0, .ref (a 9))]) hx hb dX10_withoutOne_8 rfl hl (by decide) rfl (fun ls hl => ?_)
  have lp254 : ∀ fu : Nat, ∀ (x252 : Int32) (g : Nat → Nat → Int32) (L : Nat → Nat → Int64) (H : Heap) (locs : List Loc) (ls : Array Slot), (0 ≤ x252.toInt ∧ x252.toInt ≤ 12) → zI XT g → g 0 = g0 0 → va_P G.1 vwCl (zw G (XS b) 105 a g L) H → va_D A (zw G (XS b) 105 a g L) → va_S A s.heap H locs → lv_has ls 2 [(0, .ref (a 9)), (1, .int x252)] → 12 - x252.toInt < (fu : Int) → W p l e { frames := 12, cells := 0, slots := 0, locals := 250 } s m [.ref (a 9)].toArray below meth c H locs 0 0 (MQ below ((kQi G (S := zS) (fun r u => zI XT u.1 ∧ u.1 0 = g0 0) (fun u => zw G (XS b) 105 a u.1 u.2)) A) [.ref (a 9)].toArray s 0 0 A) (F0 m 9 ls []) := by
    intro fu
    induction fu with
    | zero => intro x252 g L H locs ls b253 hI h0c hP hD hS hl hm; exact absurd hm (by omega)
    | succ fu ih =>
      intro x252 g L H locs ls b253 hI h0c hP hD hS hl hm
      have ih255 := ih
      refine lv_iload_n hx hb dX10_withoutOne_9 rfl (lv_at hl 1 rfl) ?_
      refine lv_aload_n hx hb dX10_withoutOne_10 rfl (lv_at hl 0 rfl) ?_
      refine x_callVi (rest := [.int x252]) li_X10_64 C (zX10_lessonCount_9 l G H.size b a g L hI) (kR rfl) hP hD hS 9 10 rfl (zat (by decide) xs_9) rfl hl.1 rfl (Nat.le_of_ble_eq_true rfl) dX10_withoutOne_11 (fun x257 u258 H locs hw256 hP hD hS => ?_)
      obtain ⟨g, L⟩ := u258
      obtain ⟨hI, h0n, b259⟩ := hw256
      have h0c : g 0 = g0 0 := h0n.trans h0c
      have hI : zI XT g := hI
      have hP : va_P G.1 vwCl (zw G (XS b) 105 a g L) H := hP
      have hD : va_D A (zw G (XS b) 105 a g L) := hD
      refine lv_icmp_ge (x := x252) (y := x257) (tgt := 37) hx hb dX10_withoutOne_14 (by decide) (fun c261 => ?_) (fun c261 => ?_)
      ·
        have c261 := icc_le (m := x257.toInt) (n := x252.toInt) rfl rfl c261
        refine lv_aload_n hx hb dX10_withoutOne_37 rfl (lv_at hl 0 rfl) ?_
        refine x_getr (Or.inl fl_X10_12) C hP (by decide) xs_9 rfl dX10_withoutOne_38 ?_
        refine lv_iconst (v := 0) hx hb dX10_withoutOne_41 (by decide) ?_
        refine x_callNi (rest := []) li_X10_97 C (zX4_told_13 l G H.size b a g L hI 0) (kR rfl) hP hD hS 13 4 rfl (zat (by decide) xs_13) rfl hl.1 rfl (Nat.le_of_ble_eq_true rfl) dX10_withoutOne_42 (fun x263 u264 H locs hw262 hP hD hS => ?_)
        obtain ⟨g, L⟩ := u264
        obtain ⟨hI, h0n⟩ := hw262
        have h0c : g 0 = g0 0 := h0n.trans h0c
        have hI : zI XT g := hI
        have hP : va_P G.1 vwCl (zw G (XS b) 105 a g L) H := hP
        have hD : va_D A (zw G (XS b) 105 a g L) := hD
        exact x_iret C hr hlk hP hD hS (g, L) rfl ⟨hI, h0c⟩ (Nat.le_of_ble_eq_true rfl) (Nat.le_of_ble_eq_true rfl) dX10_withoutOne_45
      ·
        have c261 := icc_nle (m := x257.toInt) (n := x252.toInt) rfl rfl c261
        refine lv_aload_n hx hb dX10_withoutOne_17 rfl (lv_at hl 0 rfl) ?_
        refine x_getr (Or.inl fl_X10_12) C hP (by decide) xs_9 rfl dX10_withoutOne_18 ?_
        refine lv_iload_n hx hb dX10_withoutOne_21 rfl (lv_at hl 1 rfl) ?_
        refine lv_aload_n hx hb dX10_withoutOne_22 rfl (lv_at hl 0 rfl) ?_
        refine lv_iload_n hx hb dX10_withoutOne_23 rfl (lv_at hl 1 rfl) ?_
        refine lv_iload_n hx hb dX10_withoutOne_24 rfl (lv_at hl 1 rfl) ?_
        refine x_callVi (rest := [.int x252, .ref (a 13)]) li_X10_111 C (zX10_lostWithout_9 l G H.size b a g L hI x252 x252 (by omega) (by omega)) (kR rfl) hP hD hS 9 10 rfl (zat (by decide) xs_9) rfl hl.1 rfl (Nat.le_of_ble_eq_true rfl) dX10_withoutOne_25 (fun x268 u269 H locs hw267 hP hD hS => ?_)
        obtain ⟨g, L⟩ := u269
        obtain ⟨hI, h0n⟩ := hw267
        have h0c : g 0 = g0 0 := h0n.trans h0c
        have hI : zI XT g := hI
        have hP : va_P G.1 vwCl (zw G (XS b) 105 a g L) H := hP
        have hD : va_D A (zw G (XS b) 105 a g L) := hD
        refine x_callNv (rest := []) li_X10_87 C (zX4_offer_13 l G H.size b a g L hI x252 x268) (kR rfl) hP hD hS 13 4 rfl (zat (by decide) xs_13) rfl hl.1 rfl (Nat.le_of_ble_eq_true rfl) dX10_withoutOne_28 (fun u274 H locs hw272 hP hD hS => ?_)
        obtain ⟨g, L⟩ := u274
        obtain ⟨hI, h0n⟩ := hw272
        have h0c : g 0 = g0 0 := h0n.trans h0c
        have hI : zI XT g := hI
        have hP : va_P G.1 vwCl (zw G (XS b) 105 a g L) H := hP
        have hD : va_D A (zw G (XS b) 105 a g L) := hD
        obtain ⟨x277, e278q, e278⟩ : ∃ z : Int32, x252 + Int32.ofInt (1) = z ∧ z.toInt = x252.toInt + (1) := ⟨_, rfl, ic_addc rfl (by decide) (by omega) (by omega)⟩
        refine lv_iinc (v := x277) (lv' := [(1, .int x277), (0, .ref (a 9))]) hx hb dX10_withoutOne_31 hl (k := 1) rfl e278q (by decide) rfl (fun ls hl => ?_)
        refine lv_goto (tgt := 9) hx hb dX10_withoutOne_34 (by decide) ?_
        exact ih255 x277 g L H locs ls (by omega) hI h0c hP hD hS (lv_sub hl [1, 0] rfl) (by omega)
  have hc_ : (0 : Int32).toInt = 0 := by decide
  exact lp254 14 0 g L H locs ls (by decide) hI h0c hP hD hS (lv_sub hl [1, 0] rfl) (by omega)
set_option maxHeartbeats 4000000 in
set_option maxRecDepth 100000 in
theorem zX10_withoutTwo_9 (l : Launch) (G : kG) (sz : Nat) (b : Nat) (a : Nat → Nat) (g0 : Nat → Nat → Int32) (L0 : Nat → Nat → Int64) (hI : zI XT g0) (p1 : Int32) : kM l yX10_withoutTwo cX10_withoutTwo 4 (some .int) { frames := 12, cells := 0, slots := 0, locals := 250 } G [.ref (a 9), .int p1] (zw G (XS b) 105 a g0 L0) sz (kQi G (S := zS) (fun r u => zI XT u.1 ∧ u.1 0 = g0 0) (fun u => zw G (XS b) 105 a u.1 u.2)) := by
  refine kM.of (by decide) (Nat.le_of_ble_eq_true rfl) ?_
  intro p e s m below meth c A ls H C hr hlk hnm hP hD hS hl
  have C : kC G p s m c cX10_withoutTwo 4 RX10 A := C
  have hx := C.1
  have hb := C.2.1
  have hl : lv_has ls 4 [(0, .ref (a 9)), (1, .int p1)] := hl
  have h0c : g0 0 = g0 0 := rfl
  obtain ⟨locs, hlocs⟩ : ∃ q : List Loc, q = [] := ⟨_, rfl⟩
  rw [← hlocs] at hS
  rw [← hlocs]
  refine lv_aload_n hx hb dX10_withoutTwo_0 rfl (lv_at hl 0 rfl) ?_
  refine x_getr (Or.inl fl_X10_12) C hP (by decide) xs_9 rfl dX10_withoutTwo_1 ?_
  refine x_callNv (rest := []) li_X10_81 C (zX4_clear_13 l G H.size b a g0 L0 hI) (kR rfl) hP hD hS 13 4 rfl (zat (by decide) xs_13) rfl hl.1 rfl (Nat.le_of_ble_eq_true rfl) dX10_withoutTwo_4 (fun u3 H locs hw1 hP hD hS => ?_)
  obtain ⟨g, L⟩ := u3
  obtain ⟨hI, h0n⟩ := hw1
  have h0c : g 0 = g0 0 := h0n.trans h0c
  have hI : zI XT g := hI
  have hP : va_P G.1 vwCl (zw G (XS b) 105 a g L) H := hP
  have hD : va_D A (zw G (XS b) 105 a g L) := hD
  refine lv_iconst (v := 0) hx hb dX10_withoutTwo_7 (by decide) ?_
  refine lv_istore_n (lv' := [(2, .int 0), (0, .ref (a 9)), (1, .int p1)]) hx hb dX10_withoutTwo_8 rfl hl (by decide) rfl (fun ls hl => ?_)
  have lp1852 : ∀ fu : Nat, ∀ (x1850 : Int32) (g : Nat → Nat → Int32) (L : Nat → Nat → Int64) (H : Heap) (locs : List Loc) (ls : Array Slot), (0 ≤ x1850.toInt ∧ x1850.toInt ≤ 12) → zI XT g → g 0 = g0 0 → va_P G.1 vwCl (zw G (XS b) 105 a g L) H → va_D A (zw G (XS b) 105 a g L) → va_S A s.heap H locs → lv_has ls 4 [(0, .ref (a 9)), (1, .int p1), (2, .int x1850)] → 12 - x1850.toInt < (fu : Int) → W p l e { frames := 12, cells := 0, slots := 0, locals := 250 } s m [.ref (a 9), .int p1].toArray below meth c H locs 0 0 (MQ below ((kQi G (S := zS) (fun r u => zI XT u.1 ∧ u.1 0 = g0 0) (fun u => zw G (XS b) 105 a u.1 u.2)) A) [.ref (a 9), .int p1].toArray s 0 0 A) (F0 m 9 ls []) := by
    intro fu
    induction fu with
    | zero => intro x1850 g L H locs ls b1851 hI h0c hP hD hS hl hm; exact absurd hm (by omega)
    | succ fu ih =>
      intro x1850 g L H locs ls b1851 hI h0c hP hD hS hl hm
      have ih1853 := ih
      refine lv_iload_n hx hb dX10_withoutTwo_9 rfl (lv_at hl 2 rfl) ?_
      refine lv_aload_n hx hb dX10_withoutTwo_10 rfl (lv_at hl 0 rfl) ?_
      refine x_callVi (rest := [.int x1850]) li_X10_64 C (zX10_lessonCount_9 l G H.size b a g L hI) (kR rfl) hP hD hS 9 10 rfl (zat (by decide) xs_9) rfl hl.1 rfl (Nat.le_of_ble_eq_true rfl) dX10_withoutTwo_11 (fun x1855 u1856 H locs hw1854 hP hD hS => ?_)
      obtain ⟨g, L⟩ := u1856
      obtain ⟨hI, h0n, b1857⟩ := hw1854
      have h0c : g 0 = g0 0 := h0n.trans h0c
      have hI : zI XT g := hI
      have hP : va_P G.1 vwCl (zw G (XS b) 105 a g L) H := hP
      have hD : va_D A (zw G (XS b) 105 a g L) := hD
      refine lv_icmp_ge (x := x1850) (y := x1855) (tgt := 60) hx hb dX10_withoutTwo_14 (by decide) (fun c1859 => ?_) (fun c1859 => ?_)
      ·
        have c1859 := icc_le (m := x1855.toInt) (n := x1850.toInt) rfl rfl c1859
        refine lv_aload_n hx hb dX10_withoutTwo_60 rfl (lv_at hl 0 rfl) ?_
        refine x_getr (Or.inl fl_X10_12) C hP (by decide) xs_9 rfl dX10_withoutTwo_61 ?_
        refine lv_iload_n hx hb dX10_withoutTwo_64 rfl (lv_at hl 1 rfl) ?_
        refine x_callNi (rest := []) li_X10_97 C (zX4_told_13 l G H.size b a g L hI p1) (kR rfl) hP hD hS 13 4 rfl (zat (by decide) xs_13) rfl hl.1 rfl (Nat.le_of_ble_eq_true rfl) dX10_withoutTwo_65 (fun x1861 u1862 H locs hw1860 hP hD hS => ?_)
        obtain ⟨g, L⟩ := u1862
        obtain ⟨hI, h0n⟩ := hw1860
        have h0c : g 0 = g0 0 := h0n.trans h0c
        have hI : zI XT g := hI
        have hP : va_P G.1 vwCl (zw G (XS b) 105 a g L) H := hP
        have hD : va_D A (zw G (XS b) 105 a g L) := hD
        exact x_iret C hr hlk hP hD hS (g, L) rfl ⟨hI, h0c⟩ (Nat.le_of_ble_eq_true rfl) (Nat.le_of_ble_eq_true rfl) dX10_withoutTwo_68
      ·
        have c1859 := icc_nle (m := x1855.toInt) (n := x1850.toInt) rfl rfl c1859
        refine lv_iload_n hx hb dX10_withoutTwo_17 rfl (lv_at hl 2 rfl) ?_
        refine lv_iconst (v := 1) hx hb dX10_withoutTwo_18 (by decide) ?_
        refine lv_iadd hx hb dX10_withoutTwo_19 ?_
        refine x_val (ic_addc (m := x1850.toInt) (n := 1) rfl (by decide) (by omega) (by omega)) (fun x1865 e1866 => ?_)
        refine lv_istore_n (lv' := [(3, .int x1865), (0, .ref (a 9)), (1, .int p1), (2, .int x1850)]) hx hb dX10_withoutTwo_20 rfl hl (by decide) rfl (fun ls hl => ?_)
        have lp1945 : ∀ fu : Nat, ∀ (x1943 : Int32) (g : Nat → Nat → Int32) (L : Nat → Nat → Int64) (H : Heap) (locs : List Loc) (ls : Array Slot), (1 ≤ x1943.toInt ∧ x1943.toInt ≤ 12) → zI XT g → g 0 = g0 0 → va_P G.1 vwCl (zw G (XS b) 105 a g L) H → va_D A (zw G (XS b) 105 a g L) → va_S A s.heap H locs → lv_has ls 4 [(0, .ref (a 9)), (1, .int p1), (2, .int x1850), (3, .int x1943)] → 12 - x1943.toInt < (fu : Int) → W p l e { frames := 12, cells := 0, slots := 0, locals := 250 } s m [.ref (a 9), .int p1].toArray below meth c H locs 0 0 (MQ below ((kQi G (S := zS) (fun r u => zI XT u.1 ∧ u.1 0 = g0 0) (fun u => zw G (XS b) 105 a u.1 u.2)) A) [.ref (a 9), .int p1].toArray s 0 0 A) (F0 m 21 ls []) := by
          intro fu
          induction fu with
          | zero => intro x1943 g L H locs ls b1944 hI h0c hP hD hS hl hm; exact absurd hm (by omega)
          | succ fu ih =>
            intro x1943 g L H locs ls b1944 hI h0c hP hD hS hl hm
            have ih1946 := ih
            refine lv_iload_n hx hb dX10_withoutTwo_21 rfl (lv_at hl 3 rfl) ?_
            refine lv_aload_n hx hb dX10_withoutTwo_22 rfl (lv_at hl 0 rfl) ?_
            refine x_callVi (rest := [.int x1943]) li_X10_64 C (zX10_lessonCount_9 l G H.size b a g L hI) (kR rfl) hP hD hS 9 10 rfl (zat (by decide) xs_9) rfl hl.1 rfl (Nat.le_of_ble_eq_true rfl) dX10_withoutTwo_23 (fun x1948 u1949 H locs hw1947 hP hD hS => ?_)
            obtain ⟨g, L⟩ := u1949
            obtain ⟨hI, h0n, b1950⟩ := hw1947
            have h0c : g 0 = g0 0 := h0n.trans h0c
            have hI : zI XT g := hI
            have hP : va_P G.1 vwCl (zw G (XS b) 105 a g L) H := hP
            have hD : va_D A (zw G (XS b) 105 a g L) := hD
            refine lv_icmp_ge (x := x1943) (y := x1948) (tgt := 54) hx hb dX10_withoutTwo_26 (by decide) (fun c1952 => ?_) (fun c1952 => ?_)
            ·
              have c1952 := icc_le (m := x1948.toInt) (n := x1943.toInt) rfl rfl c1952
              obtain ⟨x1953, e1954q, e1954⟩ : ∃ z : Int32, x1850 + Int32.ofInt (1) = z ∧ z.toInt = x1850.toInt + (1) := ⟨_, rfl, ic_addc rfl (by decide) (by omega) (by omega)⟩
              refine lv_iinc (v := x1953) (lv' := [(2, .int x1953), (0, .ref (a 9)), (1, .int p1), (3, .int x1943)]) hx hb dX10_withoutTwo_54 hl (k := 2) rfl e1954q (by decide) rfl (fun ls hl => ?_)
              refine lv_goto (tgt := 9) hx hb dX10_withoutTwo_57 (by decide) ?_
              exact ih1853 x1953 g L H locs ls (by omega) hI h0c hP hD hS (lv_sub hl [1, 2, 0] rfl) (by omega)
            ·
              have c1952 := icc_nle (m := x1948.toInt) (n := x1943.toInt) rfl rfl c1952
              refine lv_aload_n hx hb dX10_withoutTwo_29 rfl (lv_at hl 0 rfl) ?_
              refine x_getr (Or.inl fl_X10_12) C hP (by decide) xs_9 rfl dX10_withoutTwo_30 ?_
              refine lv_bipush (v := 100) hx hb dX10_withoutTwo_33 (by decide) ?_
              refine lv_iload_n hx hb dX10_withoutTwo_35 rfl (lv_at hl 2 rfl) ?_
              refine lv_imul hx hb dX10_withoutTwo_36 ?_
              refine x_val (ic_mulc (m := 100) (n := x1850.toInt) (by decide) rfl (by omega) (by omega)) (fun x1955 e1956 => ?_)
              refine lv_iload_n hx hb dX10_withoutTwo_37 rfl (lv_at hl 3 rfl) ?_
              refine lv_iadd hx hb dX10_withoutTwo_38 ?_
              refine x_val (ic_addc (m := x1955.toInt) (n := x1943.toInt) rfl rfl (by omega) (by omega)) (fun x1957 e1958 => ?_)
              refine lv_aload_n hx hb dX10_withoutTwo_39 rfl (lv_at hl 0 rfl) ?_
              refine lv_iload_n hx hb dX10_withoutTwo_40 rfl (lv_at hl 2 rfl) ?_
              refine lv_iload_n hx hb dX10_withoutTwo_41 rfl (lv_at hl 3 rfl) ?_
              refine x_callVi (rest := [.int x1957, .ref (a 13)]) li_X10_111 C (zX10_lostWithout_9 l G H.size b a g L hI x1850 x1943 (by omega) (by omega)) (kR rfl) hP hD hS 9 10 rfl (zat (by decide) xs_9) rfl hl.1 rfl (Nat.le_of_ble_eq_true rfl) dX10_withoutTwo_42 (fun x1960 u1961 H locs hw1959 hP hD hS => ?_)
              obtain ⟨g, L⟩ := u1961
              obtain ⟨hI, h0n⟩ := hw1959
              have h0c : g 0 = g0 0 := h0n.trans h0c
              have hI : zI XT g := hI
              have hP : va_P G.1 vwCl (zw G (XS b) 105 a g L) H := hP
              have hD : va_D A (zw G (XS b) 105 a g L) := hD
              refine x_callNv (rest := []) li_X10_87 C (zX4_offer_13 l G H.size b a g L hI x1957 x1960) (kR rfl) hP hD hS 13 4 rfl (zat (by decide) xs_13) rfl hl.1 rfl (Nat.le_of_ble_eq_true rfl) dX10_withoutTwo_45 (fun u1966 H locs hw1964 hP hD hS => ?_)
              obtain ⟨g, L⟩ := u1966
              obtain ⟨hI, h0n⟩ := hw1964
              have h0c : g 0 = g0 0 := h0n.trans h0c
              have hI : zI XT g := hI
              have hP : va_P G.1 vwCl (zw G (XS b) 105 a g L) H := hP
              have hD : va_D A (zw G (XS b) 105 a g L) := hD
              obtain ⟨x1969, e1970q, e1970⟩ : ∃ z : Int32, x1943 + Int32.ofInt (1) = z ∧ z.toInt = x1943.toInt + (1) := ⟨_, rfl, ic_addc rfl (by decide) (by omega) (by omega)⟩
              refine lv_iinc (v := x1969) (lv' := [(3, .int x1969), (0, .ref (a 9)), (1, .int p1), (2, .int x1850)]) hx hb dX10_withoutTwo_48 hl (k := 3) rfl e1970q (by decide) rfl (fun ls hl => ?_)
              refine lv_goto (tgt := 21) hx hb dX10_withoutTwo_51 (by decide) ?_
              exact ih1946 x1969 g L H locs ls (by omega) hI h0c hP hD hS (lv_sub hl [1, 2, 3, 0] rfl) (by omega)
        exact lp1945 13 x1865 g L H locs ls (by omega) hI h0c hP hD hS (lv_sub hl [1, 2, 3, 0] rfl) (by omega)
  have hc_ : (0 : Int32).toInt = 0 := by decide
  exact lp1852 14 0 g L H locs ls (by decide) hI h0c hP hD hS (lv_sub hl [1, 2, 0] rfl) (by omega)
set_option maxHeartbeats 4000000 in
set_option maxRecDepth 100000 in
theorem zX10_lostByRule_9 (l : Launch) (G : kG) (sz : Nat) (b : Nat) (a : Nat → Nat) (g0 : Nat → Nat → Int32) (L0 : Nat → Nat → Int64) (hI : zI XT g0) (p1 : Int32) : kM l yX10_lostByRule cX10_lostByRule 4 (some .int) { frames := 11, cells := 0, slots := 0, locals := 225 } G [.ref (a 9), .int p1] (zw G (XS b) 105 a g0 L0) sz (kQi G (S := zS) (fun r u => zI XT u.1 ∧ u.1 0 = g0 0) (fun u => zw G (XS b) 105 a u.1 u.2)) := by
  refine kM.of (by decide) (Nat.le_of_ble_eq_true rfl) ?_
  intro p e s m below meth c A ls H C hr hlk hnm hP hD hS hl
  have C : kC G p s m c cX10_lostByRule 4 RX10 A := C
  have hx := C.1
  have hb := C.2.1
  have hl : lv_has ls 4 [(0, .ref (a 9)), (1, .int p1)] := hl
  have h0c : g0 0 = g0 0 := rfl
  obtain ⟨locs, hlocs⟩ : ∃ q : List Loc, q = [] := ⟨_, rfl⟩
  rw [← hlocs] at hS
  rw [← hlocs]
  refine lv_aload_n hx hb dX10_lostByRule_0 rfl (lv_at hl 0 rfl) ?_
  refine x_getr (Or.inl fl_X10_32) C hP (by decide) xs_9 rfl dX10_lostByRule_1 ?_
  refine x_geti (Or.inr fl_X10_114) C hP (by decide) xs_6 rfl dX10_lostByRule_4 (fun x1 e2 => ?_)
  refine lv_istore_n (lv' := [(2, .int x1), (0, .ref (a 9)), (1, .int p1)]) hx hb dX10_lostByRule_7 rfl hl (by decide) rfl (fun ls hl => ?_)
  refine lv_aload_n hx hb dX10_lostByRule_8 rfl (lv_at hl 1 rfl) ?_
  refine x_getr (Or.inl fl_X10_32) C hP (by decide) xs_9 rfl dX10_lostByRule_9 ?_
  refine lv_iload_n hx hb dX10_lostByRule_12 rfl (lv_at hl 2 rfl) ?_
  refine x_puti (hI.updN rfl) (Or.inr fl_X10_114) ft_X3_11 C hP hD hS (by decide) xs_6 rfl rfl rfl dX10_lostByRule_13 (fun g H locs eg hI hP hD hS => ?_)
  have h0c : g 0 = g0 0 := by rw [eg]; exact h0c
  refine lv_aload_n hx hb dX10_lostByRule_16 rfl (lv_at hl 1 rfl) ?_
  refine x_getr (Or.inl fl_X10_22) C hP (by decide) xs_9 rfl dX10_lostByRule_17 ?_
  refine lv_iconst (v := 0) hx hb dX10_lostByRule_20 (by decide) ?_
  refine x_callNi (rest := []) li_X10_77 C (zX1_lostFrom_8 l G H.size b a g L0 hI 0 (by decide)) (kR rfl) hP hD hS 8 1 rfl (zat (by decide) xs_8) rfl hl.1 rfl (Nat.le_of_ble_eq_true rfl) dX10_lostByRule_21 (fun x4 u5 H locs hw3 hP hD hS => ?_)
  obtain ⟨g, L⟩ := u5
  obtain ⟨hI, h0n⟩ := hw3
  have h0c : g 0 = g0 0 := h0n.trans h0c
  have hI : zI XT g := hI
  have hP : va_P G.1 vwCl (zw G (XS b) 105 a g L) H := hP
  have hD : va_D A (zw G (XS b) 105 a g L) := hD
  refine lv_istore_n (lv' := [(3, .int x4), (2, .int x1), (0, .ref (a 9)), (1, .int p1)]) hx hb dX10_lostByRule_24 rfl hl (by decide) rfl (fun ls hl => ?_)
  refine lv_aload_n hx hb dX10_lostByRule_25 rfl (lv_at hl 2 rfl) ?_
  refine x_getr (Or.inl fl_X10_32) C hP (by decide) xs_9 rfl dX10_lostByRule_26 ?_
  refine lv_iload_n hx hb dX10_lostByRule_29 rfl (lv_at hl 1 rfl) ?_
  refine x_puti (hI.updN rfl) (Or.inr fl_X10_114) ft_X3_11 C hP hD hS (by decide) xs_6 rfl rfl rfl dX10_lostByRule_30 (fun g H locs eg hI hP hD hS => ?_)
  have h0c : g 0 = g0 0 := by rw [eg]; exact h0c
  refine lv_iload_n hx hb dX10_lostByRule_33 rfl (lv_at hl 0 rfl) ?_
  exact x_iret C hr hlk hP hD hS (g, L) rfl ⟨hI, h0c⟩ (Nat.le_of_ble_eq_true rfl) (Nat.le_of_ble_eq_true rfl) dX10_lostByRule_34
set_option maxHeartbeats 4000000 in
set_option maxRecDepth 100000 in
theorem zX10_bestRule_9 (l : Launch) (G : kG) (sz : Nat) (b : Nat) (a : Nat → Nat) (g0 : Nat → Nat → Int32) (L0 : Nat → Nat → Int64) (hI : zI XT g0) : kM l yX10_bestRule cX10_bestRule 2 (some .int) { frames := 12, cells := 0, slots := 0, locals := 248 } G [.ref (a 9)] (zw G (XS b) 105 a g0 L0) sz (kQi G (S := zS) (fun r u => zI XT u.1 ∧ u.1 0 = g0 0) (fun u => zw G (XS b) 105 a u.1 u.2)) := by
  refine kM.of (by decide) (Nat.le_of_ble_eq_true rfl) ?_
  intro p e s m below meth c A ls H C hr hlk hnm hP hD hS hl
  have C : kC G p s m c cX10_bestRule 2 RX10 A := C
  have hx := C.1
  have hb := C.2.1
  have hl : lv_has ls 2 [(0, .ref (a 9))] := hl
  have h0c : g0 0 = g0 0 := rfl
  obtain ⟨locs, hlocs⟩ : ∃ q : List Loc, q = [] := ⟨_, rfl⟩
  rw [← hlocs] at hS
  rw [← hlocs]
  refine lv_aload_n hx hb dX10_bestRule_0 rfl (lv_at hl 0 rfl) ?_
  refine x_getr (Or.inl fl_X10_12) C hP (by decide) xs_9 rfl dX10_bestRule_1 ?_
  refine x_callNv (rest := []) li_X10_81 C (zX4_clear_13 l G H.size b a g0 L0 hI) (kR rfl) hP hD hS 13 4 rfl (zat (by decide) xs_13) rfl hl.1 rfl (Nat.le_of_ble_eq_true rfl) dX10_bestRule_4 (fun u3 H locs hw1 hP hD hS => ?_)
  obtain ⟨g, L⟩ := u3
  obtain ⟨hI, h0n⟩ := hw1
  have h0c : g 0 = g0 0 := h0n.trans h0c
  have hI : zI XT g := hI
  have hP : va_P G.1 vwCl (zw G (XS b) 105 a g L) H := hP
  have hD : va_D A (zw G (XS b) 105 a g L) := hD
  refine lv_iconst (v := -1) hx hb dX10_bestRule_7 (by decide) ?_
  refine lv_istore_n (lv' := [(1, .int (-1)), (0, .ref (a 9))]) hx hb dX10_bestRule_8 rfl hl (by decide) rfl (fun ls hl => ?_)
  have lp137 : ∀ fu : Nat, ∀ (x135 : Int32) (g : Nat → Nat → Int32) (L : Nat → Nat → Int64) (H : Heap) (locs : List Loc) (ls : Array Slot), ((-1) ≤ x135.toInt ∧ x135.toInt ≤ 4) → zI XT g → g 0 = g0 0 → va_P G.1 vwCl (zw G (XS b) 105 a g L) H → va_D A (zw G (XS b) 105 a g L) → va_S A s.heap H locs → lv_has ls 2 [(0, .ref (a 9)), (1, .int x135)] → 4 - x135.toInt < (fu : Int) → W p l e { frames := 12, cells := 0, slots := 0, locals := 248 } s m [.ref (a 9)].toArray below meth c H locs 0 0 (MQ below ((kQi G (S := zS) (fun r u => zI XT u.1 ∧ u.1 0 = g0 0) (fun u => zw G (XS b) 105 a u.1 u.2)) A) [.ref (a 9)].toArray s 0 0 A) (F0 m 9 ls []) := by
    intro fu
    induction fu with
    | zero => intro x135 g L H locs ls b136 hI h0c hP hD hS hl hm; exact absurd hm (by omega)
    | succ fu ih =>
      intro x135 g L H locs ls b136 hI h0c hP hD hS hl hm
      have ih138 := ih
      refine lv_iload_n hx hb dX10_bestRule_9 rfl (lv_at hl 1 rfl) ?_
      refine lv_aload_n hx hb dX10_bestRule_10 rfl (lv_at hl 0 rfl) ?_
      refine x_getr (Or.inl fl_X10_22) C hP (by decide) xs_9 rfl dX10_bestRule_11 ?_
      refine x_getr (Or.inr fl_X10_33) C hP (by decide) xs_8 rfl dX10_bestRule_14 ?_
      refine x_getr (Or.inr fl_X10_117) C hP (by decide) xs_1 rfl dX10_bestRule_17 ?_
      refine x_getT hI rfl (Or.inr fl_X10_121) C hP (by decide) xs_3 rfl dX10_bestRule_20 (fun x139 e140 b141 => ?_)
      refine lv_icmp_ge (x := x135) (y := x139) (tgt := 45) hx hb dX10_bestRule_23 (by decide) (fun c142 => ?_) (fun c142 => ?_)
      ·
        have c142 := icc_le (m := x139.toInt) (n := x135.toInt) rfl rfl c142
        refine lv_aload_n hx hb dX10_bestRule_45 rfl (lv_at hl 0 rfl) ?_
        refine x_getr (Or.inl fl_X10_12) C hP (by decide) xs_9 rfl dX10_bestRule_46 ?_
        refine lv_iconst (v := 0) hx hb dX10_bestRule_49 (by decide) ?_
        refine x_callNi (rest := []) li_X10_97 C (zX4_told_13 l G H.size b a g L hI 0) (kR rfl) hP hD hS 13 4 rfl (zat (by decide) xs_13) rfl hl.1 rfl (Nat.le_of_ble_eq_true rfl) dX10_bestRule_50 (fun x144 u145 H locs hw143 hP hD hS => ?_)
        obtain ⟨g, L⟩ := u145
        obtain ⟨hI, h0n⟩ := hw143
        have h0c : g 0 = g0 0 := h0n.trans h0c
        have hI : zI XT g := hI
        have hP : va_P G.1 vwCl (zw G (XS b) 105 a g L) H := hP
        have hD : va_D A (zw G (XS b) 105 a g L) := hD
        exact x_iret C hr hlk hP hD hS (g, L) rfl ⟨hI, h0c⟩ (Nat.le_of_ble_eq_true rfl) (Nat.le_of_ble_eq_true rfl) dX10_bestRule_53
      ·
        have c142 := icc_nle (m := x139.toInt) (n := x135.toInt) rfl rfl c142
        refine lv_aload_n hx hb dX10_bestRule_26 rfl (lv_at hl 0 rfl) ?_
        refine x_getr (Or.inl fl_X10_12) C hP (by decide) xs_9 rfl dX10_bestRule_27 ?_
        refine lv_iload_n hx hb dX10_bestRule_30 rfl (lv_at hl 1 rfl) ?_
        refine lv_aload_n hx hb dX10_bestRule_31 rfl (lv_at hl 0 rfl) ?_
        refine lv_iload_n hx hb dX10_bestRule_32 rfl (lv_at hl 1 rfl) ?_
        refine x_callVi (rest := [.int x135, .ref (a 13)]) li_X10_126 C (zX10_lostByRule_9 l G H.size b a g L hI x135) (kR rfl) hP hD hS 9 10 rfl (zat (by decide) xs_9) rfl hl.1 rfl (Nat.le_of_ble_eq_true rfl) dX10_bestRule_33 (fun x149 u150 H locs hw148 hP hD hS => ?_)
        obtain ⟨g, L⟩ := u150
        obtain ⟨hI, h0n⟩ := hw148
        have h0c : g 0 = g0 0 := h0n.trans h0c
        have hI : zI XT g := hI
        have hP : va_P G.1 vwCl (zw G (XS b) 105 a g L) H := hP
        have hD : va_D A (zw G (XS b) 105 a g L) := hD
        refine x_callNv (rest := []) li_X10_87 C (zX4_offer_13 l G H.size b a g L hI x135 x149) (kR rfl) hP hD hS 13 4 rfl (zat (by decide) xs_13) rfl hl.1 rfl (Nat.le_of_ble_eq_true rfl) dX10_bestRule_36 (fun u155 H locs hw153 hP hD hS => ?_)
        obtain ⟨g, L⟩ := u155
        obtain ⟨hI, h0n⟩ := hw153
        have h0c : g 0 = g0 0 := h0n.trans h0c
        have hI : zI XT g := hI
        have hP : va_P G.1 vwCl (zw G (XS b) 105 a g L) H := hP
        have hD : va_D A (zw G (XS b) 105 a g L) := hD
        obtain ⟨x158, e159q, e159⟩ : ∃ z : Int32, x135 + Int32.ofInt (1) = z ∧ z.toInt = x135.toInt + (1) := ⟨_, rfl, ic_addc rfl (by decide) (by omega) (by omega)⟩
        refine lv_iinc (v := x158) (lv' := [(1, .int x158), (0, .ref (a 9))]) hx hb dX10_bestRule_39 hl (k := 1) rfl e159q (by decide) rfl (fun ls hl => ?_)
        refine lv_goto (tgt := 9) hx hb dX10_bestRule_42 (by decide) ?_
        exact ih138 x158 g L H locs ls (by omega) hI h0c hP hD hS (lv_sub hl [1, 0] rfl) (by omega)
  have hc_ : ((-1) : Int32).toInt = (-1) := by decide
  exact lp137 7 (-1) g L H locs ls (by decide) hI h0c hP hD hS (lv_sub hl [1, 0] rfl) (by omega)
set_option maxHeartbeats 4000000 in
set_option maxRecDepth 100000 in
theorem zX10_worthOfBell_9 (l : Launch) (G : kG) (sz : Nat) (b : Nat) (a : Nat → Nat) (g0 : Nat → Nat → Int32) (L0 : Nat → Nat → Int64) (hI : zI XT g0) (p1 : Int32) : kM l yX10_worthOfBell cX10_worthOfBell 4 (some .int) { frames := 11, cells := 0, slots := 0, locals := 225 } G [.ref (a 9), .int p1] (zw G (XS b) 105 a g0 L0) sz (kQi G (S := zS) (fun r u => zI XT u.1 ∧ u.1 0 = g0 0) (fun u => zw G (XS b) 105 a u.1 u.2)) := by
  refine kM.of (by decide) (Nat.le_of_ble_eq_true rfl) ?_
  intro p e s m below meth c A ls H C hr hlk hnm hP hD hS hl
  have C : kC G p s m c cX10_worthOfBell 4 RX10 A := C
  have hx := C.1
  have hb := C.2.1
  have hl : lv_has ls 4 [(0, .ref (a 9)), (1, .int p1)] := hl
  have h0c : g0 0 = g0 0 := rfl
  obtain ⟨locs, hlocs⟩ : ∃ q : List Loc, q = [] := ⟨_, rfl⟩
  rw [← hlocs] at hS
  rw [← hlocs]
  refine lv_aload_n hx hb dX10_worthOfBell_0 rfl (lv_at hl 0 rfl) ?_
  refine x_getr (Or.inl fl_X10_22) C hP (by decide) xs_9 rfl dX10_worthOfBell_1 ?_
  refine lv_iconst (v := 0) hx hb dX10_worthOfBell_4 (by decide) ?_
  refine x_callNi (rest := []) li_X10_77 C (zX1_lostFrom_8 l G H.size b a g0 L0 hI 0 (by decide)) (kR rfl) hP hD hS 8 1 rfl (zat (by decide) xs_8) rfl hl.1 rfl (Nat.le_of_ble_eq_true rfl) dX10_worthOfBell_5 (fun x2 u3 H locs hw1 hP hD hS => ?_)
  obtain ⟨g, L⟩ := u3
  obtain ⟨hI, h0n⟩ := hw1
  have h0c : g 0 = g0 0 := h0n.trans h0c
  have hI : zI XT g := hI
  have hP : va_P G.1 vwCl (zw G (XS b) 105 a g L) H := hP
  have hD : va_D A (zw G (XS b) 105 a g L) := hD
  refine lv_istore_n (lv' := [(2, .int x2), (0, .ref (a 9)), (1, .int p1)]) hx hb dX10_worthOfBell_8 rfl hl (by decide) rfl (fun ls hl => ?_)
  refine lv_aload_n hx hb dX10_worthOfBell_9 rfl (lv_at hl 1 rfl) ?_
  refine x_getr (Or.inl fl_X10_32) C hP (by decide) xs_9 rfl dX10_worthOfBell_10 ?_
  refine x_getr (Or.inr fl_X10_56) C hP (by decide) xs_6 rfl dX10_worthOfBell_13 ?_
  refine lv_iconst (v := 0) hx hb dX10_worthOfBell_16 (by decide) ?_
  refine lv_aload_n hx hb dX10_worthOfBell_17 rfl (lv_at hl 1 rfl) ?_
  refine x_getr (Or.inl fl_X10_18) C hP (by decide) xs_9 rfl dX10_worthOfBell_18 ?_
  refine lv_iconst (v := 0) hx hb dX10_worthOfBell_21 (by decide) ?_
  refine lv_bipush (v := 12) hx hb dX10_worthOfBell_22 (by decide) ?_
  refine x_copy (hI.cpy (fun _ _ => rfl)) lc_X10_50 C hl.1 hP hD hS (by decide) (by decide) xs_25 xs_49 (by decide) (by decide) (by decide) (by decide) (by decide) (Nat.le_of_ble_eq_true rfl) (Nat.le_of_ble_eq_true rfl) dX10_worthOfBell_24 (fun g H locs eg hI hP hD hS => ?_)
  have h0c : g 0 = g0 0 := by rw [eg]; exact h0c
  refine lv_iconst (v := 0) hx hb dX10_worthOfBell_27 (by decide) ?_
  refine lv_istore_n (lv' := [(3, .int 0), (2, .int x2), (0, .ref (a 9)), (1, .int p1)]) hx hb dX10_worthOfBell_28 rfl hl (by decide) rfl (fun ls hl => ?_)
  have lp204 : ∀ fu : Nat, ∀ (x202 : Int32) (g : Nat → Nat → Int32) (L : Nat → Nat → Int64) (H : Heap) (locs : List Loc) (ls : Array Slot), (0 ≤ x202.toInt ∧ x202.toInt ≤ 12) → zI XT g → g 0 = g0 0 → va_P G.1 vwCl (zw G (XS b) 105 a g L) H → va_D A (zw G (XS b) 105 a g L) → va_S A s.heap H locs → lv_has ls 4 [(0, .ref (a 9)), (1, .int p1), (2, .int x2), (3, .int x202)] → 12 - x202.toInt < (fu : Int) → W p l e { frames := 11, cells := 0, slots := 0, locals := 225 } s m [.ref (a 9), .int p1].toArray below meth c H locs 0 0 (MQ below ((kQi G (S := zS) (fun r u => zI XT u.1 ∧ u.1 0 = g0 0) (fun u => zw G (XS b) 105 a u.1 u.2)) A) [.ref (a 9), .int p1].toArray s 0 0 A) (F0 m 29 ls []) := by
    intro fu
    induction fu with
    | zero => intro x202 g L H locs ls b203 hI h0c hP hD hS hl hm; exact absurd hm (by omega)
    | succ fu ih =>
      intro x202 g L H locs ls b203 hI h0c hP hD hS hl hm
      have ih205 := ih
      refine lv_iload_n hx hb dX10_worthOfBell_29 rfl (lv_at hl 3 rfl) ?_
      refine lv_aload_n hx hb dX10_worthOfBell_30 rfl (lv_at hl 0 rfl) ?_
      refine x_callVi (rest := [.int x202]) li_X10_64 C (zX10_lessonCount_9 l G H.size b a g L hI) (kR rfl) hP hD hS 9 10 rfl (zat (by decide) xs_9) rfl hl.1 rfl (Nat.le_of_ble_eq_true rfl) dX10_worthOfBell_31 (fun x207 u208 H locs hw206 hP hD hS => ?_)
      obtain ⟨g, L⟩ := u208
      obtain ⟨hI, h0n, b209⟩ := hw206
      have h0c : g 0 = g0 0 := h0n.trans h0c
      have hI : zI XT g := hI
      have hP : va_P G.1 vwCl (zw G (XS b) 105 a g L) H := hP
      have hD : va_D A (zw G (XS b) 105 a g L) := hD
      refine lv_icmp_ge (x := x202) (y := x207) (tgt := 62) hx hb dX10_worthOfBell_34 (by decide) (fun c211 => ?_) (fun c211 => ?_)
      ·
        have c211 := icc_le (m := x207.toInt) (n := x202.toInt) rfl rfl c211
        refine lv_aload_n hx hb dX10_worthOfBell_62 rfl (lv_at hl 0 rfl) ?_
        refine x_getr (Or.inl fl_X10_22) C hP (by decide) xs_9 rfl dX10_worthOfBell_63 ?_
        refine lv_iconst (v := 0) hx hb dX10_worthOfBell_66 (by decide) ?_
        refine x_callNi (rest := []) li_X10_77 C (zX1_lostFrom_8 l G H.size b a g L hI 0 (by decide)) (kR rfl) hP hD hS 8 1 rfl (zat (by decide) xs_8) rfl hl.1 rfl (Nat.le_of_ble_eq_true rfl) dX10_worthOfBell_67 (fun x213 u214 H locs hw212 hP hD hS => ?_)
        obtain ⟨g, L⟩ := u214
        obtain ⟨hI, h0n⟩ := hw212
        have h0c : g 0 = g0 0 := h0n.trans h0c
        have hI : zI XT g := hI
        have hP : va_P G.1 vwCl (zw G (XS b) 105 a g L) H := hP
        have hD : va_D A (zw G (XS b) 105 a g L) := hD
        refine lv_istore_n (lv' := [(3, .int x213), (0, .ref (a 9)), (1, .int p1), (2, .int x2)]) hx hb dX10_worthOfBell_70 rfl hl (by decide) rfl (fun ls hl => ?_)
        refine lv_aload_n hx hb dX10_worthOfBell_71 rfl (lv_at hl 1 rfl) ?_
        refine x_getr (Or.inl fl_X10_18) C hP (by decide) xs_9 rfl dX10_worthOfBell_72 ?_
        refine lv_iconst (v := 0) hx hb dX10_worthOfBell_75 (by decide) ?_
        refine lv_aload_n hx hb dX10_worthOfBell_76 rfl (lv_at hl 1 rfl) ?_
        refine x_getr (Or.inl fl_X10_32) C hP (by decide) xs_9 rfl dX10_worthOfBell_77 ?_
        refine x_getr (Or.inr fl_X10_56) C hP (by decide) xs_6 rfl dX10_worthOfBell_80 ?_
        refine lv_iconst (v := 0) hx hb dX10_worthOfBell_83 (by decide) ?_
        refine lv_bipush (v := 12) hx hb dX10_worthOfBell_84 (by decide) ?_
        refine x_copy (hI.cpy (fun _ _ => rfl)) lc_X10_50 C hl.1 hP hD hS (by decide) (by decide) xs_49 xs_25 (by decide) (by decide) (by decide) (by decide) (by decide) (Nat.le_of_ble_eq_true rfl) (Nat.le_of_ble_eq_true rfl) dX10_worthOfBell_86 (fun g H locs eg hI hP hD hS => ?_)
        have h0c : g 0 = g0 0 := by rw [eg]; exact h0c
        refine lv_iload_n hx hb dX10_worthOfBell_89 rfl (lv_at hl 3 rfl) ?_
        refine lv_iload_n hx hb dX10_worthOfBell_90 rfl (lv_at hl 0 rfl) ?_
        refine lv_isub hx hb dX10_worthOfBell_91 ?_
        refine x_any (fun x217 => ?_)
        exact x_iret C hr hlk hP hD hS (g, L) rfl ⟨hI, h0c⟩ (Nat.le_of_ble_eq_true rfl) (Nat.le_of_ble_eq_true rfl) dX10_worthOfBell_92
      ·
        have c211 := icc_nle (m := x207.toInt) (n := x202.toInt) rfl rfl c211
        refine lv_aload_n hx hb dX10_worthOfBell_37 rfl (lv_at hl 0 rfl) ?_
        refine x_getr (Or.inl fl_X10_32) C hP (by decide) xs_9 rfl dX10_worthOfBell_38 ?_
        refine x_getr (Or.inr fl_X10_56) C hP (by decide) xs_6 rfl dX10_worthOfBell_41 ?_
        refine lv_iload_n hx hb dX10_worthOfBell_44 rfl (lv_at hl 3 rfl) ?_
        refine lv_aload_n hx hb dX10_worthOfBell_45 rfl (lv_at hl 0 rfl) ?_
        refine x_getr (Or.inl fl_X10_18) C hP (by decide) xs_9 rfl dX10_worthOfBell_46 ?_
        refine lv_iload_n hx hb dX10_worthOfBell_49 rfl (lv_at hl 3 rfl) ?_
        refine x_ald C hP (by decide) xs_49 (by omega) (by omega) dX10_worthOfBell_50 (fun x218 e219 => ?_)
        refine lv_iload_n hx hb dX10_worthOfBell_51 rfl (lv_at hl 1 rfl) ?_
        refine k_min lm_X10_129 C hl.1 (Nat.le_of_ble_eq_true rfl) (Nat.le_of_ble_eq_true rfl) (Nat.le_of_ble_eq_true rfl) (Nat.le_of_ble_eq_true rfl) dX10_worthOfBell_52 ?_
        refine x_min (mm := x218.toInt) (nn := p1.toInt) rfl rfl (fun x220 e221 => ?_)
        refine x_ast (hI.updN rfl) C hP hD hS (by decide) xs_25 (by omega) (by omega) dX10_worthOfBell_55 (fun g H locs eg hI hP hD hS => ?_)
        have h0c : g 0 = g0 0 := by rw [eg]; exact h0c
        obtain ⟨x222, e223q, e223⟩ : ∃ z : Int32, x202 + Int32.ofInt (1) = z ∧ z.toInt = x202.toInt + (1) := ⟨_, rfl, ic_addc rfl (by decide) (by omega) (by omega)⟩
        refine lv_iinc (v := x222) (lv' := [(3, .int x222), (0, .ref (a 9)), (1, .int p1), (2, .int x2)]) hx hb dX10_worthOfBell_56 hl (k := 3) rfl e223q (by decide) rfl (fun ls hl => ?_)
        refine lv_goto (tgt := 29) hx hb dX10_worthOfBell_59 (by decide) ?_
        exact ih205 x222 g L H locs ls (by omega) hI h0c hP hD hS (lv_sub hl [1, 2, 3, 0] rfl) (by omega)
  have hc_ : (0 : Int32).toInt = 0 := by decide
  exact lp204 14 0 g L H locs ls (by decide) hI h0c hP hD hS (lv_sub hl [2, 3, 1, 0] rfl) (by omega)
set_option maxHeartbeats 4000000 in
set_option maxRecDepth 100000 in
theorem zX10_isAsSeen_9 (l : Launch) (G : kG) (sz : Nat) (b : Nat) (a : Nat → Nat) (g0 : Nat → Nat → Int32) (L0 : Nat → Nat → Int64) (hI : zI XT g0) : kM l yX10_isAsSeen cX10_isAsSeen 2 (some .boolean) { frames := 7, cells := 0, slots := 0, locals := 131 } G [.ref (a 9)] (zw G (XS b) 105 a g0 L0) sz (kQi G (S := zS) (fun r u => zI XT u.1 ∧ u.1 0 = g0 0 ∧ (0 ≤ r.toInt ∧ r.toInt ≤ 1)) (fun u => zw G (XS b) 105 a u.1 u.2)) := by
  refine kM.of (by decide) (Nat.le_of_ble_eq_true rfl) ?_
  intro p e s m below meth c A ls H C hr hlk hnm hP hD hS hl
  have C : kC G p s m c cX10_isAsSeen 2 RX10 A := C
  have hx := C.1
  have hb := C.2.1
  have hl : lv_has ls 2 [(0, .ref (a 9))] := hl
  have h0c : g0 0 = g0 0 := rfl
  obtain ⟨locs, hlocs⟩ : ∃ q : List Loc, q = [] := ⟨_, rfl⟩
  rw [← hlocs] at hS
  rw [← hlocs]
  refine lv_iconst (v := 0) hx hb dX10_isAsSeen_0 (by decide) ?_
  refine lv_istore_n (lv' := [(1, .int 0), (0, .ref (a 9))]) hx hb dX10_isAsSeen_1 rfl hl (by decide) rfl (fun ls hl => ?_)
  have lp151 : ∀ fu : Nat, ∀ (x149 : Int32) (g : Nat → Nat → Int32) (L : Nat → Nat → Int64) (H : Heap) (locs : List Loc) (ls : Array Slot), (0 ≤ x149.toInt ∧ x149.toInt ≤ 8) → zI XT g → g 0 = g0 0 → va_P G.1 vwCl (zw G (XS b) 105 a g L) H → va_D A (zw G (XS b) 105 a g L) → va_S A s.heap H locs → lv_has ls 2 [(0, .ref (a 9)), (1, .int x149)] → 8 - x149.toInt < (fu : Int) → W p l e { frames := 7, cells := 0, slots := 0, locals := 131 } s m [.ref (a 9)].toArray below meth c H locs 0 0 (MQ below ((kQi G (S := zS) (fun r u => zI XT u.1 ∧ u.1 0 = g0 0 ∧ (0 ≤ r.toInt ∧ r.toInt ≤ 1)) (fun u => zw G (XS b) 105 a u.1 u.2)) A) [.ref (a 9)].toArray s 0 0 A) (F0 m 2 ls []) := by
    intro fu
    induction fu with
    | zero => intro x149 g L H locs ls b150 hI h0c hP hD hS hl hm; exact absurd hm (by omega)
    | succ fu ih =>
      intro x149 g L H locs ls b150 hI h0c hP hD hS hl hm
      have ih152 := ih
      refine lv_iload_n hx hb dX10_isAsSeen_2 rfl (lv_at hl 1 rfl) ?_
      refine lv_aload_n hx hb dX10_isAsSeen_3 rfl (lv_at hl 0 rfl) ?_
      refine x_getr (Or.inl fl_X10_32) C hP (by decide) xs_9 rfl dX10_isAsSeen_4 ?_
      refine x_getT hI rfl (Or.inr fl_X10_150) C hP (by decide) xs_6 rfl dX10_isAsSeen_7 (fun x153 e154 b155 => ?_)
      refine lv_icmp_ge (x := x149) (y := x153) (tgt := 49) hx hb dX10_isAsSeen_10 (by decide) (fun c156 => ?_) (fun c156 => ?_)
      ·
        have c156 := icc_le (m := x153.toInt) (n := x149.toInt) rfl rfl c156
        refine lv_iconst (v := 1) hx hb dX10_isAsSeen_49 (by decide) ?_
        exact x_zret C hr hlk rfl hP hD hS (g, L) rfl ⟨hI, h0c, by decide⟩ (Nat.le_of_ble_eq_true rfl) (Nat.le_of_ble_eq_true rfl) dX10_isAsSeen_50
      ·
        have c156 := icc_nle (m := x153.toInt) (n := x149.toInt) rfl rfl c156
        refine lv_aload_n hx hb dX10_isAsSeen_13 rfl (lv_at hl 0 rfl) ?_
        refine x_getr (Or.inl fl_X10_22) C hP (by decide) xs_9 rfl dX10_isAsSeen_14 ?_
        refine lv_aload_n hx hb dX10_isAsSeen_17 rfl (lv_at hl 0 rfl) ?_
        refine x_getr (Or.inl fl_X10_32) C hP (by decide) xs_9 rfl dX10_isAsSeen_18 ?_
        refine x_getr (Or.inr fl_X10_153) C hP (by decide) xs_6 rfl dX10_isAsSeen_21 ?_
        refine lv_iload_n hx hb dX10_isAsSeen_24 rfl (lv_at hl 1 rfl) ?_
        refine x_aldT hI rfl C hP (by decide) xs_32 (by omega) (by omega) dX10_isAsSeen_25 (fun x157 e158 b159 => ?_)
        refine x_callNi (rest := []) li_X10_156 C (zX1_late_8 l G H.size b a g L hI x157 (by omega)) (kR rfl) hP hD hS 8 1 rfl (zat (by decide) xs_8) rfl hl.1 rfl (Nat.le_of_ble_eq_true rfl) dX10_isAsSeen_26 (fun x161 u162 H locs hw160 hP hD hS => ?_)
        obtain ⟨g, L⟩ := u162
        obtain ⟨hI, h0n⟩ := hw160
        have h0c : g 0 = g0 0 := h0n.trans h0c
        have hI : zI XT g := hI
        have hP : va_P G.1 vwCl (zw G (XS b) 105 a g L) H := hP
        have hD : va_D A (zw G (XS b) 105 a g L) := hD
        refine lv_aload_n hx hb dX10_isAsSeen_29 rfl (lv_at hl 0 rfl) ?_
        refine x_getr (Or.inl fl_X10_32) C hP (by decide) xs_9 rfl dX10_isAsSeen_30 ?_
        refine x_getr (Or.inr fl_X10_159) C hP (by decide) xs_6 rfl dX10_isAsSeen_33 ?_
        refine lv_iload_n hx hb dX10_isAsSeen_36 rfl (lv_at hl 1 rfl) ?_
        refine x_ald C hP (by decide) xs_33 (by omega) (by omega) dX10_isAsSeen_37 (fun x165 e166 => ?_)
        refine lv_icmp_eq (x := x161) (y := x165) (tgt := 43) hx hb dX10_isAsSeen_38 (by decide) (fun c167 => ?_) (fun c167 => ?_)
        ·
          have c167 := icc_eq (m := x161.toInt) (n := x165.toInt) rfl rfl c167
          obtain ⟨x168, e169q, e169⟩ : ∃ z : Int32, x149 + Int32.ofInt (1) = z ∧ z.toInt = x149.toInt + (1) := ⟨_, rfl, ic_addc rfl (by decide) (by omega) (by omega)⟩
          refine lv_iinc (v := x168) (lv' := [(1, .int x168), (0, .ref (a 9))]) hx hb dX10_isAsSeen_43 hl (k := 1) rfl e169q (by decide) rfl (fun ls hl => ?_)
          refine lv_goto (tgt := 2) hx hb dX10_isAsSeen_46 (by decide) ?_
          exact ih152 x168 g L H locs ls (by omega) hI h0c hP hD hS (lv_sub hl [1, 0] rfl) (by omega)
        ·
          have c167 := icc_neq (m := x161.toInt) (n := x165.toInt) rfl rfl c167
          refine lv_iconst (v := 0) hx hb dX10_isAsSeen_41 (by decide) ?_
          exact x_zret C hr hlk rfl hP hD hS (g, L) rfl ⟨hI, h0c, by decide⟩ (Nat.le_of_ble_eq_true rfl) (Nat.le_of_ble_eq_true rfl) dX10_isAsSeen_42
  have hc_ : (0 : Int32).toInt = 0 := by decide
  exact lp151 10 0 g0 L0 H locs ls (by decide) hI h0c hP hD hS (lv_sub hl [1, 0] rfl) (by omega)
set_option maxHeartbeats 4000000 in
set_option maxRecDepth 100000 in
theorem zX10_addBeginner_9 (l : Launch) (G : kG) (sz : Nat) (b : Nat) (a : Nat → Nat) (g0 : Nat → Nat → Int32) (L0 : Nat → Nat → Int64) (hI : zI XT g0) (p1 : Int32) (p2 : Int32) (hp1 : 0 ≤ p1.toInt ∧ p1.toInt ≤ 11) : kM l yX10_addBeginner cX10_addBeginner 3 none { frames := 6, cells := 0, slots := 0, locals := 110 } G [.ref (a 9), .int p1, .int p2] (zw G (XS b) 105 a g0 L0) sz (kQv G (S := zS) (fun u => zI XT u.1 ∧ u.1 0 = g0 0) (fun u => zw G (XS b) 105 a u.1 u.2)) := by
  refine kM.of (by decide) (Nat.le_of_ble_eq_true rfl) ?_
  intro p e s m below meth c A ls H C hr hlk hnm hP hD hS hl
  have C : kC G p s m c cX10_addBeginner 3 RX10 A := C
  have hx := C.1
  have hb := C.2.1
  have hl : lv_has ls 3 [(0, .ref (a 9)), (1, .int p1), (2, .int p2)] := hl
  have h0c : g0 0 = g0 0 := rfl
  obtain ⟨locs, hlocs⟩ : ∃ q : List Loc, q = [] := ⟨_, rfl⟩
  rw [← hlocs] at hS
  rw [← hlocs]
  refine lv_aload_n hx hb dX10_addBeginner_0 rfl (lv_at hl 0 rfl) ?_
  refine x_geti (Or.inl fl_X10_134) C hP (by decide) xs_9 rfl dX10_addBeginner_1 (fun x1 e2 => ?_)
  have J13 : ∀ (g : Nat → Nat → Int32) (L : Nat → Nat → Int64) (H : Heap) (locs : List Loc) (ls : Array Slot), zI XT g → g 0 = g0 0 → va_P G.1 vwCl (zw G (XS b) 105 a g L) H → va_D A (zw G (XS b) 105 a g L) → va_S A s.heap H locs → lv_has ls 3 [(0, .ref (a 9))] → W p l e { frames := 6, cells := 0, slots := 0, locals := 110 } s m [.ref (a 9), .int p1, .int p2].toArray below meth c H locs 0 0 (MQ below ((kQv G (S := zS) (fun u => zI XT u.1 ∧ u.1 0 = g0 0) (fun u => zw G (XS b) 105 a u.1 u.2)) A) [.ref (a 9), .int p1, .int p2].toArray s 0 0 A) (F0 m 38 ls []) := by
    intro g L H locs ls hI h0c hP hD hS hl
    refine lv_aload_n hx hb dX10_addBeginner_38 rfl (lv_at hl 0 rfl) ?_
    refine lv_dup hx hb dX10_addBeginner_39 rfl ?_
    refine x_geti (Or.inl fl_X10_134) C hP (by decide) xs_9 rfl dX10_addBeginner_40 (fun x14 e15 => ?_)
    refine lv_iconst (v := 1) hx hb dX10_addBeginner_43 (by decide) ?_
    refine lv_iadd hx hb dX10_addBeginner_44 ?_
    refine x_any (fun x16 => ?_)
    refine x_puti (hI.updN rfl) (Or.inl fl_X10_134) ft_X10_4 C hP hD hS (by decide) xs_9 rfl rfl rfl dX10_addBeginner_45 (fun g H locs eg hI hP hD hS => ?_)
    have h0c : g 0 = g0 0 := by rw [eg]; exact h0c
    exact x_vret C hr hlk hP hD hS (g, L) rfl ⟨hI, h0c⟩ (Nat.le_of_ble_eq_true rfl) (Nat.le_of_ble_eq_true rfl) dX10_addBeginner_48
  refine lv_if_ne (x := x1) (tgt := 25) hx hb dX10_addBeginner_4 (by decide) (fun c17 => ?_) (fun c17 => ?_)
  ·
    have c17 := icc_neq (m := x1.toInt) (n := 0) rfl (by decide) c17
    refine lv_aload_n hx hb dX10_addBeginner_25 rfl (lv_at hl 0 rfl) ?_
    refine x_geti (Or.inl fl_X10_140) C hP (by decide) xs_9 rfl dX10_addBeginner_26 (fun x18 e19 => ?_)
    refine lv_iload_n hx hb dX10_addBeginner_29 rfl (lv_at hl 1 rfl) ?_
    refine lv_icmp_eq (x := x18) (y := p1) (tgt := 38) hx hb dX10_addBeginner_30 (by decide) (fun c20 => ?_) (fun c20 => ?_)
    ·
      have c20 := icc_eq (m := x18.toInt) (n := p1.toInt) rfl rfl c20
      exact J13 g0 L0 H locs ls hI h0c hP hD hS (lv_sub hl [0] rfl)
    ·
      have c20 := icc_neq (m := x18.toInt) (n := p1.toInt) rfl rfl c20
      refine lv_aload_n hx hb dX10_addBeginner_33 rfl (lv_at hl 0 rfl) ?_
      refine lv_iconst (v := -1) hx hb dX10_addBeginner_34 (by decide) ?_
      refine x_puti (hI.updN rfl) (Or.inl fl_X10_140) ft_X10_6 C hP hD hS (by decide) xs_9 rfl rfl rfl dX10_addBeginner_35 (fun g H locs eg hI hP hD hS => ?_)
      have h0c : g 0 = g0 0 := by rw [eg]; exact h0c
      exact J13 g L0 H locs ls hI h0c hP hD hS (lv_sub hl [0] rfl)
  ·
    have c17 := icc_eq (m := x1.toInt) (n := 0) rfl (by decide) c17
    refine lv_aload_n hx hb dX10_addBeginner_7 rfl (lv_at hl 0 rfl) ?_
    refine lv_bipush (v := 100) hx hb dX10_addBeginner_8 (by decide) ?_
    refine lv_iload_n hx hb dX10_addBeginner_10 rfl (lv_at hl 1 rfl) ?_
    refine lv_imul hx hb dX10_addBeginner_11 ?_
    refine x_val (ic_mulc (m := 100) (n := p1.toInt) (by decide) rfl (by omega) (by omega)) (fun x21 e22 => ?_)
    refine lv_iload_n hx hb dX10_addBeginner_12 rfl (lv_at hl 2 rfl) ?_
    refine lv_iadd hx hb dX10_addBeginner_13 ?_
    refine x_any (fun x23 => ?_)
    refine x_puti (hI.updN rfl) (Or.inl fl_X10_137) ft_X10_5 C hP hD hS (by decide) xs_9 rfl rfl rfl dX10_addBeginner_14 (fun g H locs eg hI hP hD hS => ?_)
    have h0c : g 0 = g0 0 := by rw [eg]; exact h0c
    refine lv_aload_n hx hb dX10_addBeginner_17 rfl (lv_at hl 0 rfl) ?_
    refine lv_iload_n hx hb dX10_addBeginner_18 rfl (lv_at hl 1 rfl) ?_
    refine x_puti (hI.updN rfl) (Or.inl fl_X10_140) ft_X10_6 C hP hD hS (by decide) xs_9 rfl rfl rfl dX10_addBeginner_19 (fun g H locs eg hI hP hD hS => ?_)
    have h0c : g 0 = g0 0 := by rw [eg]; exact h0c
    refine lv_goto (tgt := 38) hx hb dX10_addBeginner_22 (by decide) ?_
    exact J13 g L0 H locs ls hI h0c hP hD hS (lv_sub hl [0] rfl)
set_option maxHeartbeats 4000000 in
set_option maxRecDepth 100000 in
theorem zX10_findBeginners_9 (l : Launch) (G : kG) (sz : Nat) (b : Nat) (a : Nat → Nat) (g0 : Nat → Nat → Int32) (L0 : Nat → Nat → Int64) (hI : zI XT g0) : kM l yX10_findBeginners cX10_findBeginners 4 none { frames := 11, cells := 0, slots := 0, locals := 225 } G [.ref (a 9)] (zw G (XS b) 105 a g0 L0) sz (kQv G (S := zS) (fun u => zI XT u.1 ∧ u.1 0 = g0 0) (fun u => zw G (XS b) 105 a u.1 u.2)) := by
  refine kM.of (by decide) (Nat.le_of_ble_eq_true rfl) ?_
  intro p e s m below meth c A ls H C hr hlk hnm hP hD hS hl
  have C : kC G p s m c cX10_findBeginners 4 RX10 A := C
  have hx := C.1
  have hb := C.2.1
  have hl : lv_has ls 4 [(0, .ref (a 9))] := hl
  have h0c : g0 0 = g0 0 := rfl
  obtain ⟨locs, hlocs⟩ : ∃ q : List Loc, q = [] := ⟨_, rfl⟩
  rw [← hlocs] at hS
  rw [← hlocs]
  refine lv_aload_n hx hb dX10_findBeginners_0 rfl (lv_at hl 0 rfl) ?_
  refine lv_iconst (v := 0) hx hb dX10_findBeginners_1 (by decide) ?_
  refine x_puti (hI.updN rfl) (Or.inl fl_X10_134) ft_X10_4 C hP hD hS (by decide) xs_9 rfl rfl rfl dX10_findBeginners_2 (fun g H locs eg hI hP hD hS => ?_)
  have h0c : g 0 = g0 0 := by rw [eg]; exact h0c
  refine lv_aload_n hx hb dX10_findBeginners_5 rfl (lv_at hl 0 rfl) ?_
  refine lv_iconst (v := -1) hx hb dX10_findBeginners_6 (by decide) ?_
  refine x_puti (hI.updN rfl) (Or.inl fl_X10_137) ft_X10_5 C hP hD hS (by decide) xs_9 rfl rfl rfl dX10_findBeginners_7 (fun g H locs eg hI hP hD hS => ?_)
  have h0c : g 0 = g0 0 := by rw [eg]; exact h0c
  refine lv_aload_n hx hb dX10_findBeginners_10 rfl (lv_at hl 0 rfl) ?_
  refine lv_iconst (v := -1) hx hb dX10_findBeginners_11 (by decide) ?_
  refine x_puti (hI.updN rfl) (Or.inl fl_X10_140) ft_X10_6 C hP hD hS (by decide) xs_9 rfl rfl rfl dX10_findBeginners_12 (fun g H locs eg hI hP hD hS => ?_)
  have h0c : g 0 = g0 0 := by rw [eg]; exact h0c
  refine lv_iconst (v := 0) hx hb dX10_findBeginners_15 (by decide) ?_
  refine lv_istore_n (lv' := [(1, .int 0), (0, .ref (a 9))]) hx hb dX10_findBeginners_16 rfl hl (by decide) rfl (fun ls hl => ?_)
  have lp4365 : ∀ fu : Nat, ∀ (x4363 : Int32) (g : Nat → Nat → Int32) (L : Nat → Nat → Int64) (H : Heap) (locs : List Loc) (ls : Array Slot), (0 ≤ x4363.toInt ∧ x4363.toInt ≤ 12) → zI XT g → g 0 = g0 0 → va_P G.1 vwCl (zw G (XS b) 105 a g L) H → va_D A (zw G (XS b) 105 a g L) → va_S A s.heap H locs → lv_has ls 4 [(0, .ref (a 9)), (1, .int x4363)] → 12 - x4363.toInt < (fu : Int) → W p l e { frames := 11, cells := 0, slots := 0, locals := 225 } s m [.ref (a 9)].toArray below meth c H locs 0 0 (MQ below ((kQv G (S := zS) (fun u => zI XT u.1 ∧ u.1 0 = g0 0) (fun u => zw G (XS b) 105 a u.1 u.2)) A) [.ref (a 9)].toArray s 0 0 A) (F0 m 17 ls []) := by
    intro fu
    induction fu with
    | zero => intro x4363 g L H locs ls b4364 hI h0c hP hD hS hl hm; exact absurd hm (by omega)
    | succ fu ih =>
      intro x4363 g L H locs ls b4364 hI h0c hP hD hS hl hm
      have ih4366 := ih
      refine lv_iload_n hx hb dX10_findBeginners_17 rfl (lv_at hl 1 rfl) ?_
      refine lv_aload_n hx hb dX10_findBeginners_18 rfl (lv_at hl 0 rfl) ?_
      refine x_callVi (rest := [.int x4363]) li_X10_64 C (zX10_lessonCount_9 l G H.size b a g L hI) (kR rfl) hP hD hS 9 10 rfl (zat (by decide) xs_9) rfl hl.1 rfl (Nat.le_of_ble_eq_true rfl) dX10_findBeginners_19 (fun x4368 u4369 H locs hw4367 hP hD hS => ?_)
      obtain ⟨g, L⟩ := u4369
      obtain ⟨hI, h0n, b4370⟩ := hw4367
      have h0c : g 0 = g0 0 := h0n.trans h0c
      have hI : zI XT g := hI
      have hP : va_P G.1 vwCl (zw G (XS b) 105 a g L) H := hP
      have hD : va_D A (zw G (XS b) 105 a g L) := hD
      refine lv_icmp_ge (x := x4363) (y := x4368) (tgt := 104) hx hb dX10_findBeginners_22 (by decide) (fun c4372 => ?_) (fun c4372 => ?_)
      ·
        have c4372 := icc_le (m := x4368.toInt) (n := x4363.toInt) rfl rfl c4372
        exact x_vret C hr hlk hP hD hS (g, L) rfl ⟨hI, h0c⟩ (Nat.le_of_ble_eq_true rfl) (Nat.le_of_ble_eq_true rfl) dX10_findBeginners_104
      ·
        have c4372 := icc_nle (m := x4368.toInt) (n := x4363.toInt) rfl rfl c4372
        refine lv_aload_n hx hb dX10_findBeginners_25 rfl (lv_at hl 0 rfl) ?_
        refine x_getr (Or.inl fl_X10_22) C hP (by decide) xs_9 rfl dX10_findBeginners_26 ?_
        refine lv_iconst (v := 0) hx hb dX10_findBeginners_29 (by decide) ?_
        refine x_callNv (rest := []) li_X10_43 C (zX1_runFrom_8 l G H.size b a g L hI 0 (by decide)) (kR rfl) hP hD hS 8 1 rfl (zat (by decide) xs_8) rfl hl.1 rfl (Nat.le_of_ble_eq_true rfl) dX10_findBeginners_30 (fun u4375 H locs hw4373 hP hD hS => ?_)
        obtain ⟨g, L⟩ := u4375
        obtain ⟨hI, h0n⟩ := hw4373
        have h0c : g 0 = g0 0 := h0n.trans h0c
        have hI : zI XT g := hI
        have hP : va_P G.1 vwCl (zw G (XS b) 105 a g L) H := hP
        have hD : va_D A (zw G (XS b) 105 a g L) := hD
        refine lv_aload_n hx hb dX10_findBeginners_33 rfl (lv_at hl 0 rfl) ?_
        refine x_getr (Or.inl fl_X10_32) C hP (by decide) xs_9 rfl dX10_findBeginners_34 ?_
        refine x_getr (Or.inr fl_X10_56) C hP (by decide) xs_6 rfl dX10_findBeginners_37 ?_
        refine lv_iload_n hx hb dX10_findBeginners_40 rfl (lv_at hl 1 rfl) ?_
        refine x_ald C hP (by decide) xs_25 (by omega) (by omega) dX10_findBeginners_41 (fun x4378 e4379 => ?_)
        refine lv_istore_n (lv' := [(2, .int x4378), (0, .ref (a 9)), (1, .int x4363)]) hx hb dX10_findBeginners_42 rfl hl (by decide) rfl (fun ls hl => ?_)
        refine lv_iconst (v := 0) hx hb dX10_findBeginners_43 (by decide) ?_
        refine lv_istore_n (lv' := [(3, .int 0), (2, .int x4378), (0, .ref (a 9)), (1, .int x4363)]) hx hb dX10_findBeginners_44 rfl hl (by decide) rfl (fun ls hl => ?_)
        have lp4770 : ∀ fu : Nat, ∀ (x4768 : Int32) (g : Nat → Nat → Int32) (L : Nat → Nat → Int64) (H : Heap) (locs : List Loc) (ls : Array Slot), (0 ≤ x4768.toInt ∧ x4768.toInt ≤ 31) → zI XT g → g 0 = g0 0 → va_P G.1 vwCl (zw G (XS b) 105 a g L) H → va_D A (zw G (XS b) 105 a g L) → va_S A s.heap H locs → lv_has ls 4 [(0, .ref (a 9)), (1, .int x4363), (2, .int x4378), (3, .int x4768)] → 31 - x4768.toInt < (fu : Int) → W p l e { frames := 11, cells := 0, slots := 0, locals := 225 } s m [.ref (a 9)].toArray below meth c H locs 0 0 (MQ below ((kQv G (S := zS) (fun u => zI XT u.1 ∧ u.1 0 = g0 0) (fun u => zw G (XS b) 105 a u.1 u.2)) A) [.ref (a 9)].toArray s 0 0 A) (F0 m 45 ls []) := by
          intro fu
          induction fu with
          | zero => intro x4768 g L H locs ls b4769 hI h0c hP hD hS hl hm; exact absurd hm (by omega)
          | succ fu ih =>
            intro x4768 g L H locs ls b4769 hI h0c hP hD hS hl hm
            have ih4771 := ih
            refine lv_iload_n hx hb dX10_findBeginners_45 rfl (lv_at hl 3 rfl) ?_
            refine lv_bipush (v := 30) hx hb dX10_findBeginners_46 (by decide) ?_
            refine lv_icmp_gt (x := x4768) (y := 30) (tgt := 88) hx hb dX10_findBeginners_48 (by decide) (fun c4772 => ?_) (fun c4772 => ?_)
            ·
              have c4772 := icc_lt (m := 30) (n := x4768.toInt) (by decide) rfl c4772
              refine lv_aload_n hx hb dX10_findBeginners_88 rfl (lv_at hl 0 rfl) ?_
              refine x_getr (Or.inl fl_X10_32) C hP (by decide) xs_9 rfl dX10_findBeginners_89 ?_
              refine x_getr (Or.inr fl_X10_56) C hP (by decide) xs_6 rfl dX10_findBeginners_92 ?_
              refine lv_iload_n hx hb dX10_findBeginners_95 rfl (lv_at hl 1 rfl) ?_
              refine lv_iload_n hx hb dX10_findBeginners_96 rfl (lv_at hl 2 rfl) ?_
              refine x_ast (hI.updN rfl) C hP hD hS (by decide) xs_25 (by omega) (by omega) dX10_findBeginners_97 (fun g H locs eg hI hP hD hS => ?_)
              have h0c : g 0 = g0 0 := by rw [eg]; exact h0c
              obtain ⟨x4773, e4774q, e4774⟩ : ∃ z : Int32, x4363 + Int32.ofInt (1) = z ∧ z.toInt = x4363.toInt + (1) := ⟨_, rfl, ic_addc rfl (by decide) (by omega) (by omega)⟩
              refine lv_iinc (v := x4773) (lv' := [(1, .int x4773), (0, .ref (a 9)), (2, .int x4378), (3, .int x4768)]) hx hb dX10_findBeginners_98 hl (k := 1) rfl e4774q (by decide) rfl (fun ls hl => ?_)
              refine lv_goto (tgt := 17) hx hb dX10_findBeginners_101 (by decide) ?_
              exact ih4366 x4773 g L H locs ls (by omega) hI h0c hP hD hS (lv_sub hl [1, 0] rfl) (by omega)
            ·
              have c4772 := icc_nlt (m := 30) (n := x4768.toInt) (by decide) rfl c4772
              refine lv_aload_n hx hb dX10_findBeginners_51 rfl (lv_at hl 0 rfl) ?_
              refine x_getr (Or.inl fl_X10_32) C hP (by decide) xs_9 rfl dX10_findBeginners_52 ?_
              refine x_getr (Or.inr fl_X10_56) C hP (by decide) xs_6 rfl dX10_findBeginners_55 ?_
              refine lv_iload_n hx hb dX10_findBeginners_58 rfl (lv_at hl 1 rfl) ?_
              refine lv_iload_n hx hb dX10_findBeginners_59 rfl (lv_at hl 3 rfl) ?_
              refine x_ast (hI.updN rfl) C hP hD hS (by decide) xs_25 (by omega) (by omega) dX10_findBeginners_60 (fun g H locs eg hI hP hD hS => ?_)
              have h0c : g 0 = g0 0 := by rw [eg]; exact h0c
              refine lv_aload_n hx hb dX10_findBeginners_61 rfl (lv_at hl 0 rfl) ?_
              refine x_getr (Or.inl fl_X10_22) C hP (by decide) xs_9 rfl dX10_findBeginners_62 ?_
              refine lv_iload_n hx hb dX10_findBeginners_65 rfl (lv_at hl 1 rfl) ?_
              refine x_callNv (rest := []) li_X10_43 C (zX1_runFrom_8 l G H.size b a g L hI x4363 (by omega)) (kR rfl) hP hD hS 8 1 rfl (zat (by decide) xs_8) rfl hl.1 rfl (Nat.le_of_ble_eq_true rfl) dX10_findBeginners_66 (fun u4777 H locs hw4775 hP hD hS => ?_)
              obtain ⟨g, L⟩ := u4777
              obtain ⟨hI, h0n⟩ := hw4775
              have h0c : g 0 = g0 0 := h0n.trans h0c
              have hI : zI XT g := hI
              have hP : va_P G.1 vwCl (zw G (XS b) 105 a g L) H := hP
              have hD : va_D A (zw G (XS b) 105 a g L) := hD
              refine lv_aload_n hx hb dX10_findBeginners_69 rfl (lv_at hl 0 rfl) ?_
              refine x_callVi (rest := []) li_X10_143 C (zX10_isAsSeen_9 l G H.size b a g L hI) (kR rfl) hP hD hS 9 10 rfl (zat (by decide) xs_9) rfl hl.1 rfl (Nat.le_of_ble_eq_true rfl) dX10_findBeginners_70 (fun x4781 u4782 H locs hw4780 hP hD hS => ?_)
              obtain ⟨g, L⟩ := u4782
              obtain ⟨hI, h0n, b4783⟩ := hw4780
              have h0c : g 0 = g0 0 := h0n.trans h0c
              have hI : zI XT g := hI
              have hP : va_P G.1 vwCl (zw G (XS b) 105 a g L) H := hP
              have hD : va_D A (zw G (XS b) 105 a g L) := hD
              have J4793 : ∀ (g : Nat → Nat → Int32) (L : Nat → Nat → Int64) (H : Heap) (locs : List Loc) (ls : Array Slot), zI XT g → g 0 = g0 0 → va_P G.1 vwCl (zw G (XS b) 105 a g L) H → va_D A (zw G (XS b) 105 a g L) → va_S A s.heap H locs → lv_has ls 4 [(0, .ref (a 9)), (1, .int x4363), (2, .int x4378), (3, .int x4768)] → W p l e { frames := 11, cells := 0, slots := 0, locals := 225 } s m [.ref (a 9)].toArray below meth c H locs 0 0 (MQ below ((kQv G (S := zS) (fun u => zI XT u.1 ∧ u.1 0 = g0 0) (fun u => zw G (XS b) 105 a u.1 u.2)) A) [.ref (a 9)].toArray s 0 0 A) (F0 m 82 ls []) := by
                intro g L H locs ls hI h0c hP hD hS hl
                obtain ⟨x4794, e4795q, e4795⟩ : ∃ z : Int32, x4768 + Int32.ofInt (1) = z ∧ z.toInt = x4768.toInt + (1) := ⟨_, rfl, ic_addc rfl (by decide) (by omega) (by omega)⟩
                refine lv_iinc (v := x4794) (lv' := [(3, .int x4794), (0, .ref (a 9)), (1, .int x4363), (2, .int x4378)]) hx hb dX10_findBeginners_82 hl (k := 3) rfl e4795q (by decide) rfl (fun ls hl => ?_)
                refine lv_goto (tgt := 45) hx hb dX10_findBeginners_85 (by decide) ?_
                exact ih4771 x4794 g L H locs ls (by omega) hI h0c hP hD hS (lv_sub hl [1, 2, 3, 0] rfl) (by omega)
              refine lv_if_eq (x := x4781) (tgt := 82) hx hb dX10_findBeginners_73 (by decide) (fun c4796 => ?_) (fun c4796 => ?_)
              ·
                have c4796 := icc_eq (m := x4781.toInt) (n := 0) rfl (by decide) c4796
                exact J4793 g L H locs ls hI h0c hP hD hS (lv_sub hl [0, 1, 2, 3] rfl)
              ·
                have c4796 := icc_neq (m := x4781.toInt) (n := 0) rfl (by decide) c4796
                refine lv_aload_n hx hb dX10_findBeginners_76 rfl (lv_at hl 0 rfl) ?_
                refine lv_iload_n hx hb dX10_findBeginners_77 rfl (lv_at hl 1 rfl) ?_
                refine lv_iload_n hx hb dX10_findBeginners_78 rfl (lv_at hl 3 rfl) ?_
                refine x_callVv (rest := []) li_X10_147 C (zX10_addBeginner_9 l G H.size b a g L hI x4363 x4768 (by omega)) (kR rfl) hP hD hS 9 10 rfl (zat (by decide) xs_9) rfl hl.1 rfl (Nat.le_of_ble_eq_true rfl) dX10_findBeginners_79 (fun u4799 H locs hw4797 hP hD hS => ?_)
                obtain ⟨g, L⟩ := u4799
                obtain ⟨hI, h0n⟩ := hw4797
                have h0c : g 0 = g0 0 := h0n.trans h0c
                have hI : zI XT g := hI
                have hP : va_P G.1 vwCl (zw G (XS b) 105 a g L) H := hP
                have hD : va_D A (zw G (XS b) 105 a g L) := hD
                exact J4793 g L H locs ls hI h0c hP hD hS (lv_sub hl [0, 1, 2, 3] rfl)
        have hc_ : (0 : Int32).toInt = 0 := by decide
        exact lp4770 33 0 g L H locs ls (by decide) hI h0c hP hD hS (lv_sub hl [2, 3, 1, 0] rfl) (by omega)
  have hc_ : (0 : Int32).toInt = 0 := by decide
  exact lp4365 14 0 g L0 H locs ls (by decide) hI h0c hP hD hS (lv_sub hl [1, 0] rfl) (by omega)
set_option maxHeartbeats 4000000 in
set_option maxRecDepth 100000 in
theorem zX10_leastByShift_9 (l : Launch) (G : kG) (sz : Nat) (b : Nat) (a : Nat → Nat) (g0 : Nat → Nat → Int32) (L0 : Nat → Nat → Int64) (hI : zI XT g0) (p1 : Int32) (p2 : Int32) (hp1 : 0 ≤ p1.toInt ∧ p1.toInt ≤ 11) : kM l yX10_leastByShift cX10_leastByShift 7 (some .int) { frames := 11, cells := 0, slots := 0, locals := 225 } G [.ref (a 9), .int p1, .int p2] (zw G (XS b) 105 a g0 L0) sz (kQi G (S := zS) (fun r u => zI XT u.1 ∧ u.1 0 = g0 0) (fun u => zw G (XS b) 105 a u.1 u.2)) := by
  refine kM.of (by decide) (Nat.le_of_ble_eq_true rfl) ?_
  intro p e s m below meth c A ls H C hr hlk hnm hP hD hS hl
  have C : kC G p s m c cX10_leastByShift 7 RX10 A := C
  have hx := C.1
  have hb := C.2.1
  have hl : lv_has ls 7 [(0, .ref (a 9)), (1, .int p1), (2, .int p2)] := hl
  have h0c : g0 0 = g0 0 := rfl
  obtain ⟨locs, hlocs⟩ : ∃ q : List Loc, q = [] := ⟨_, rfl⟩
  rw [← hlocs] at hS
  rw [← hlocs]
  refine lv_aload_n hx hb dX10_leastByShift_0 rfl (lv_at hl 0 rfl) ?_
  refine x_getr (Or.inl fl_X10_22) C hP (by decide) xs_9 rfl dX10_leastByShift_1 ?_
  refine x_getr (Or.inr fl_X10_33) C hP (by decide) xs_8 rfl dX10_leastByShift_4 ?_
  refine x_getr (Or.inr fl_X10_162) C hP (by decide) xs_1 rfl dX10_leastByShift_7 ?_
  refine lv_iload_n hx hb dX10_leastByShift_10 rfl (lv_at hl 1 rfl) ?_
  refine x_aaldQ (t := 57) C hP (by decide) xs_17 (by omega) (by omega) dX10_leastByShift_11 (fun q1 q1l q1h => ?_)
  refine lv_astore_n (lv' := [(3, .ref (a q1)), (0, .ref (a 9)), (1, .int p1), (2, .int p2)]) hx hb dX10_leastByShift_12 rfl hl (by decide) rfl (fun ls hl => ?_)
  refine lv_aload_n hx hb dX10_leastByShift_13 rfl (lv_at hl 0 rfl) ?_
  refine x_geti (Or.inr fl_X10_166) C hP (by omega) (xs_les (by omega) (by omega)) rfl dX10_leastByShift_14 (fun x2 e3 => ?_)
  refine lv_istore (lv' := [(4, .int x2), (3, .ref (a q1)), (0, .ref (a 9)), (1, .int p1), (2, .int p2)]) hx hb dX10_leastByShift_17 hl (by decide) rfl (fun ls hl => ?_)
  refine lv_aload_n hx hb dX10_leastByShift_19 rfl (lv_at hl 1 rfl) ?_
  refine x_geti (Or.inr fl_X10_171) C hP (by omega) (xs_les (by omega) (by omega)) rfl dX10_leastByShift_20 (fun x4 e5 => ?_)
  refine lv_istore (lv' := [(5, .int x4), (4, .int x2), (3, .ref (a q1)), (0, .ref (a 9)), (1, .int p1), (2, .int p2)]) hx hb dX10_leastByShift_23 hl (by decide) rfl (fun ls hl => ?_)
  refine lv_aload_n hx hb dX10_leastByShift_25 rfl (lv_at hl 3 rfl) ?_
  refine x_getr (Or.inl fl_X10_22) C hP (by decide) xs_9 rfl dX10_leastByShift_26 ?_
  refine lv_iconst (v := 0) hx hb dX10_leastByShift_29 (by decide) ?_
  refine x_callNv (rest := []) li_X10_43 C (zX1_runFrom_8 l G H.size b a g0 L0 hI 0 (by decide)) (kR rfl) hP hD hS 8 1 rfl (zat (by decide) xs_8) rfl hl.1 rfl (Nat.le_of_ble_eq_true rfl) dX10_leastByShift_30 (fun u8 H locs hw6 hP hD hS => ?_)
  obtain ⟨g, L⟩ := u8
  obtain ⟨hI, h0n⟩ := hw6
  have h0c : g 0 = g0 0 := h0n.trans h0c
  have hI : zI XT g := hI
  have hP : va_P G.1 vwCl (zw G (XS b) 105 a g L) H := hP
  have hD : va_D A (zw G (XS b) 105 a g L) := hD
  refine lv_aload_n hx hb dX10_leastByShift_33 rfl (lv_at hl 3 rfl) ?_
  refine x_getr (Or.inl fl_X10_12) C hP (by decide) xs_9 rfl dX10_leastByShift_34 ?_
  refine x_callNv (rest := []) li_X10_81 C (zX4_clear_13 l G H.size b a g L hI) (kR rfl) hP hD hS 13 4 rfl (zat (by decide) xs_13) rfl hl.1 rfl (Nat.le_of_ble_eq_true rfl) dX10_leastByShift_37 (fun u13 H locs hw11 hP hD hS => ?_)
  obtain ⟨g, L⟩ := u13
  obtain ⟨hI, h0n⟩ := hw11
  have h0c : g 0 = g0 0 := h0n.trans h0c
  have hI : zI XT g := hI
  have hP : va_P G.1 vwCl (zw G (XS b) 105 a g L) H := hP
  have hD : va_D A (zw G (XS b) 105 a g L) := hD
  refine lv_bipush (v := -20) hx hb dX10_leastByShift_40 (by decide) ?_
  refine lv_istore (lv' := [(6, .int (-20)), (5, .int x4), (4, .int x2), (3, .ref (a q1)), (0, .ref (a 9)), (1, .int p1), (2, .int p2)]) hx hb dX10_leastByShift_42 hl (by decide) rfl (fun ls hl => ?_)
  have lp646 : ∀ fu : Nat, ∀ (x644 : Int32) (g : Nat → Nat → Int32) (L : Nat → Nat → Int64) (H : Heap) (locs : List Loc) (ls : Array Slot), ((-20) ≤ x644.toInt ∧ x644.toInt ≤ 21) → zI XT g → g 0 = g0 0 → va_P G.1 vwCl (zw G (XS b) 105 a g L) H → va_D A (zw G (XS b) 105 a g L) → va_S A s.heap H locs → lv_has ls 7 [(0, .ref (a 9)), (1, .int p1), (2, .int p2), (3, .ref (a q1)), (4, .int x2), (5, .int x4), (6, .int x644)] → 21 - x644.toInt < (fu : Int) → W p l e { frames := 11, cells := 0, slots := 0, locals := 225 } s m [.ref (a 9), .int p1, .int p2].toArray below meth c H locs 0 0 (MQ below ((kQi G (S := zS) (fun r u => zI XT u.1 ∧ u.1 0 = g0 0) (fun u => zw G (XS b) 105 a u.1 u.2)) A) [.ref (a 9), .int p1, .int p2].toArray s 0 0 A) (F0 m 44 ls []) := by
    intro fu
    induction fu with
    | zero => intro x644 g L H locs ls b645 hI h0c hP hD hS hl hm; exact absurd hm (by omega)
    | succ fu ih =>
      intro x644 g L H locs ls b645 hI h0c hP hD hS hl hm
      have ih647 := ih
      refine lv_iload hx hb dX10_leastByShift_44 (lv_at hl 6 rfl) ?_
      refine lv_bipush (v := 20) hx hb dX10_leastByShift_46 (by decide) ?_
      refine lv_icmp_gt (x := x644) (y := 20) (tgt := 111) hx hb dX10_leastByShift_48 (by decide) (fun c648 => ?_) (fun c648 => ?_)
      ·
        have c648 := icc_lt (m := 20) (n := x644.toInt) (by decide) rfl c648
        refine lv_aload_n hx hb dX10_leastByShift_111 rfl (lv_at hl 3 rfl) ?_
        refine lv_iload hx hb dX10_leastByShift_112 (lv_at hl 4 rfl) ?_
        refine x_puti (hI.updN (xt_lesN (by omega) (by omega) (by decide))) (Or.inr fl_X10_166) ft_X5_3 C hP hD hS (by omega) (xs_les (by omega) (by omega)) rfl rfl rfl dX10_leastByShift_114 (fun g H locs eg hI hP hD hS => ?_)
        have h0c : g 0 = g0 0 := by rw [eg]; exact (updA_ne (by omega)).trans h0c
        refine lv_aload_n hx hb dX10_leastByShift_117 rfl (lv_at hl 3 rfl) ?_
        refine lv_iload hx hb dX10_leastByShift_118 (lv_at hl 5 rfl) ?_
        refine x_puti (hI.updN (xt_lesN (by omega) (by omega) (by decide))) (Or.inr fl_X10_171) ft_X5_4 C hP hD hS (by omega) (xs_les (by omega) (by omega)) rfl rfl rfl dX10_leastByShift_120 (fun g H locs eg hI hP hD hS => ?_)
        have h0c : g 0 = g0 0 := by rw [eg]; exact (updA_ne (by omega)).trans h0c
        refine lv_aload_n hx hb dX10_leastByShift_123 rfl (lv_at hl 0 rfl) ?_
        refine x_getr (Or.inl fl_X10_12) C hP (by decide) xs_9 rfl dX10_leastByShift_124 ?_
        refine lv_iload_n hx hb dX10_leastByShift_127 rfl (lv_at hl 2 rfl) ?_
        refine x_callNi (rest := []) li_X10_97 C (zX4_told_13 l G H.size b a g L hI p2) (kR rfl) hP hD hS 13 4 rfl (zat (by decide) xs_13) rfl hl.1 rfl (Nat.le_of_ble_eq_true rfl) dX10_leastByShift_128 (fun x650 u651 H locs hw649 hP hD hS => ?_)
        obtain ⟨g, L⟩ := u651
        obtain ⟨hI, h0n⟩ := hw649
        have h0c : g 0 = g0 0 := h0n.trans h0c
        have hI : zI XT g := hI
        have hP : va_P G.1 vwCl (zw G (XS b) 105 a g L) H := hP
        have hD : va_D A (zw G (XS b) 105 a g L) := hD
        exact x_iret C hr hlk hP hD hS (g, L) rfl ⟨hI, h0c⟩ (Nat.le_of_ble_eq_true rfl) (Nat.le_of_ble_eq_true rfl) dX10_leastByShift_131
      ·
        have c648 := icc_nlt (m := 20) (n := x644.toInt) (by decide) rfl c648
        refine lv_iload hx hb dX10_leastByShift_51 (lv_at hl 4 rfl) ?_
        refine lv_iload hx hb dX10_leastByShift_53 (lv_at hl 6 rfl) ?_
        refine lv_iadd hx hb dX10_leastByShift_55 ?_
        refine x_any (fun x654 => ?_)
        have J672 : ∀ (g : Nat → Nat → Int32) (L : Nat → Nat → Int64) (H : Heap) (locs : List Loc) (ls : Array Slot), zI XT g → g 0 = g0 0 → va_P G.1 vwCl (zw G (XS b) 105 a g L) H → va_D A (zw G (XS b) 105 a g L) → va_S A s.heap H locs → lv_has ls 7 [(0, .ref (a 9)), (1, .int p1), (2, .int p2), (3, .ref (a q1)), (4, .int x2), (5, .int x4), (6, .int x644)] → W p l e { frames := 11, cells := 0, slots := 0, locals := 225 } s m [.ref (a 9), .int p1, .int p2].toArray below meth c H locs 0 0 (MQ below ((kQi G (S := zS) (fun r u => zI XT u.1 ∧ u.1 0 = g0 0) (fun u => zw G (XS b) 105 a u.1 u.2)) A) [.ref (a 9), .int p1, .int p2].toArray s 0 0 A) (F0 m 105 ls []) := by
          intro g L H locs ls hI h0c hP hD hS hl
          obtain ⟨x673, e674q, e674⟩ : ∃ z : Int32, x644 + Int32.ofInt (1) = z ∧ z.toInt = x644.toInt + (1) := ⟨_, rfl, ic_addc rfl (by decide) (by omega) (by omega)⟩
          refine lv_iinc (v := x673) (lv' := [(6, .int x673), (0, .ref (a 9)), (1, .int p1), (2, .int p2), (3, .ref (a q1)), (4, .int x2), (5, .int x4)]) hx hb dX10_leastByShift_105 hl (k := 6) rfl e674q (by decide) rfl (fun ls hl => ?_)
          refine lv_goto (tgt := 44) hx hb dX10_leastByShift_108 (by decide) ?_
          exact ih647 x673 g L H locs ls (by omega) hI h0c hP hD hS (lv_sub hl [1, 2, 3, 4, 5, 6, 0] rfl) (by omega)
        refine lv_if_lt (x := x654) (tgt := 105) hx hb dX10_leastByShift_56 (by decide) (fun c675 => ?_) (fun c675 => ?_)
        ·
          have c675 := icc_lt (m := x654.toInt) (n := 0) rfl (by decide) c675
          exact J672 g L H locs ls hI h0c hP hD hS (lv_sub hl [0, 1, 2, 3, 4, 5, 6] rfl)
        ·
          have c675 := icc_nlt (m := x654.toInt) (n := 0) rfl (by decide) c675
          refine lv_iload hx hb dX10_leastByShift_59 (lv_at hl 5 rfl) ?_
          refine lv_iload hx hb dX10_leastByShift_61 (lv_at hl 6 rfl) ?_
          refine lv_iadd hx hb dX10_leastByShift_63 ?_
          refine x_any (fun x676 => ?_)
          refine lv_sipush (v := 999) hx hb dX10_leastByShift_64 (by decide) ?_
          refine lv_icmp_gt (x := x676) (y := 999) (tgt := 105) hx hb dX10_leastByShift_67 (by decide) (fun c677 => ?_) (fun c677 => ?_)
          ·
            have c677 := icc_lt (m := 999) (n := x676.toInt) (by decide) rfl c677
            exact J672 g L H locs ls hI h0c hP hD hS (lv_sub hl [0, 1, 2, 3, 4, 5, 6] rfl)
          ·
            have c677 := icc_nlt (m := 999) (n := x676.toInt) (by decide) rfl c677
            refine lv_aload_n hx hb dX10_leastByShift_70 rfl (lv_at hl 3 rfl) ?_
            refine lv_iload hx hb dX10_leastByShift_71 (lv_at hl 4 rfl) ?_
            refine lv_iload hx hb dX10_leastByShift_73 (lv_at hl 6 rfl) ?_
            refine lv_iadd hx hb dX10_leastByShift_75 ?_
            refine x_any (fun x678 => ?_)
            refine x_puti (hI.updN (xt_lesN (by omega) (by omega) (by decide))) (Or.inr fl_X10_166) ft_X5_3 C hP hD hS (by omega) (xs_les (by omega) (by omega)) rfl rfl rfl dX10_leastByShift_76 (fun g H locs eg hI hP hD hS => ?_)
            have h0c : g 0 = g0 0 := by rw [eg]; exact (updA_ne (by omega)).trans h0c
            refine lv_aload_n hx hb dX10_leastByShift_79 rfl (lv_at hl 3 rfl) ?_
            refine lv_iload hx hb dX10_leastByShift_80 (lv_at hl 5 rfl) ?_
            refine lv_iload hx hb dX10_leastByShift_82 (lv_at hl 6 rfl) ?_
            refine lv_iadd hx hb dX10_leastByShift_84 ?_
            refine x_any (fun x679 => ?_)
            refine x_puti (hI.updN (xt_lesN (by omega) (by omega) (by decide))) (Or.inr fl_X10_171) ft_X5_4 C hP hD hS (by omega) (xs_les (by omega) (by omega)) rfl rfl rfl dX10_leastByShift_85 (fun g H locs eg hI hP hD hS => ?_)
            have h0c : g 0 = g0 0 := by rw [eg]; exact (updA_ne (by omega)).trans h0c
            refine lv_aload_n hx hb dX10_leastByShift_88 rfl (lv_at hl 0 rfl) ?_
            refine x_getr (Or.inl fl_X10_12) C hP (by decide) xs_9 rfl dX10_leastByShift_89 ?_
            refine lv_iload hx hb dX10_leastByShift_92 (lv_at hl 6 rfl) ?_
            refine lv_aload_n hx hb dX10_leastByShift_94 rfl (lv_at hl 0 rfl) ?_
            refine x_getr (Or.inl fl_X10_22) C hP (by decide) xs_9 rfl dX10_leastByShift_95 ?_
            refine lv_iload_n hx hb dX10_leastByShift_98 rfl (lv_at hl 1 rfl) ?_
            refine x_callNi (rest := [.int x644, .ref (a 13)]) li_X10_77 C (zX1_lostFrom_8 l G H.size b a g L hI p1 (by omega)) (kR rfl) hP hD hS 8 1 rfl (zat (by decide) xs_8) rfl hl.1 rfl (Nat.le_of_ble_eq_true rfl) dX10_leastByShift_99 (fun x681 u682 H locs hw680 hP hD hS => ?_)
            obtain ⟨g, L⟩ := u682
            obtain ⟨hI, h0n⟩ := hw680
            have h0c : g 0 = g0 0 := h0n.trans h0c
            have hI : zI XT g := hI
            have hP : va_P G.1 vwCl (zw G (XS b) 105 a g L) H := hP
            have hD : va_D A (zw G (XS b) 105 a g L) := hD
            refine x_callNv (rest := []) li_X10_87 C (zX4_offer_13 l G H.size b a g L hI x644 x681) (kR rfl) hP hD hS 13 4 rfl (zat (by decide) xs_13) rfl hl.1 rfl (Nat.le_of_ble_eq_true rfl) dX10_leastByShift_102 (fun u687 H locs hw685 hP hD hS => ?_)
            obtain ⟨g, L⟩ := u687
            obtain ⟨hI, h0n⟩ := hw685
            have h0c : g 0 = g0 0 := h0n.trans h0c
            have hI : zI XT g := hI
            have hP : va_P G.1 vwCl (zw G (XS b) 105 a g L) H := hP
            have hD : va_D A (zw G (XS b) 105 a g L) := hD
            exact J672 g L H locs ls hI h0c hP hD hS (lv_sub hl [0, 1, 2, 3, 4, 5, 6] rfl)
  have hc_ : ((-20) : Int32).toInt = (-20) := by decide
  exact lp646 43 (-20) g L H locs ls (by decide) hI h0c hP hD hS (lv_sub hl [4, 5, 6, 3, 2, 1, 0] rfl) (by omega)
set_option maxHeartbeats 4000000 in
set_option maxRecDepth 100000 in
theorem zX10_harmDone_9 (l : Launch) (G : kG) (sz : Nat) (b : Nat) (a : Nat → Nat) (g0 : Nat → Nat → Int32) (L0 : Nat → Nat → Int64) (hI : zI XT g0) (p1 : Int32) (p2 : Int32) (hp1 : 0 ≤ p1.toInt ∧ p1.toInt ≤ 11) (hp2 : 0 ≤ p2.toInt ∧ p2.toInt ≤ 11) : kM l yX10_harmDone cX10_harmDone 5 (some .int) { frames := 11, cells := 0, slots := 0, locals := 225 } G [.ref (a 9), .int p1, .int p2] (zw G (XS b) 105 a g0 L0) sz (kQi G (S := zS) (fun r u => zI XT u.1 ∧ u.1 0 = g0 0) (fun u => zw G (XS b) 105 a u.1 u.2)) := by
  refine kM.of (by decide) (Nat.le_of_ble_eq_true rfl) ?_
  intro p e s m below meth c A ls H C hr hlk hnm hP hD hS hl
  have C : kC G p s m c cX10_harmDone 5 RX10 A := C
  have hx := C.1
  have hb := C.2.1
  have hl : lv_has ls 5 [(0, .ref (a 9)), (1, .int p1), (2, .int p2)] := hl
  have h0c : g0 0 = g0 0 := rfl
  obtain ⟨locs, hlocs⟩ : ∃ q : List Loc, q = [] := ⟨_, rfl⟩
  rw [← hlocs] at hS
  rw [← hlocs]
  refine lv_aload_n hx hb dX10_harmDone_0 rfl (lv_at hl 0 rfl) ?_
  refine x_getr (Or.inl fl_X10_22) C hP (by decide) xs_9 rfl dX10_harmDone_1 ?_
  refine lv_iconst (v := 0) hx hb dX10_harmDone_4 (by decide) ?_
  refine x_callNv (rest := []) li_X10_43 C (zX1_runFrom_8 l G H.size b a g0 L0 hI 0 (by decide)) (kR rfl) hP hD hS 8 1 rfl (zat (by decide) xs_8) rfl hl.1 rfl (Nat.le_of_ble_eq_true rfl) dX10_harmDone_5 (fun u3 H locs hw1 hP hD hS => ?_)
  obtain ⟨g, L⟩ := u3
  obtain ⟨hI, h0n⟩ := hw1
  have h0c : g 0 = g0 0 := h0n.trans h0c
  have hI : zI XT g := hI
  have hP : va_P G.1 vwCl (zw G (XS b) 105 a g L) H := hP
  have hD : va_D A (zw G (XS b) 105 a g L) := hD
  refine lv_aload_n hx hb dX10_harmDone_8 rfl (lv_at hl 0 rfl) ?_
  refine x_getr (Or.inl fl_X10_22) C hP (by decide) xs_9 rfl dX10_harmDone_9 ?_
  refine lv_iload_n hx hb dX10_harmDone_12 rfl (lv_at hl 2 rfl) ?_
  refine x_callNi (rest := []) li_X10_156 C (zX1_late_8 l G H.size b a g L hI p2 (by omega)) (kR rfl) hP hD hS 8 1 rfl (zat (by decide) xs_8) rfl hl.1 rfl (Nat.le_of_ble_eq_true rfl) dX10_harmDone_13 (fun x7 u8 H locs hw6 hP hD hS => ?_)
  obtain ⟨g, L⟩ := u8
  obtain ⟨hI, h0n⟩ := hw6
  have h0c : g 0 = g0 0 := h0n.trans h0c
  have hI : zI XT g := hI
  have hP : va_P G.1 vwCl (zw G (XS b) 105 a g L) H := hP
  have hD : va_D A (zw G (XS b) 105 a g L) := hD
  refine lv_istore_n (lv' := [(3, .int x7), (0, .ref (a 9)), (1, .int p1), (2, .int p2)]) hx hb dX10_harmDone_16 rfl hl (by decide) rfl (fun ls hl => ?_)
  refine lv_aload_n hx hb dX10_harmDone_17 rfl (lv_at hl 1 rfl) ?_
  refine x_getr (Or.inl fl_X10_32) C hP (by decide) xs_9 rfl dX10_harmDone_18 ?_
  refine x_getr (Or.inr fl_X10_56) C hP (by decide) xs_6 rfl dX10_harmDone_21 ?_
  refine lv_iload_n hx hb dX10_harmDone_24 rfl (lv_at hl 2 rfl) ?_
  refine x_ald C hP (by decide) xs_25 (by omega) (by omega) dX10_harmDone_25 (fun x11 e12 => ?_)
  refine lv_istore (lv' := [(4, .int x11), (3, .int x7), (0, .ref (a 9)), (1, .int p1), (2, .int p2)]) hx hb dX10_harmDone_26 hl (by decide) rfl (fun ls hl => ?_)
  refine lv_aload_n hx hb dX10_harmDone_28 rfl (lv_at hl 2 rfl) ?_
  refine x_getr (Or.inl fl_X10_32) C hP (by decide) xs_9 rfl dX10_harmDone_29 ?_
  refine x_getr (Or.inr fl_X10_56) C hP (by decide) xs_6 rfl dX10_harmDone_32 ?_
  refine lv_iload_n hx hb dX10_harmDone_35 rfl (lv_at hl 3 rfl) ?_
  refine lv_iconst (v := 0) hx hb dX10_harmDone_36 (by decide) ?_
  refine x_ast (hI.updN rfl) C hP hD hS (by decide) xs_25 (by omega) (by omega) dX10_harmDone_37 (fun g H locs eg hI hP hD hS => ?_)
  have h0c : g 0 = g0 0 := by rw [eg]; exact h0c
  refine lv_aload_n hx hb dX10_harmDone_38 rfl (lv_at hl 2 rfl) ?_
  refine x_getr (Or.inl fl_X10_22) C hP (by decide) xs_9 rfl dX10_harmDone_39 ?_
  refine lv_iload_n hx hb dX10_harmDone_42 rfl (lv_at hl 3 rfl) ?_
  refine x_callNv (rest := []) li_X10_43 C (zX1_runFrom_8 l G H.size b a g L hI p1 (by omega)) (kR rfl) hP hD hS 8 1 rfl (zat (by decide) xs_8) rfl hl.1 rfl (Nat.le_of_ble_eq_true rfl) dX10_harmDone_43 (fun u15 H locs hw13 hP hD hS => ?_)
  obtain ⟨g, L⟩ := u15
  obtain ⟨hI, h0n⟩ := hw13
  have h0c : g 0 = g0 0 := h0n.trans h0c
  have hI : zI XT g := hI
  have hP : va_P G.1 vwCl (zw G (XS b) 105 a g L) H := hP
  have hD : va_D A (zw G (XS b) 105 a g L) := hD
  refine lv_aload_n hx hb dX10_harmDone_46 rfl (lv_at hl 2 rfl) ?_
  refine x_getr (Or.inl fl_X10_32) C hP (by decide) xs_9 rfl dX10_harmDone_47 ?_
  refine x_getr (Or.inr fl_X10_56) C hP (by decide) xs_6 rfl dX10_harmDone_50 ?_
  refine lv_iload_n hx hb dX10_harmDone_53 rfl (lv_at hl 3 rfl) ?_
  refine lv_iload hx hb dX10_harmDone_54 (lv_at hl 0 rfl) ?_
  refine x_ast (hI.updN rfl) C hP hD hS (by decide) xs_25 (by omega) (by omega) dX10_harmDone_56 (fun g H locs eg hI hP hD hS => ?_)
  have h0c : g 0 = g0 0 := by rw [eg]; exact h0c
  refine lv_iload_n hx hb dX10_harmDone_57 rfl (lv_at hl 1 rfl) ?_
  refine lv_aload_n hx hb dX10_harmDone_58 rfl (lv_at hl 2 rfl) ?_
  refine x_getr (Or.inl fl_X10_22) C hP (by decide) xs_9 rfl dX10_harmDone_59 ?_
  refine lv_iload_n hx hb dX10_harmDone_62 rfl (lv_at hl 4 rfl) ?_
  refine x_callNi (rest := [.int x7]) li_X10_156 C (zX1_late_8 l G H.size b a g L hI p2 (by omega)) (kR rfl) hP hD hS 8 1 rfl (zat (by decide) xs_8) rfl hl.1 rfl (Nat.le_of_ble_eq_true rfl) dX10_harmDone_63 (fun x19 u20 H locs hw18 hP hD hS => ?_)
  obtain ⟨g, L⟩ := u20
  obtain ⟨hI, h0n⟩ := hw18
  have h0c : g 0 = g0 0 := h0n.trans h0c
  have hI : zI XT g := hI
  have hP : va_P G.1 vwCl (zw G (XS b) 105 a g L) H := hP
  have hD : va_D A (zw G (XS b) 105 a g L) := hD
  refine lv_isub hx hb dX10_harmDone_66 ?_
  refine x_any (fun x23 => ?_)
  exact x_iret C hr hlk hP hD hS (g, L) rfl ⟨hI, h0c⟩ (Nat.le_of_ble_eq_true rfl) (Nat.le_of_ble_eq_true rfl) dX10_harmDone_67
set_option maxHeartbeats 4000000 in
set_option maxRecDepth 100000 in
theorem zX10_addGapFrom_9 (l : Launch) (G : kG) (sz : Nat) (b : Nat) (a : Nat → Nat) (g0 : Nat → Nat → Int32) (L0 : Nat → Nat → Int64) (hI : zI XT g0) (p1 : Int32) (p2 : Int32) : kM l yX10_addGapFrom cX10_addGapFrom 4 none { frames := 7, cells := 0, slots := 0, locals := 130 } G [.ref (a 9), .int p1, .int p2] (zw G (XS b) 105 a g0 L0) sz (kQv G (S := zS) (fun u => zI XT u.1 ∧ u.1 0 = g0 0) (fun u => zw G (XS b) 105 a u.1 u.2)) := by
  refine kM.of (by decide) (Nat.le_of_ble_eq_true rfl) ?_
  intro p e s m below meth c A ls H C hr hlk hnm hP hD hS hl
  have C : kC G p s m c cX10_addGapFrom 4 RX10 A := C
  have hx := C.1
  have hb := C.2.1
  have hl : lv_has ls 4 [(0, .ref (a 9)), (1, .int p1), (2, .int p2)] := hl
  have h0c : g0 0 = g0 0 := rfl
  obtain ⟨locs, hlocs⟩ : ∃ q : List Loc, q = [] := ⟨_, rfl⟩
  rw [← hlocs] at hS
  rw [← hlocs]
  refine lv_iconst (v := 0) hx hb dX10_addGapFrom_0 (by decide) ?_
  refine lv_istore_n (lv' := [(3, .int 0), (0, .ref (a 9)), (1, .int p1), (2, .int p2)]) hx hb dX10_addGapFrom_1 rfl hl (by decide) rfl (fun ls hl => ?_)
  have lp237 : ∀ fu : Nat, ∀ (x235 : Int32) (g : Nat → Nat → Int32) (L : Nat → Nat → Int64) (H : Heap) (locs : List Loc) (ls : Array Slot), (0 ≤ x235.toInt ∧ x235.toInt ≤ 12) → zI XT g → g 0 = g0 0 → va_P G.1 vwCl (zw G (XS b) 105 a g L) H → va_D A (zw G (XS b) 105 a g L) → va_S A s.heap H locs → lv_has ls 4 [(0, .ref (a 9)), (1, .int p1), (2, .int p2), (3, .int x235)] → 12 - x235.toInt < (fu : Int) → W p l e { frames := 7, cells := 0, slots := 0, locals := 130 } s m [.ref (a 9), .int p1, .int p2].toArray below meth c H locs 0 0 (MQ below ((kQv G (S := zS) (fun u => zI XT u.1 ∧ u.1 0 = g0 0) (fun u => zw G (XS b) 105 a u.1 u.2)) A) [.ref (a 9), .int p1, .int p2].toArray s 0 0 A) (F0 m 2 ls []) := by
    intro fu
    induction fu with
    | zero => intro x235 g L H locs ls b236 hI h0c hP hD hS hl hm; exact absurd hm (by omega)
    | succ fu ih =>
      intro x235 g L H locs ls b236 hI h0c hP hD hS hl hm
      have ih238 := ih
      refine lv_iload_n hx hb dX10_addGapFrom_2 rfl (lv_at hl 3 rfl) ?_
      refine lv_aload_n hx hb dX10_addGapFrom_3 rfl (lv_at hl 0 rfl) ?_
      refine x_callVi (rest := [.int x235]) li_X10_64 C (zX10_lessonCount_9 l G H.size b a g L hI) (kR rfl) hP hD hS 9 10 rfl (zat (by decide) xs_9) rfl hl.1 rfl (Nat.le_of_ble_eq_true rfl) dX10_addGapFrom_4 (fun x240 u241 H locs hw239 hP hD hS => ?_)
      obtain ⟨g, L⟩ := u241
      obtain ⟨hI, h0n, b242⟩ := hw239
      have h0c : g 0 = g0 0 := h0n.trans h0c
      have hI : zI XT g := hI
      have hP : va_P G.1 vwCl (zw G (XS b) 105 a g L) H := hP
      have hD : va_D A (zw G (XS b) 105 a g L) := hD
      refine lv_icmp_ge (x := x235) (y := x240) (tgt := 48) hx hb dX10_addGapFrom_7 (by decide) (fun c244 => ?_) (fun c244 => ?_)
      ·
        have c244 := icc_le (m := x240.toInt) (n := x235.toInt) rfl rfl c244
        exact x_vret C hr hlk hP hD hS (g, L) rfl ⟨hI, h0c⟩ (Nat.le_of_ble_eq_true rfl) (Nat.le_of_ble_eq_true rfl) dX10_addGapFrom_48
      ·
        have c244 := icc_nle (m := x240.toInt) (n := x235.toInt) rfl rfl c244
        refine lv_aload_n hx hb dX10_addGapFrom_10 rfl (lv_at hl 0 rfl) ?_
        refine x_getr (Or.inl fl_X10_22) C hP (by decide) xs_9 rfl dX10_addGapFrom_11 ?_
        refine x_getr (Or.inr fl_X10_33) C hP (by decide) xs_8 rfl dX10_addGapFrom_14 ?_
        refine x_getr (Or.inr fl_X10_162) C hP (by decide) xs_1 rfl dX10_addGapFrom_17 ?_
        refine lv_iload_n hx hb dX10_addGapFrom_20 rfl (lv_at hl 3 rfl) ?_
        refine x_aaldQ (t := 57) C hP (by decide) xs_17 (by omega) (by omega) dX10_addGapFrom_21 (fun q245 q245l q245h => ?_)
        refine x_geti (Or.inr fl_X10_166) C hP (by omega) (xs_les (by omega) (by omega)) rfl dX10_addGapFrom_22 (fun x246 e247 => ?_)
        refine lv_iload_n hx hb dX10_addGapFrom_25 rfl (lv_at hl 1 rfl) ?_
        have J254 : ∀ (g : Nat → Nat → Int32) (L : Nat → Nat → Int64) (H : Heap) (locs : List Loc) (ls : Array Slot), zI XT g → g 0 = g0 0 → va_P G.1 vwCl (zw G (XS b) 105 a g L) H → va_D A (zw G (XS b) 105 a g L) → va_S A s.heap H locs → lv_has ls 4 [(0, .ref (a 9)), (1, .int p1), (2, .int p2), (3, .int x235)] → W p l e { frames := 7, cells := 0, slots := 0, locals := 130 } s m [.ref (a 9), .int p1, .int p2].toArray below meth c H locs 0 0 (MQ below ((kQv G (S := zS) (fun u => zI XT u.1 ∧ u.1 0 = g0 0) (fun u => zw G (XS b) 105 a u.1 u.2)) A) [.ref (a 9), .int p1, .int p2].toArray s 0 0 A) (F0 m 42 ls []) := by
          intro g L H locs ls hI h0c hP hD hS hl
          obtain ⟨x255, e256q, e256⟩ : ∃ z : Int32, x235 + Int32.ofInt (1) = z ∧ z.toInt = x235.toInt + (1) := ⟨_, rfl, ic_addc rfl (by decide) (by omega) (by omega)⟩
          refine lv_iinc (v := x255) (lv' := [(3, .int x255), (0, .ref (a 9)), (1, .int p1), (2, .int p2)]) hx hb dX10_addGapFrom_42 hl (k := 3) rfl e256q (by decide) rfl (fun ls hl => ?_)
          refine lv_goto (tgt := 2) hx hb dX10_addGapFrom_45 (by decide) ?_
          exact ih238 x255 g L H locs ls (by omega) hI h0c hP hD hS (lv_sub hl [1, 2, 3, 0] rfl) (by omega)
        refine lv_icmp_lt (x := x246) (y := p1) (tgt := 42) hx hb dX10_addGapFrom_26 (by decide) (fun c257 => ?_) (fun c257 => ?_)
        ·
          have c257 := icc_lt (m := x246.toInt) (n := p1.toInt) rfl rfl c257
          exact J254 g L H locs ls hI h0c hP hD hS (lv_sub hl [0, 1, 2, 3] rfl)
        ·
          have c257 := icc_nlt (m := x246.toInt) (n := p1.toInt) rfl rfl c257
          refine lv_aload_n hx hb dX10_addGapFrom_29 rfl (lv_at hl 0 rfl) ?_
          refine x_getr (Or.inl fl_X10_32) C hP (by decide) xs_9 rfl dX10_addGapFrom_30 ?_
          refine x_getr (Or.inr fl_X10_177) C hP (by decide) xs_6 rfl dX10_addGapFrom_33 ?_
          refine lv_iload_n hx hb dX10_addGapFrom_36 rfl (lv_at hl 3 rfl) ?_
          refine lv_dup2_11 hx hb dX10_addGapFrom_37 rfl rfl ?_
          refine x_ald C hP (by decide) xs_26 (by omega) (by omega) dX10_addGapFrom_38 (fun x258 e259 => ?_)
          refine lv_iload_n hx hb dX10_addGapFrom_39 rfl (lv_at hl 2 rfl) ?_
          refine lv_iadd hx hb dX10_addGapFrom_40 ?_
          refine x_any (fun x260 => ?_)
          refine x_ast (hI.updN rfl) C hP hD hS (by decide) xs_26 (by omega) (by omega) dX10_addGapFrom_41 (fun g H locs eg hI hP hD hS => ?_)
          have h0c : g 0 = g0 0 := by rw [eg]; exact h0c
          exact J254 g L H locs ls hI h0c hP hD hS (lv_sub hl [0, 1, 2, 3] rfl)
  have hc_ : (0 : Int32).toInt = 0 := by decide
  exact lp237 14 0 g0 L0 H locs ls (by decide) hI h0c hP hD hS (lv_sub hl [1, 2, 3, 0] rfl) (by omega)
set_option maxHeartbeats 4000000 in
set_option maxRecDepth 100000 in
theorem zX10_leastByPause_9 (l : Launch) (G : kG) (sz : Nat) (b : Nat) (a : Nat → Nat) (g0 : Nat → Nat → Int32) (L0 : Nat → Nat → Int64) (hI : zI XT g0) (p1 : Int32) (p2 : Int32) : kM l yX10_leastByPause cX10_leastByPause 5 (some .int) { frames := 11, cells := 0, slots := 0, locals := 225 } G [.ref (a 9), .int p1, .int p2] (zw G (XS b) 105 a g0 L0) sz (kQi G (S := zS) (fun r u => zI XT u.1 ∧ u.1 0 = g0 0) (fun u => zw G (XS b) 105 a u.1 u.2)) := by
  refine kM.of (by decide) (Nat.le_of_ble_eq_true rfl) ?_
  intro p e s m below meth c A ls H C hr hlk hnm hP hD hS hl
  have C : kC G p s m c cX10_leastByPause 5 RX10 A := C
  have hx := C.1
  have hb := C.2.1
  have hl : lv_has ls 5 [(0, .ref (a 9)), (1, .int p1), (2, .int p2)] := hl
  have h0c : g0 0 = g0 0 := rfl
  obtain ⟨locs, hlocs⟩ : ∃ q : List Loc, q = [] := ⟨_, rfl⟩
  rw [← hlocs] at hS
  rw [← hlocs]
  refine lv_aload_n hx hb dX10_leastByPause_0 rfl (lv_at hl 0 rfl) ?_
  refine x_getr (Or.inl fl_X10_12) C hP (by decide) xs_9 rfl dX10_leastByPause_1 ?_
  refine x_callNv (rest := []) li_X10_81 C (zX4_clear_13 l G H.size b a g0 L0 hI) (kR rfl) hP hD hS 13 4 rfl (zat (by decide) xs_13) rfl hl.1 rfl (Nat.le_of_ble_eq_true rfl) dX10_leastByPause_4 (fun u3 H locs hw1 hP hD hS => ?_)
  obtain ⟨g, L⟩ := u3
  obtain ⟨hI, h0n⟩ := hw1
  have h0c : g 0 = g0 0 := h0n.trans h0c
  have hI : zI XT g := hI
  have hP : va_P G.1 vwCl (zw G (XS b) 105 a g L) H := hP
  have hD : va_D A (zw G (XS b) 105 a g L) := hD
  refine lv_iconst (v := 0) hx hb dX10_leastByPause_7 (by decide) ?_
  refine lv_istore_n (lv' := [(3, .int 0), (0, .ref (a 9)), (1, .int p1), (2, .int p2)]) hx hb dX10_leastByPause_8 rfl hl (by decide) rfl (fun ls hl => ?_)
  have lp394 : ∀ fu : Nat, ∀ (x392 : Int32) (g : Nat → Nat → Int32) (L : Nat → Nat → Int64) (H : Heap) (locs : List Loc) (ls : Array Slot), (0 ≤ x392.toInt ∧ x392.toInt ≤ 12) → zI XT g → g 0 = g0 0 → va_P G.1 vwCl (zw G (XS b) 105 a g L) H → va_D A (zw G (XS b) 105 a g L) → va_S A s.heap H locs → lv_has ls 5 [(0, .ref (a 9)), (1, .int p1), (2, .int p2), (3, .int x392)] → 12 - x392.toInt < (fu : Int) → W p l e { frames := 11, cells := 0, slots := 0, locals := 225 } s m [.ref (a 9), .int p1, .int p2].toArray below meth c H locs 0 0 (MQ below ((kQi G (S := zS) (fun r u => zI XT u.1 ∧ u.1 0 = g0 0) (fun u => zw G (XS b) 105 a u.1 u.2)) A) [.ref (a 9), .int p1, .int p2].toArray s 0 0 A) (F0 m 9 ls []) := by
    intro fu
    induction fu with
    | zero => intro x392 g L H locs ls b393 hI h0c hP hD hS hl hm; exact absurd hm (by omega)
    | succ fu ih =>
      intro x392 g L H locs ls b393 hI h0c hP hD hS hl hm
      have ih395 := ih
      refine lv_iload_n hx hb dX10_leastByPause_9 rfl (lv_at hl 3 rfl) ?_
      refine lv_aload_n hx hb dX10_leastByPause_10 rfl (lv_at hl 0 rfl) ?_
      refine x_callVi (rest := [.int x392]) li_X10_64 C (zX10_lessonCount_9 l G H.size b a g L hI) (kR rfl) hP hD hS 9 10 rfl (zat (by decide) xs_9) rfl hl.1 rfl (Nat.le_of_ble_eq_true rfl) dX10_leastByPause_11 (fun x397 u398 H locs hw396 hP hD hS => ?_)
      obtain ⟨g, L⟩ := u398
      obtain ⟨hI, h0n, b399⟩ := hw396
      have h0c : g 0 = g0 0 := h0n.trans h0c
      have hI : zI XT g := hI
      have hP : va_P G.1 vwCl (zw G (XS b) 105 a g L) H := hP
      have hD : va_D A (zw G (XS b) 105 a g L) := hD
      refine lv_icmp_ge (x := x392) (y := x397) (tgt := 72) hx hb dX10_leastByPause_14 (by decide) (fun c401 => ?_) (fun c401 => ?_)
      ·
        have c401 := icc_le (m := x397.toInt) (n := x392.toInt) rfl rfl c401
        refine lv_aload_n hx hb dX10_leastByPause_72 rfl (lv_at hl 0 rfl) ?_
        refine x_getr (Or.inl fl_X10_12) C hP (by decide) xs_9 rfl dX10_leastByPause_73 ?_
        refine lv_iload_n hx hb dX10_leastByPause_76 rfl (lv_at hl 2 rfl) ?_
        refine x_callNi (rest := []) li_X10_97 C (zX4_told_13 l G H.size b a g L hI p2) (kR rfl) hP hD hS 13 4 rfl (zat (by decide) xs_13) rfl hl.1 rfl (Nat.le_of_ble_eq_true rfl) dX10_leastByPause_77 (fun x403 u404 H locs hw402 hP hD hS => ?_)
        obtain ⟨g, L⟩ := u404
        obtain ⟨hI, h0n⟩ := hw402
        have h0c : g 0 = g0 0 := h0n.trans h0c
        have hI : zI XT g := hI
        have hP : va_P G.1 vwCl (zw G (XS b) 105 a g L) H := hP
        have hD : va_D A (zw G (XS b) 105 a g L) := hD
        exact x_iret C hr hlk hP hD hS (g, L) rfl ⟨hI, h0c⟩ (Nat.le_of_ble_eq_true rfl) (Nat.le_of_ble_eq_true rfl) dX10_leastByPause_80
      ·
        have c401 := icc_nle (m := x397.toInt) (n := x392.toInt) rfl rfl c401
        refine lv_aload_n hx hb dX10_leastByPause_17 rfl (lv_at hl 0 rfl) ?_
        refine x_getr (Or.inl fl_X10_22) C hP (by decide) xs_9 rfl dX10_leastByPause_18 ?_
        refine x_getr (Or.inr fl_X10_33) C hP (by decide) xs_8 rfl dX10_leastByPause_21 ?_
        refine x_getr (Or.inr fl_X10_162) C hP (by decide) xs_1 rfl dX10_leastByPause_24 ?_
        refine lv_iload_n hx hb dX10_leastByPause_27 rfl (lv_at hl 3 rfl) ?_
        refine x_aaldQ (t := 57) C hP (by decide) xs_17 (by omega) (by omega) dX10_leastByPause_28 (fun q407 q407l q407h => ?_)
        refine x_geti (Or.inr fl_X10_166) C hP (by omega) (xs_les (by omega) (by omega)) rfl dX10_leastByPause_29 (fun x408 e409 => ?_)
        refine lv_istore (lv' := [(4, .int x408), (0, .ref (a 9)), (1, .int p1), (2, .int p2), (3, .int x392)]) hx hb dX10_leastByPause_32 hl (by decide) rfl (fun ls hl => ?_)
        refine lv_aload_n hx hb dX10_leastByPause_34 rfl (lv_at hl 1 rfl) ?_
        refine lv_iload hx hb dX10_leastByPause_35 (lv_at hl 0 rfl) ?_
        refine lv_iload_n hx hb dX10_leastByPause_37 rfl (lv_at hl 2 rfl) ?_
        refine x_callVv (rest := []) li_X10_174 C (zX10_addGapFrom_9 l G H.size b a g L hI x408 p1) (kR rfl) hP hD hS 9 10 rfl (zat (by decide) xs_9) rfl hl.1 rfl (Nat.le_of_ble_eq_true rfl) dX10_leastByPause_38 (fun u412 H locs hw410 hP hD hS => ?_)
        obtain ⟨g, L⟩ := u412
        obtain ⟨hI, h0n⟩ := hw410
        have h0c : g 0 = g0 0 := h0n.trans h0c
        have hI : zI XT g := hI
        have hP : va_P G.1 vwCl (zw G (XS b) 105 a g L) H := hP
        have hD : va_D A (zw G (XS b) 105 a g L) := hD
        refine lv_aload_n hx hb dX10_leastByPause_41 rfl (lv_at hl 1 rfl) ?_
        refine x_getr (Or.inl fl_X10_12) C hP (by decide) xs_9 rfl dX10_leastByPause_42 ?_
        refine lv_iload hx hb dX10_leastByPause_45 (lv_at hl 0 rfl) ?_
        refine lv_aload_n hx hb dX10_leastByPause_47 rfl (lv_at hl 1 rfl) ?_
        refine x_getr (Or.inl fl_X10_22) C hP (by decide) xs_9 rfl dX10_leastByPause_48 ?_
        refine lv_iconst (v := 0) hx hb dX10_leastByPause_51 (by decide) ?_
        refine x_callNi (rest := [.int x408, .ref (a 13)]) li_X10_77 C (zX1_lostFrom_8 l G H.size b a g L hI 0 (by decide)) (kR rfl) hP hD hS 8 1 rfl (zat (by decide) xs_8) rfl hl.1 rfl (Nat.le_of_ble_eq_true rfl) dX10_leastByPause_52 (fun x416 u417 H locs hw415 hP hD hS => ?_)
        obtain ⟨g, L⟩ := u417
        obtain ⟨hI, h0n⟩ := hw415
        have h0c : g 0 = g0 0 := h0n.trans h0c
        have hI : zI XT g := hI
        have hP : va_P G.1 vwCl (zw G (XS b) 105 a g L) H := hP
        have hD : va_D A (zw G (XS b) 105 a g L) := hD
        refine x_callNv (rest := []) li_X10_87 C (zX4_offer_13 l G H.size b a g L hI x408 x416) (kR rfl) hP hD hS 13 4 rfl (zat (by decide) xs_13) rfl hl.1 rfl (Nat.le_of_ble_eq_true rfl) dX10_leastByPause_55 (fun u422 H locs hw420 hP hD hS => ?_)
        obtain ⟨g, L⟩ := u422
        obtain ⟨hI, h0n⟩ := hw420
        have h0c : g 0 = g0 0 := h0n.trans h0c
        have hI : zI XT g := hI
        have hP : va_P G.1 vwCl (zw G (XS b) 105 a g L) H := hP
        have hD : va_D A (zw G (XS b) 105 a g L) := hD
        refine lv_aload_n hx hb dX10_leastByPause_58 rfl (lv_at hl 1 rfl) ?_
        refine lv_iload hx hb dX10_leastByPause_59 (lv_at hl 0 rfl) ?_
        refine lv_iload_n hx hb dX10_leastByPause_61 rfl (lv_at hl 2 rfl) ?_
        refine lv_ineg hx hb dX10_leastByPause_62 ?_
        refine x_any (fun x425 => ?_)
        refine x_callVv (rest := []) li_X10_174 C (zX10_addGapFrom_9 l G H.size b a g L hI x408 x425) (kR rfl) hP hD hS 9 10 rfl (zat (by decide) xs_9) rfl hl.1 rfl (Nat.le_of_ble_eq_true rfl) dX10_leastByPause_63 (fun u428 H locs hw426 hP hD hS => ?_)
        obtain ⟨g, L⟩ := u428
        obtain ⟨hI, h0n⟩ := hw426
        have h0c : g 0 = g0 0 := h0n.trans h0c
        have hI : zI XT g := hI
        have hP : va_P G.1 vwCl (zw G (XS b) 105 a g L) H := hP
        have hD : va_D A (zw G (XS b) 105 a g L) := hD
        obtain ⟨x431, e432q, e432⟩ : ∃ z : Int32, x392 + Int32.ofInt (1) = z ∧ z.toInt = x392.toInt + (1) := ⟨_, rfl, ic_addc rfl (by decide) (by omega) (by omega)⟩
        refine lv_iinc (v := x431) (lv' := [(3, .int x431), (4, .int x408), (0, .ref (a 9)), (1, .int p1), (2, .int p2)]) hx hb dX10_leastByPause_66 hl (k := 4) rfl e432q (by decide) rfl (fun ls hl => ?_)
        refine lv_goto (tgt := 9) hx hb dX10_leastByPause_69 (by decide) ?_
        exact ih395 x431 g L H locs ls (by omega) hI h0c hP hD hS (lv_sub hl [2, 3, 4, 0] rfl) (by omega)
  have hc_ : (0 : Int32).toInt = 0 := by decide
  exact lp394 14 0 g L H locs ls (by decide) hI h0c hP hD hS (lv_sub hl [1, 2, 3, 0] rfl) (by omega)
