theorem dX5_init_0 : decode cX5_init 0 = .ok (.aload_n 0, 1) := by decide +kernel
theorem tw_72 : (Jvm.Cond.methodLink "MarshBells$Lesson" (3 : Nat) ({ cls := "java/lang/Object", name := "<init>", desc := "()V" } : Jvm.MethodName)) ∈ lw_tbl := tk_1 (List.mem_of_getElem? (i := 72) rfl)
theorem tw_32 : (Jvm.Cond.instanceMethod ({ cls := "java/lang/Object", name := "<init>", desc := "()V" } : Jvm.MethodName)) ∈ lw_tbl := tk_1 (List.mem_of_getElem? (i := 32) rfl)
theorem tw_33 : (Jvm.Cond.code ({ cls := "java/lang/Object", name := "<init>", desc := "()V" } : Jvm.MethodName) object_method_1_code (1 : Nat) (Option.none : Option Jvm.ClassFile.FieldType)) ∈ lw_tbl := tk_1 (List.mem_of_getElem? (i := 33) rfl)
theorem dX5_init_1 : decode cX5_init 1 = .ok (.invokespecial 3, 3) := by decide +kernel
theorem dX5_init_4 : decode cX5_init 4 = .ok (.aload_n 0, 1) := by decide +kernel
theorem dX5_init_5 : decode cX5_init 5 = .ok (.bipush 6, 2) := by decide +kernel
theorem tw_67 : (Jvm.Cond.arrayClass Jvm.ClassFile.FieldType.int) ∈ lw_tbl := tk_1 (List.mem_of_getElem? (i := 67) rfl)
theorem dX5_init_7 : decode cX5_init 7 = .ok (.newarray .int, 2) := by decide +kernel
theorem tw_118 : (Jvm.Cond.laysFinal "MarshBells$Lesson" "MarshBells$Lesson" "waitedFor" "[I") ∈ lw_tbl := tk_1 (List.mem_of_getElem? (i := 118) rfl)
theorem tw_120 : (Jvm.Cond.lays "MarshBells$Lesson" "MarshBells$Lesson" "waited" "I") ∈ lw_tbl := tk_1 (List.mem_of_getElem? (i := 120) rfl)
theorem tw_122 : (Jvm.Cond.lays "MarshBells$Lesson" "MarshBells$Lesson" "waitedBits" "I") ∈ lw_tbl := tk_1 (List.mem_of_getElem? (i := 122) rfl)
theorem tw_124 : (Jvm.Cond.lays "MarshBells$Lesson" "MarshBells$Lesson" "from" "I") ∈ lw_tbl := tk_1 (List.mem_of_getElem? (i := 124) rfl)
theorem tw_126 : (Jvm.Cond.lays "MarshBells$Lesson" "MarshBells$Lesson" "to" "I") ∈ lw_tbl := tk_1 (List.mem_of_getElem? (i := 126) rfl)
theorem tw_128 : (Jvm.Cond.lays "MarshBells$Lesson" "MarshBells$Lesson" "least" "I") ∈ lw_tbl := tk_1 (List.mem_of_getElem? (i := 128) rfl)
theorem tw_130 : (Jvm.Cond.lays "MarshBells$Lesson" "MarshBells$Lesson" "over" "I") ∈ lw_tbl := tk_1 (List.mem_of_getElem? (i := 130) rfl)
theorem tw_132 : (Jvm.Cond.lays "MarshBells$Lesson" "MarshBells$Lesson" "room" "I") ∈ lw_tbl := tk_1 (List.mem_of_getElem? (i := 132) rfl)
theorem tw_134 : (Jvm.Cond.lays "MarshBells$Lesson" "MarshBells$Lesson" "people" "I") ∈ lw_tbl := tk_1 (List.mem_of_getElem? (i := 134) rfl)
theorem tw_136 : (Jvm.Cond.lays "MarshBells$Lesson" "MarshBells$Lesson" "sort" "I") ∈ lw_tbl := tk_1 (List.mem_of_getElem? (i := 136) rfl)
theorem tw_138 : (Jvm.Cond.lays "MarshBells$Lesson" "MarshBells$Lesson" "some" "I") ∈ lw_tbl := tk_1 (List.mem_of_getElem? (i := 138) rfl)
theorem tw_140 : (Jvm.Cond.lays "MarshBells$Lesson" "MarshBells$Lesson" "limit" "I") ∈ lw_tbl := tk_1 (List.mem_of_getElem? (i := 140) rfl)
theorem tw_142 : (Jvm.Cond.lays "MarshBells$Lesson" "MarshBells$Lesson" "maybe" "I") ∈ lw_tbl := tk_1 (List.mem_of_getElem? (i := 142) rfl)
theorem tw_144 : (Jvm.Cond.lays "MarshBells$Lesson" "MarshBells$Lesson" "gap" "I") ∈ lw_tbl := tk_1 (List.mem_of_getElem? (i := 144) rfl)
theorem inWX5 : ∀ w ∈ u_ws RX5 TX5 14, w ∈ lw_tbl := by
  have e : ∀ k, k < 14 → u_lay RX5 TX5 k ∈ lw_tbl := fun k hk => match k, hk with | 0, _ => tw_118 | 1, _ => tw_120 | 2, _ => tw_122 | 3, _ => tw_124 | 4, _ => tw_126 | 5, _ => tw_128 | 6, _ => tw_130 | 7, _ => tw_132 | 8, _ => tw_134 | 9, _ => tw_136 | 10, _ => tw_138 | 11, _ => tw_140 | 12, _ => tw_142 | 13, _ => tw_144 | k + 14, hk => absurd hk (by omega)
  intro w h
  obtain ⟨k, hk, rfl⟩ := List.mem_map.mp h
  exact e k (List.mem_range.mp hk)
theorem tw_73 : (Jvm.Cond.fieldLink "MarshBells$Lesson" (9 : Nat) "MarshBells$Lesson" "waitedFor" "[I") ∈ lw_tbl := tk_1 (List.mem_of_getElem? (i := 73) rfl)
theorem fl_X5_9 : kFL RX5 9 5 14 0 := ⟨RX5, TX5, rfl, by decide, inWX5, tw_73⟩
theorem ft_X5_0 : kFT 5 0 (.array .int) true RX5 := ⟨RX5, TX5, 14, tyX5, rfl, tyX5_ok, nmX5, rfl, by decide +kernel, rfl⟩
theorem dX5_init_9 : decode cX5_init 9 = .ok (.putfield 9, 3) := by decide +kernel
theorem dX5_init_12 : decode cX5_init 12 = .ok (.return_, 1) := by decide +kernel
theorem dX4_init_0 : decode cX4_init 0 = .ok (.aload_n 0, 1) := by decide +kernel
theorem tw_356 : (Jvm.Cond.methodLink "MarshBells$Least" (3 : Nat) ({ cls := "java/lang/Object", name := "<init>", desc := "()V" } : Jvm.MethodName)) ∈ lw_tbl := tk_2 (List.mem_of_getElem? (i := 116) rfl)
theorem dX4_init_1 : decode cX4_init 1 = .ok (.invokespecial 3, 3) := by decide +kernel
theorem dX4_init_4 : decode cX4_init 4 = .ok (.return_, 1) := by decide +kernel
theorem dX8_init_0 : decode cX8_init 0 = .ok (.aload_n 0, 1) := by decide +kernel
theorem tw_47 : (Jvm.Cond.methodLink "MarshBells$Rules" (3 : Nat) ({ cls := "java/lang/Object", name := "<init>", desc := "()V" } : Jvm.MethodName)) ∈ lw_tbl := tk_1 (List.mem_of_getElem? (i := 47) rfl)
theorem dX8_init_1 : decode cX8_init 1 = .ok (.invokespecial 3, 3) := by decide +kernel
theorem dX8_init_4 : decode cX8_init 4 = .ok (.aload_n 0, 1) := by decide +kernel
theorem dX8_init_5 : decode cX8_init 5 = .ok (.sipush 700, 3) := by decide +kernel
theorem dX8_init_8 : decode cX8_init 8 = .ok (.newarray .int, 2) := by decide +kernel
theorem tw_56 : (Jvm.Cond.laysFinal "MarshBells$Rules" "MarshBells$Rules" "steps" "[I") ∈ lw_tbl := tk_1 (List.mem_of_getElem? (i := 56) rfl)
theorem tw_58 : (Jvm.Cond.laysFinal "MarshBells$Rules" "MarshBells$Rules" "bounds" "[I") ∈ lw_tbl := tk_1 (List.mem_of_getElem? (i := 58) rfl)
theorem tw_60 : (Jvm.Cond.laysFinal "MarshBells$Rules" "MarshBells$Rules" "stack" "[I") ∈ lw_tbl := tk_1 (List.mem_of_getElem? (i := 60) rfl)
theorem tw_62 : (Jvm.Cond.lays "MarshBells$Rules" "MarshBells$Rules" "size" "I") ∈ lw_tbl := tk_1 (List.mem_of_getElem? (i := 62) rfl)
theorem tw_64 : (Jvm.Cond.lays "MarshBells$Rules" "MarshBells$Rules" "used" "I") ∈ lw_tbl := tk_1 (List.mem_of_getElem? (i := 64) rfl)
theorem inWX8 : ∀ w ∈ u_ws RX8 TX8 5, w ∈ lw_tbl := by
  have e : ∀ k, k < 5 → u_lay RX8 TX8 k ∈ lw_tbl := fun k hk => match k, hk with | 0, _ => tw_56 | 1, _ => tw_58 | 2, _ => tw_60 | 3, _ => tw_62 | 4, _ => tw_64 | k + 5, hk => absurd hk (by omega)
  intro w h
  obtain ⟨k, hk, rfl⟩ := List.mem_map.mp h
  exact e k (List.mem_range.mp hk)
theorem tw_48 : (Jvm.Cond.fieldLink "MarshBells$Rules" (9 : Nat) "MarshBells$Rules" "steps" "[I") ∈ lw_tbl := tk_1 (List.mem_of_getElem? (i := 48) rfl)
theorem fl_X8_9 : kFL RX8 9 8 5 0 := ⟨RX8, TX8, rfl, by decide, inWX8, tw_48⟩
theorem ft_X8_0 : kFT 8 0 (.array .int) true RX8 := ⟨RX8, TX8, 5, tyX8, rfl, tyX8_ok, nmX8, rfl, by decide +kernel, rfl⟩
theorem dX8_init_10 : decode cX8_init 10 = .ok (.putfield 9, 3) := by decide +kernel
theorem dX8_init_13 : decode cX8_init 13 = .ok (.aload_n 0, 1) := by decide +kernel
theorem dX8_init_14 : decode cX8_init 14 = .ok (.iconst 5, 1) := by decide +kernel
theorem dX8_init_15 : decode cX8_init 15 = .ok (.newarray .int, 2) := by decide +kernel
theorem tw_49 : (Jvm.Cond.fieldLink "MarshBells$Rules" (15 : Nat) "MarshBells$Rules" "bounds" "[I") ∈ lw_tbl := tk_1 (List.mem_of_getElem? (i := 49) rfl)
theorem fl_X8_15 : kFL RX8 15 8 5 1 := ⟨RX8, TX8, rfl, by decide, inWX8, tw_49⟩
theorem ft_X8_1 : kFT 8 1 (.array .int) true RX8 := ⟨RX8, TX8, 5, tyX8, rfl, tyX8_ok, nmX8, rfl, by decide +kernel, rfl⟩
theorem dX8_init_17 : decode cX8_init 17 = .ok (.putfield 15, 3) := by decide +kernel
theorem dX8_init_20 : decode cX8_init 20 = .ok (.aload_n 0, 1) := by decide +kernel
theorem dX8_init_21 : decode cX8_init 21 = .ok (.bipush 64, 2) := by decide +kernel
theorem dX8_init_23 : decode cX8_init 23 = .ok (.newarray .int, 2) := by decide +kernel
theorem tw_50 : (Jvm.Cond.fieldLink "MarshBells$Rules" (18 : Nat) "MarshBells$Rules" "stack" "[I") ∈ lw_tbl := tk_1 (List.mem_of_getElem? (i := 50) rfl)
theorem fl_X8_18 : kFL RX8 18 8 5 2 := ⟨RX8, TX8, rfl, by decide, inWX8, tw_50⟩
theorem ft_X8_2 : kFT 8 2 (.array .int) true RX8 := ⟨RX8, TX8, 5, tyX8, rfl, tyX8_ok, nmX8, rfl, by decide +kernel, rfl⟩
theorem dX8_init_25 : decode cX8_init 25 = .ok (.putfield 18, 3) := by decide +kernel
theorem dX8_init_28 : decode cX8_init 28 = .ok (.return_, 1) := by decide +kernel
theorem dX3_init_0 : decode cX3_init 0 = .ok (.aload_n 0, 1) := by decide +kernel
theorem tw_235 : (Jvm.Cond.methodLink "MarshBells$Held" (3 : Nat) ({ cls := "java/lang/Object", name := "<init>", desc := "()V" } : Jvm.MethodName)) ∈ lw_tbl := tk_1 (List.mem_of_getElem? (i := 235) rfl)
theorem dX3_init_1 : decode cX3_init 1 = .ok (.invokespecial 3, 3) := by decide +kernel
theorem dX3_init_4 : decode cX3_init 4 = .ok (.aload_n 0, 1) := by decide +kernel
theorem dX3_init_5 : decode cX3_init 5 = .ok (.bipush 12, 2) := by decide +kernel
theorem dX3_init_7 : decode cX3_init 7 = .ok (.newarray .int, 2) := by decide +kernel
theorem tw_267 : (Jvm.Cond.laysFinal "MarshBells$Held" "MarshBells$Held" "overs" "[I") ∈ lw_tbl := tk_2 (List.mem_of_getElem? (i := 27) rfl)
theorem tw_269 : (Jvm.Cond.laysFinal "MarshBells$Held" "MarshBells$Held" "gaps" "[I") ∈ lw_tbl := tk_2 (List.mem_of_getElem? (i := 29) rfl)
theorem tw_271 : (Jvm.Cond.laysFinal "MarshBells$Held" "MarshBells$Held" "rooms" "[I") ∈ lw_tbl := tk_2 (List.mem_of_getElem? (i := 31) rfl)
theorem tw_273 : (Jvm.Cond.laysFinal "MarshBells$Held" "MarshBells$Held" "limits" "[I") ∈ lw_tbl := tk_2 (List.mem_of_getElem? (i := 33) rfl)
theorem tw_275 : (Jvm.Cond.laysFinal "MarshBells$Held" "MarshBells$Held" "actKinds" "[I") ∈ lw_tbl := tk_2 (List.mem_of_getElem? (i := 35) rfl)
theorem tw_277 : (Jvm.Cond.laysFinal "MarshBells$Held" "MarshBells$Held" "actLessons" "[I") ∈ lw_tbl := tk_2 (List.mem_of_getElem? (i := 37) rfl)
theorem tw_279 : (Jvm.Cond.laysFinal "MarshBells$Held" "MarshBells$Held" "actOlds" "[I") ∈ lw_tbl := tk_2 (List.mem_of_getElem? (i := 39) rfl)
theorem tw_281 : (Jvm.Cond.laysFinal "MarshBells$Held" "MarshBells$Held" "seenLessons" "[I") ∈ lw_tbl := tk_2 (List.mem_of_getElem? (i := 41) rfl)
theorem tw_283 : (Jvm.Cond.laysFinal "MarshBells$Held" "MarshBells$Held" "seenLates" "[I") ∈ lw_tbl := tk_2 (List.mem_of_getElem? (i := 43) rfl)
theorem tw_285 : (Jvm.Cond.lays "MarshBells$Held" "MarshBells$Held" "acts" "I") ∈ lw_tbl := tk_2 (List.mem_of_getElem? (i := 45) rfl)
theorem tw_287 : (Jvm.Cond.lays "MarshBells$Held" "MarshBells$Held" "seen" "I") ∈ lw_tbl := tk_2 (List.mem_of_getElem? (i := 47) rfl)
theorem tw_289 : (Jvm.Cond.lays "MarshBells$Held" "MarshBells$Held" "rule" "I") ∈ lw_tbl := tk_2 (List.mem_of_getElem? (i := 49) rfl)
theorem inWX3 : ∀ w ∈ u_ws RX3 TX3 12, w ∈ lw_tbl := by
  have e : ∀ k, k < 12 → u_lay RX3 TX3 k ∈ lw_tbl := fun k hk => match k, hk with | 0, _ => tw_267 | 1, _ => tw_269 | 2, _ => tw_271 | 3, _ => tw_273 | 4, _ => tw_275 | 5, _ => tw_277 | 6, _ => tw_279 | 7, _ => tw_281 | 8, _ => tw_283 | 9, _ => tw_285 | 10, _ => tw_287 | 11, _ => tw_289 | k + 12, hk => absurd hk (by omega)
  intro w h
  obtain ⟨k, hk, rfl⟩ := List.mem_map.mp h
  exact e k (List.mem_range.mp hk)
theorem tw_236 : (Jvm.Cond.fieldLink "MarshBells$Held" (9 : Nat) "MarshBells$Held" "overs" "[I") ∈ lw_tbl := tk_1 (List.mem_of_getElem? (i := 236) rfl)
theorem fl_X3_9 : kFL RX3 9 3 12 0 := ⟨RX3, TX3, rfl, by decide, inWX3, tw_236⟩
theorem ft_X3_0 : kFT 3 0 (.array .int) true RX3 := ⟨RX3, TX3, 12, tyX3, rfl, tyX3_ok, nmX3, rfl, by decide +kernel, rfl⟩
theorem dX3_init_9 : decode cX3_init 9 = .ok (.putfield 9, 3) := by decide +kernel
theorem dX3_init_12 : decode cX3_init 12 = .ok (.aload_n 0, 1) := by decide +kernel
theorem dX3_init_13 : decode cX3_init 13 = .ok (.bipush 12, 2) := by decide +kernel
theorem dX3_init_15 : decode cX3_init 15 = .ok (.newarray .int, 2) := by decide +kernel
theorem tw_240 : (Jvm.Cond.fieldLink "MarshBells$Held" (15 : Nat) "MarshBells$Held" "gaps" "[I") ∈ lw_tbl := tk_2 (List.mem_of_getElem? (i := 0) rfl)
theorem fl_X3_15 : kFL RX3 15 3 12 1 := ⟨RX3, TX3, rfl, by decide, inWX3, tw_240⟩
theorem ft_X3_1 : kFT 3 1 (.array .int) true RX3 := ⟨RX3, TX3, 12, tyX3, rfl, tyX3_ok, nmX3, rfl, by decide +kernel, rfl⟩
theorem dX3_init_17 : decode cX3_init 17 = .ok (.putfield 15, 3) := by decide +kernel
theorem dX3_init_20 : decode cX3_init 20 = .ok (.aload_n 0, 1) := by decide +kernel
theorem dX3_init_21 : decode cX3_init 21 = .ok (.bipush 12, 2) := by decide +kernel
theorem dX3_init_23 : decode cX3_init 23 = .ok (.newarray .int, 2) := by decide +kernel
theorem tw_245 : (Jvm.Cond.fieldLink "MarshBells$Held" (18 : Nat) "MarshBells$Held" "rooms" "[I") ∈ lw_tbl := tk_2 (List.mem_of_getElem? (i := 5) rfl)
theorem fl_X3_18 : kFL RX3 18 3 12 2 := ⟨RX3, TX3, rfl, by decide, inWX3, tw_245⟩
theorem ft_X3_2 : kFT 3 2 (.array .int) true RX3 := ⟨RX3, TX3, 12, tyX3, rfl, tyX3_ok, nmX3, rfl, by decide +kernel, rfl⟩
theorem dX3_init_25 : decode cX3_init 25 = .ok (.putfield 18, 3) := by decide +kernel
theorem dX3_init_28 : decode cX3_init 28 = .ok (.aload_n 0, 1) := by decide +kernel
theorem dX3_init_29 : decode cX3_init 29 = .ok (.bipush 12, 2) := by decide +kernel
theorem dX3_init_31 : decode cX3_init 31 = .ok (.newarray .int, 2) := by decide +kernel
theorem tw_248 : (Jvm.Cond.fieldLink "MarshBells$Held" (21 : Nat) "MarshBells$Held" "limits" "[I") ∈ lw_tbl := tk_2 (List.mem_of_getElem? (i := 8) rfl)
theorem fl_X3_21 : kFL RX3 21 3 12 3 := ⟨RX3, TX3, rfl, by decide, inWX3, tw_248⟩
theorem ft_X3_3 : kFT 3 3 (.array .int) true RX3 := ⟨RX3, TX3, 12, tyX3, rfl, tyX3_ok, nmX3, rfl, by decide +kernel, rfl⟩
theorem dX3_init_33 : decode cX3_init 33 = .ok (.putfield 21, 3) := by decide +kernel
theorem dX3_init_36 : decode cX3_init 36 = .ok (.aload_n 0, 1) := by decide +kernel
theorem dX3_init_37 : decode cX3_init 37 = .ok (.bipush 40, 2) := by decide +kernel
theorem dX3_init_39 : decode cX3_init 39 = .ok (.newarray .int, 2) := by decide +kernel
theorem tw_251 : (Jvm.Cond.fieldLink "MarshBells$Held" (24 : Nat) "MarshBells$Held" "actKinds" "[I") ∈ lw_tbl := tk_2 (List.mem_of_getElem? (i := 11) rfl)
theorem fl_X3_24 : kFL RX3 24 3 12 4 := ⟨RX3, TX3, rfl, by decide, inWX3, tw_251⟩
theorem ft_X3_4 : kFT 3 4 (.array .int) true RX3 := ⟨RX3, TX3, 12, tyX3, rfl, tyX3_ok, nmX3, rfl, by decide +kernel, rfl⟩
theorem dX3_init_41 : decode cX3_init 41 = .ok (.putfield 24, 3) := by decide +kernel
theorem dX3_init_44 : decode cX3_init 44 = .ok (.aload_n 0, 1) := by decide +kernel
theorem dX3_init_45 : decode cX3_init 45 = .ok (.bipush 40, 2) := by decide +kernel
theorem dX3_init_47 : decode cX3_init 47 = .ok (.newarray .int, 2) := by decide +kernel
theorem tw_252 : (Jvm.Cond.fieldLink "MarshBells$Held" (27 : Nat) "MarshBells$Held" "actLessons" "[I") ∈ lw_tbl := tk_2 (List.mem_of_getElem? (i := 12) rfl)
theorem fl_X3_27 : kFL RX3 27 3 12 5 := ⟨RX3, TX3, rfl, by decide, inWX3, tw_252⟩
theorem ft_X3_5 : kFT 3 5 (.array .int) true RX3 := ⟨RX3, TX3, 12, tyX3, rfl, tyX3_ok, nmX3, rfl, by decide +kernel, rfl⟩
theorem dX3_init_49 : decode cX3_init 49 = .ok (.putfield 27, 3) := by decide +kernel
theorem dX3_init_52 : decode cX3_init 52 = .ok (.aload_n 0, 1) := by decide +kernel
theorem dX3_init_53 : decode cX3_init 53 = .ok (.bipush 40, 2) := by decide +kernel
theorem dX3_init_55 : decode cX3_init 55 = .ok (.newarray .int, 2) := by decide +kernel
theorem tw_253 : (Jvm.Cond.fieldLink "MarshBells$Held" (30 : Nat) "MarshBells$Held" "actOlds" "[I") ∈ lw_tbl := tk_2 (List.mem_of_getElem? (i := 13) rfl)
theorem fl_X3_30 : kFL RX3 30 3 12 6 := ⟨RX3, TX3, rfl, by decide, inWX3, tw_253⟩
theorem ft_X3_6 : kFT 3 6 (.array .int) true RX3 := ⟨RX3, TX3, 12, tyX3, rfl, tyX3_ok, nmX3, rfl, by decide +kernel, rfl⟩
theorem dX3_init_57 : decode cX3_init 57 = .ok (.putfield 30, 3) := by decide +kernel
theorem dX3_init_60 : decode cX3_init 60 = .ok (.aload_n 0, 1) := by decide +kernel
theorem dX3_init_61 : decode cX3_init 61 = .ok (.bipush 8, 2) := by decide +kernel
theorem dX3_init_63 : decode cX3_init 63 = .ok (.newarray .int, 2) := by decide +kernel
theorem tw_254 : (Jvm.Cond.fieldLink "MarshBells$Held" (33 : Nat) "MarshBells$Held" "seenLessons" "[I") ∈ lw_tbl := tk_2 (List.mem_of_getElem? (i := 14) rfl)
theorem fl_X3_33 : kFL RX3 33 3 12 7 := ⟨RX3, TX3, rfl, by decide, inWX3, tw_254⟩
theorem ft_X3_7 : kFT 3 7 (.array .int) true RX3 := ⟨RX3, TX3, 12, tyX3, rfl, tyX3_ok, nmX3, rfl, by decide +kernel, rfl⟩
theorem dX3_init_65 : decode cX3_init 65 = .ok (.putfield 33, 3) := by decide +kernel
theorem dX3_init_68 : decode cX3_init 68 = .ok (.aload_n 0, 1) := by decide +kernel
theorem dX3_init_69 : decode cX3_init 69 = .ok (.bipush 8, 2) := by decide +kernel
theorem dX3_init_71 : decode cX3_init 71 = .ok (.newarray .int, 2) := by decide +kernel
theorem tw_256 : (Jvm.Cond.fieldLink "MarshBells$Held" (36 : Nat) "MarshBells$Held" "seenLates" "[I") ∈ lw_tbl := tk_2 (List.mem_of_getElem? (i := 16) rfl)
theorem fl_X3_36 : kFL RX3 36 3 12 8 := ⟨RX3, TX3, rfl, by decide, inWX3, tw_256⟩
theorem ft_X3_8 : kFT 3 8 (.array .int) true RX3 := ⟨RX3, TX3, 12, tyX3, rfl, tyX3_ok, nmX3, rfl, by decide +kernel, rfl⟩
theorem dX3_init_73 : decode cX3_init 73 = .ok (.putfield 36, 3) := by decide +kernel
theorem dX3_init_76 : decode cX3_init 76 = .ok (.aload_n 0, 1) := by decide +kernel
theorem dX3_init_77 : decode cX3_init 77 = .ok (.iconst 0, 1) := by decide +kernel
theorem tw_258 : (Jvm.Cond.fieldLink "MarshBells$Held" (39 : Nat) "MarshBells$Held" "acts" "I") ∈ lw_tbl := tk_2 (List.mem_of_getElem? (i := 18) rfl)
theorem fl_X3_39 : kFL RX3 39 3 12 9 := ⟨RX3, TX3, rfl, by decide, inWX3, tw_258⟩
theorem ft_X3_9 : kFT 3 9 .int false RX3 := ⟨RX3, TX3, 12, tyX3, rfl, tyX3_ok, nmX3, rfl, by decide +kernel, rfl⟩
theorem dX3_init_78 : decode cX3_init 78 = .ok (.putfield 39, 3) := by decide +kernel
theorem dX3_init_81 : decode cX3_init 81 = .ok (.aload_n 0, 1) := by decide +kernel
theorem dX3_init_82 : decode cX3_init 82 = .ok (.iconst 0, 1) := by decide +kernel
theorem tw_260 : (Jvm.Cond.fieldLink "MarshBells$Held" (43 : Nat) "MarshBells$Held" "seen" "I") ∈ lw_tbl := tk_2 (List.mem_of_getElem? (i := 20) rfl)
theorem fl_X3_43 : kFL RX3 43 3 12 10 := ⟨RX3, TX3, rfl, by decide, inWX3, tw_260⟩
theorem ft_X3_10 : kFT 3 10 .int false RX3 := ⟨RX3, TX3, 12, tyX3, rfl, tyX3_ok, nmX3, rfl, by decide +kernel, rfl⟩
theorem dX3_init_83 : decode cX3_init 83 = .ok (.putfield 43, 3) := by decide +kernel
theorem dX3_init_86 : decode cX3_init 86 = .ok (.aload_n 0, 1) := by decide +kernel
theorem dX3_init_87 : decode cX3_init 87 = .ok (.iconst (-1), 1) := by decide +kernel
theorem tw_263 : (Jvm.Cond.fieldLink "MarshBells$Held" (46 : Nat) "MarshBells$Held" "rule" "I") ∈ lw_tbl := tk_2 (List.mem_of_getElem? (i := 23) rfl)
theorem fl_X3_46 : kFL RX3 46 3 12 11 := ⟨RX3, TX3, rfl, by decide, inWX3, tw_263⟩
theorem ft_X3_11 : kFT 3 11 .int false RX3 := ⟨RX3, TX3, 12, tyX3, rfl, tyX3_ok, nmX3, rfl, by decide +kernel, rfl⟩
theorem dX3_init_88 : decode cX3_init 88 = .ok (.putfield 46, 3) := by decide +kernel
theorem dX3_init_91 : decode cX3_init 91 = .ok (.return_, 1) := by decide +kernel
theorem dX1_init_0 : decode cX1_init 0 = .ok (.aload_n 0, 1) := by decide +kernel
theorem tw_297 : (Jvm.Cond.methodLink "MarshBells$Day" (3 : Nat) ({ cls := "java/lang/Object", name := "<init>", desc := "()V" } : Jvm.MethodName)) ∈ lw_tbl := tk_2 (List.mem_of_getElem? (i := 57) rfl)
theorem dX1_init_1 : decode cX1_init 1 = .ok (.invokespecial 3, 3) := by decide +kernel
theorem dX1_init_4 : decode cX1_init 4 = .ok (.aload_n 0, 1) := by decide +kernel
theorem dX1_init_5 : decode cX1_init 5 = .ok (.bipush 12, 2) := by decide +kernel
theorem dX1_init_7 : decode cX1_init 7 = .ok (.newarray .int, 2) := by decide +kernel
theorem tw_324 : (Jvm.Cond.laysFinal "MarshBells$Day" "MarshBells$Day" "held" "LMarshBells$Held;") ∈ lw_tbl := tk_2 (List.mem_of_getElem? (i := 84) rfl)
theorem tw_326 : (Jvm.Cond.laysFinal "MarshBells$Day" "MarshBells$Day" "begins" "[I") ∈ lw_tbl := tk_2 (List.mem_of_getElem? (i := 86) rfl)
theorem tw_328 : (Jvm.Cond.laysFinal "MarshBells$Day" "MarshBells$Day" "ends" "[I") ∈ lw_tbl := tk_2 (List.mem_of_getElem? (i := 88) rfl)
theorem tw_330 : (Jvm.Cond.laysFinal "MarshBells$Day" "MarshBells$Day" "runsOver" "[I") ∈ lw_tbl := tk_2 (List.mem_of_getElem? (i := 90) rfl)
theorem tw_332 : (Jvm.Cond.laysFinal "MarshBells$Day" "MarshBells$Day" "byWhom" "[I") ∈ lw_tbl := tk_2 (List.mem_of_getElem? (i := 92) rfl)
theorem tw_334 : (Jvm.Cond.laysFinal "MarshBells$Day" "MarshBells$Day" "comings" "[I") ∈ lw_tbl := tk_2 (List.mem_of_getElem? (i := 94) rfl)
theorem tw_336 : (Jvm.Cond.laysFinal "MarshBells$Day" "MarshBells$Day" "values" "[I") ∈ lw_tbl := tk_2 (List.mem_of_getElem? (i := 96) rfl)
theorem tw_338 : (Jvm.Cond.lays "MarshBells$Day" "MarshBells$Day" "plan" "LMarshBells$Plan;") ∈ lw_tbl := tk_2 (List.mem_of_getElem? (i := 98) rfl)
theorem tw_340 : (Jvm.Cond.lays "MarshBells$Day" "MarshBells$Day" "running" "I") ∈ lw_tbl := tk_2 (List.mem_of_getElem? (i := 100) rfl)
theorem tw_342 : (Jvm.Cond.lays "MarshBells$Day" "MarshBells$Day" "wide" "I") ∈ lw_tbl := tk_2 (List.mem_of_getElem? (i := 102) rfl)
theorem inWX1 : ∀ w ∈ u_ws RX1 TX1 10, w ∈ lw_tbl := by
  have e : ∀ k, k < 10 → u_lay RX1 TX1 k ∈ lw_tbl := fun k hk => match k, hk with | 0, _ => tw_324 | 1, _ => tw_326 | 2, _ => tw_328 | 3, _ => tw_330 | 4, _ => tw_332 | 5, _ => tw_334 | 6, _ => tw_336 | 7, _ => tw_338 | 8, _ => tw_340 | 9, _ => tw_342 | k + 10, hk => absurd hk (by omega)
  intro w h
  obtain ⟨k, hk, rfl⟩ := List.mem_map.mp h
  exact e k (List.mem_range.mp hk)
theorem tw_301 : (Jvm.Cond.fieldLink "MarshBells$Day" (9 : Nat) "MarshBells$Day" "begins" "[I") ∈ lw_tbl := tk_2 (List.mem_of_getElem? (i := 61) rfl)
theorem fl_X1_9 : kFL RX1 9 1 10 1 := ⟨RX1, TX1, rfl, by decide, inWX1, tw_301⟩
theorem ft_X1_1 : kFT 1 1 (.array .int) true RX1 := ⟨RX1, TX1, 10, tyX1, rfl, tyX1_ok, nmX1, rfl, by decide +kernel, rfl⟩
theorem dX1_init_9 : decode cX1_init 9 = .ok (.putfield 9, 3) := by decide +kernel
theorem dX1_init_12 : decode cX1_init 12 = .ok (.aload_n 0, 1) := by decide +kernel
theorem dX1_init_13 : decode cX1_init 13 = .ok (.bipush 12, 2) := by decide +kernel
theorem dX1_init_15 : decode cX1_init 15 = .ok (.newarray .int, 2) := by decide +kernel
theorem tw_303 : (Jvm.Cond.fieldLink "MarshBells$Day" (15 : Nat) "MarshBells$Day" "ends" "[I") ∈ lw_tbl := tk_2 (List.mem_of_getElem? (i := 63) rfl)
theorem fl_X1_15 : kFL RX1 15 1 10 2 := ⟨RX1, TX1, rfl, by decide, inWX1, tw_303⟩
theorem ft_X1_2 : kFT 1 2 (.array .int) true RX1 := ⟨RX1, TX1, 10, tyX1, rfl, tyX1_ok, nmX1, rfl, by decide +kernel, rfl⟩
theorem dX1_init_17 : decode cX1_init 17 = .ok (.putfield 15, 3) := by decide +kernel
theorem dX1_init_20 : decode cX1_init 20 = .ok (.aload_n 0, 1) := by decide +kernel
theorem dX1_init_21 : decode cX1_init 21 = .ok (.bipush 12, 2) := by decide +kernel
theorem dX1_init_23 : decode cX1_init 23 = .ok (.newarray .int, 2) := by decide +kernel
theorem tw_308 : (Jvm.Cond.fieldLink "MarshBells$Day" (18 : Nat) "MarshBells$Day" "runsOver" "[I") ∈ lw_tbl := tk_2 (List.mem_of_getElem? (i := 68) rfl)
theorem fl_X1_18 : kFL RX1 18 1 10 3 := ⟨RX1, TX1, rfl, by decide, inWX1, tw_308⟩
theorem ft_X1_3 : kFT 1 3 (.array .int) true RX1 := ⟨RX1, TX1, 10, tyX1, rfl, tyX1_ok, nmX1, rfl, by decide +kernel, rfl⟩
theorem dX1_init_25 : decode cX1_init 25 = .ok (.putfield 18, 3) := by decide +kernel
theorem dX1_init_28 : decode cX1_init 28 = .ok (.aload_n 0, 1) := by decide +kernel
theorem dX1_init_29 : decode cX1_init 29 = .ok (.bipush 12, 2) := by decide +kernel
theorem dX1_init_31 : decode cX1_init 31 = .ok (.newarray .int, 2) := by decide +kernel
theorem tw_310 : (Jvm.Cond.fieldLink "MarshBells$Day" (21 : Nat) "MarshBells$Day" "byWhom" "[I") ∈ lw_tbl := tk_2 (List.mem_of_getElem? (i := 70) rfl)
theorem fl_X1_21 : kFL RX1 21 1 10 4 := ⟨RX1, TX1, rfl, by decide, inWX1, tw_310⟩
theorem ft_X1_4 : kFT 1 4 (.array .int) true RX1 := ⟨RX1, TX1, 10, tyX1, rfl, tyX1_ok, nmX1, rfl, by decide +kernel, rfl⟩
theorem dX1_init_33 : decode cX1_init 33 = .ok (.putfield 21, 3) := by decide +kernel
theorem dX1_init_36 : decode cX1_init 36 = .ok (.aload_n 0, 1) := by decide +kernel
theorem dX1_init_37 : decode cX1_init 37 = .ok (.bipush 6, 2) := by decide +kernel
theorem dX1_init_39 : decode cX1_init 39 = .ok (.newarray .int, 2) := by decide +kernel
theorem tw_312 : (Jvm.Cond.fieldLink "MarshBells$Day" (24 : Nat) "MarshBells$Day" "comings" "[I") ∈ lw_tbl := tk_2 (List.mem_of_getElem? (i := 72) rfl)
theorem fl_X1_24 : kFL RX1 24 1 10 5 := ⟨RX1, TX1, rfl, by decide, inWX1, tw_312⟩
theorem ft_X1_5 : kFT 1 5 (.array .int) true RX1 := ⟨RX1, TX1, 10, tyX1, rfl, tyX1_ok, nmX1, rfl, by decide +kernel, rfl⟩
theorem dX1_init_41 : decode cX1_init 41 = .ok (.putfield 24, 3) := by decide +kernel
theorem dX1_init_44 : decode cX1_init 44 = .ok (.aload_n 0, 1) := by decide +kernel
theorem dX1_init_45 : decode cX1_init 45 = .ok (.bipush 6, 2) := by decide +kernel
theorem dX1_init_47 : decode cX1_init 47 = .ok (.newarray .int, 2) := by decide +kernel
theorem tw_313 : (Jvm.Cond.fieldLink "MarshBells$Day" (27 : Nat) "MarshBells$Day" "values" "[I") ∈ lw_tbl := tk_2 (List.mem_of_getElem? (i := 73) rfl)
theorem fl_X1_27 : kFL RX1 27 1 10 6 := ⟨RX1, TX1, rfl, by decide, inWX1, tw_313⟩
theorem ft_X1_6 : kFT 1 6 (.array .int) true RX1 := ⟨RX1, TX1, 10, tyX1, rfl, tyX1_ok, nmX1, rfl, by decide +kernel, rfl⟩
theorem dX1_init_49 : decode cX1_init 49 = .ok (.putfield 27, 3) := by decide +kernel
theorem dX1_init_52 : decode cX1_init 52 = .ok (.aload_n 0, 1) := by decide +kernel
theorem dX1_init_53 : decode cX1_init 53 = .ok (.iconst (-1), 1) := by decide +kernel
theorem tw_320 : (Jvm.Cond.fieldLink "MarshBells$Day" (30 : Nat) "MarshBells$Day" "running" "I") ∈ lw_tbl := tk_2 (List.mem_of_getElem? (i := 80) rfl)
theorem fl_X1_30 : kFL RX1 30 1 10 8 := ⟨RX1, TX1, rfl, by decide, inWX1, tw_320⟩
theorem ft_X1_8 : kFT 1 8 .int false RX1 := ⟨RX1, TX1, 10, tyX1, rfl, tyX1_ok, nmX1, rfl, by decide +kernel, rfl⟩
theorem dX1_init_54 : decode cX1_init 54 = .ok (.putfield 30, 3) := by decide +kernel
theorem dX1_init_57 : decode cX1_init 57 = .ok (.aload_n 0, 1) := by decide +kernel
theorem dX1_init_58 : decode cX1_init 58 = .ok (.iconst (-1), 1) := by decide +kernel
theorem tw_322 : (Jvm.Cond.fieldLink "MarshBells$Day" (34 : Nat) "MarshBells$Day" "wide" "I") ∈ lw_tbl := tk_2 (List.mem_of_getElem? (i := 82) rfl)
theorem fl_X1_34 : kFL RX1 34 1 10 9 := ⟨RX1, TX1, rfl, by decide, inWX1, tw_322⟩
theorem ft_X1_9 : kFT 1 9 .int false RX1 := ⟨RX1, TX1, 10, tyX1, rfl, tyX1_ok, nmX1, rfl, by decide +kernel, rfl⟩
theorem dX1_init_59 : decode cX1_init 59 = .ok (.putfield 34, 3) := by decide +kernel
theorem dX1_init_62 : decode cX1_init 62 = .ok (.aload_n 0, 1) := by decide +kernel
theorem dX1_init_63 : decode cX1_init 63 = .ok (.aload_n 1, 1) := by decide +kernel
theorem tw_314 : (Jvm.Cond.fieldLink "MarshBells$Day" (37 : Nat) "MarshBells$Day" "plan" "LMarshBells$Plan;") ∈ lw_tbl := tk_2 (List.mem_of_getElem? (i := 74) rfl)
theorem fl_X1_37 : kFL RX1 37 1 10 7 := ⟨RX1, TX1, rfl, by decide, inWX1, tw_314⟩
theorem ft_X1_7 : kFT 1 7 (.object "MarshBells$Plan") false RX1 := ⟨RX1, TX1, 10, tyX1, rfl, tyX1_ok, nmX1, rfl, by decide +kernel, rfl⟩
theorem dX1_init_64 : decode cX1_init 64 = .ok (.putfield 37, 3) := by decide +kernel
theorem dX1_init_67 : decode cX1_init 67 = .ok (.aload_n 0, 1) := by decide +kernel
theorem dX1_init_68 : decode cX1_init 68 = .ok (.aload_n 2, 1) := by decide +kernel
theorem tw_300 : (Jvm.Cond.fieldLink "MarshBells$Day" (41 : Nat) "MarshBells$Day" "held" "LMarshBells$Held;") ∈ lw_tbl := tk_2 (List.mem_of_getElem? (i := 60) rfl)
theorem fl_X1_41 : kFL RX1 41 1 10 0 := ⟨RX1, TX1, rfl, by decide, inWX1, tw_300⟩
theorem ft_X1_0 : kFT 1 0 (.object "MarshBells$Held") true RX1 := ⟨RX1, TX1, 10, tyX1, rfl, tyX1_ok, nmX1, rfl, by decide +kernel, rfl⟩
theorem dX1_init_69 : decode cX1_init 69 = .ok (.putfield 41, 3) := by decide +kernel
theorem dX1_init_72 : decode cX1_init 72 = .ok (.return_, 1) := by decide +kernel
theorem dX6_init_0 : decode cX6_init 0 = .ok (.aload_n 0, 1) := by decide +kernel
theorem tw_193 : (Jvm.Cond.methodLink "MarshBells$Parser" (3 : Nat) ({ cls := "java/lang/Object", name := "<init>", desc := "()V" } : Jvm.MethodName)) ∈ lw_tbl := tk_1 (List.mem_of_getElem? (i := 193) rfl)
theorem dX6_init_1 : decode cX6_init 1 = .ok (.invokespecial 3, 3) := by decide +kernel
theorem dX6_init_4 : decode cX6_init 4 = .ok (.aload_n 0, 1) := by decide +kernel
theorem dX6_init_5 : decode cX6_init 5 = .ok (.aload_n 1, 1) := by decide +kernel
theorem tw_207 : (Jvm.Cond.laysFinal "MarshBells$Parser" "MarshBells$Parser" "bytes" "[I") ∈ lw_tbl := tk_1 (List.mem_of_getElem? (i := 207) rfl)
theorem tw_209 : (Jvm.Cond.lays "MarshBells$Parser" "MarshBells$Parser" "plan" "LMarshBells$Plan;") ∈ lw_tbl := tk_1 (List.mem_of_getElem? (i := 209) rfl)
theorem tw_211 : (Jvm.Cond.lays "MarshBells$Parser" "MarshBells$Parser" "length" "I") ∈ lw_tbl := tk_1 (List.mem_of_getElem? (i := 211) rfl)
theorem tw_213 : (Jvm.Cond.lays "MarshBells$Parser" "MarshBells$Parser" "next" "I") ∈ lw_tbl := tk_1 (List.mem_of_getElem? (i := 213) rfl)
theorem tw_215 : (Jvm.Cond.lays "MarshBells$Parser" "MarshBells$Parser" "kind" "I") ∈ lw_tbl := tk_1 (List.mem_of_getElem? (i := 215) rfl)
theorem tw_217 : (Jvm.Cond.lays "MarshBells$Parser" "MarshBells$Parser" "place" "I") ∈ lw_tbl := tk_1 (List.mem_of_getElem? (i := 217) rfl)
theorem tw_219 : (Jvm.Cond.lays "MarshBells$Parser" "MarshBells$Parser" "number" "I") ∈ lw_tbl := tk_1 (List.mem_of_getElem? (i := 219) rfl)
theorem tw_221 : (Jvm.Cond.lays "MarshBells$Parser" "MarshBells$Parser" "fault" "I") ∈ lw_tbl := tk_1 (List.mem_of_getElem? (i := 221) rfl)
theorem tw_223 : (Jvm.Cond.lays "MarshBells$Parser" "MarshBells$Parser" "faultPlace" "I") ∈ lw_tbl := tk_1 (List.mem_of_getElem? (i := 223) rfl)
theorem tw_225 : (Jvm.Cond.lays "MarshBells$Parser" "MarshBells$Parser" "walkTold" "Z") ∈ lw_tbl := tk_1 (List.mem_of_getElem? (i := 225) rfl)
theorem tw_227 : (Jvm.Cond.lays "MarshBells$Parser" "MarshBells$Parser" "stairTold" "Z") ∈ lw_tbl := tk_1 (List.mem_of_getElem? (i := 227) rfl)
theorem inWX6 : ∀ w ∈ u_ws RX6 TX6 11, w ∈ lw_tbl := by
  have e : ∀ k, k < 11 → u_lay RX6 TX6 k ∈ lw_tbl := fun k hk => match k, hk with | 0, _ => tw_207 | 1, _ => tw_209 | 2, _ => tw_211 | 3, _ => tw_213 | 4, _ => tw_215 | 5, _ => tw_217 | 6, _ => tw_219 | 7, _ => tw_221 | 8, _ => tw_223 | 9, _ => tw_225 | 10, _ => tw_227 | k + 11, hk => absurd hk (by omega)
  intro w h
  obtain ⟨k, hk, rfl⟩ := List.mem_map.mp h
  exact e k (List.mem_range.mp hk)
theorem tw_194 : (Jvm.Cond.fieldLink "MarshBells$Parser" (9 : Nat) "MarshBells$Parser" "bytes" "[I") ∈ lw_tbl := tk_1 (List.mem_of_getElem? (i := 194) rfl)
theorem fl_X6_9 : kFL RX6 9 6 11 0 := ⟨RX6, TX6, rfl, by decide, inWX6, tw_194⟩
theorem ft_X6_0 : kFT 6 0 (.array .int) true RX6 := ⟨RX6, TX6, 11, tyX6, rfl, tyX6_ok, nmX6, rfl, by decide +kernel, rfl⟩
theorem dX6_init_6 : decode cX6_init 6 = .ok (.putfield 9, 3) := by decide +kernel
theorem dX6_init_9 : decode cX6_init 9 = .ok (.aload_n 0, 1) := by decide +kernel
theorem dX6_init_10 : decode cX6_init 10 = .ok (.aload_n 2, 1) := by decide +kernel
theorem tw_195 : (Jvm.Cond.fieldLink "MarshBells$Parser" (15 : Nat) "MarshBells$Parser" "plan" "LMarshBells$Plan;") ∈ lw_tbl := tk_1 (List.mem_of_getElem? (i := 195) rfl)
theorem fl_X6_15 : kFL RX6 15 6 11 1 := ⟨RX6, TX6, rfl, by decide, inWX6, tw_195⟩
theorem ft_X6_1 : kFT 6 1 (.object "MarshBells$Plan") false RX6 := ⟨RX6, TX6, 11, tyX6, rfl, tyX6_ok, nmX6, rfl, by decide +kernel, rfl⟩
theorem dX6_init_11 : decode cX6_init 11 = .ok (.putfield 15, 3) := by decide +kernel
theorem dX6_init_14 : decode cX6_init 14 = .ok (.return_, 1) := by decide +kernel
theorem dX10_init_0 : decode cX10_init 0 = .ok (.aload_n 0, 1) := by decide +kernel
theorem tw_350 : (Jvm.Cond.methodLink "MarshBells$Trials" (3 : Nat) ({ cls := "java/lang/Object", name := "<init>", desc := "()V" } : Jvm.MethodName)) ∈ lw_tbl := tk_2 (List.mem_of_getElem? (i := 110) rfl)
theorem dX10_init_1 : decode cX10_init 1 = .ok (.invokespecial 3, 3) := by decide +kernel
theorem dX10_init_4 : decode cX10_init 4 = .ok (.aload_n 0, 1) := by decide +kernel
theorem tw_351 : (Jvm.Cond.classLink "MarshBells$Trials" (9 : Nat) "MarshBells$Least") ∈ lw_tbl := tk_2 (List.mem_of_getElem? (i := 111) rfl)
theorem tw_352 : (Jvm.Cond.instantiable "MarshBells$Least" (3 : Nat)) ∈ lw_tbl := tk_2 (List.mem_of_getElem? (i := 112) rfl)
theorem tw_9 : (Jvm.Cond.initialized "MarshBells$Least") ∈ lw_tbl := tk_1 (List.mem_of_getElem? (i := 9) rfl)
theorem tw_362 : (Jvm.Cond.lays "MarshBells$Least" "MarshBells$Least" "any" "Z") ∈ lw_tbl := tk_2 (List.mem_of_getElem? (i := 122) rfl)
theorem tw_364 : (Jvm.Cond.lays "MarshBells$Least" "MarshBells$Least" "offered" "I") ∈ lw_tbl := tk_2 (List.mem_of_getElem? (i := 124) rfl)
theorem tw_366 : (Jvm.Cond.lays "MarshBells$Least" "MarshBells$Least" "lost" "I") ∈ lw_tbl := tk_2 (List.mem_of_getElem? (i := 126) rfl)
theorem inWX4 : ∀ w ∈ u_ws RX4 TX4 3, w ∈ lw_tbl := by
  have e : ∀ k, k < 3 → u_lay RX4 TX4 k ∈ lw_tbl := fun k hk => match k, hk with | 0, _ => tw_362 | 1, _ => tw_364 | 2, _ => tw_366 | k + 3, hk => absurd hk (by omega)
  intro w h
  obtain ⟨k, hk, rfl⟩ := List.mem_map.mp h
  exact e k (List.mem_range.mp hk)
theorem dX10_init_5 : decode cX10_init 5 = .ok (.new 9, 3) := by decide +kernel
theorem dX10_init_8 : decode cX10_init 8 = .ok (.dup, 1) := by decide +kernel
theorem tw_353 : (Jvm.Cond.methodLinkNest "MarshBells$Trials" (11 : Nat) ({ cls := "MarshBells$Least", name := "<init>", desc := "()V" } : Jvm.MethodName) "MarshBells") ∈ lw_tbl := tk_2 (List.mem_of_getElem? (i := 113) rfl)
theorem tw_355 : (Jvm.Cond.code ({ cls := "MarshBells$Least", name := "<init>", desc := "()V" } : Jvm.MethodName) prog_6_method_1_code (1 : Nat) (Option.none : Option Jvm.ClassFile.FieldType)) ∈ lw_tbl := tk_2 (List.mem_of_getElem? (i := 115) rfl)
theorem tw_354 : (Jvm.Cond.instanceMethod ({ cls := "MarshBells$Least", name := "<init>", desc := "()V" } : Jvm.MethodName)) ∈ lw_tbl := tk_2 (List.mem_of_getElem? (i := 114) rfl)
theorem li_X10_11 : kLJ RX10 11 yX4_init "MarshBells" cX4_init 1 0 := ⟨tw_353, tw_354, tw_355, tw_9, rfl, by decide +kernel⟩
theorem dX10_init_9 : decode cX10_init 9 = .ok (.invokespecial 11, 3) := by decide +kernel
theorem tw_379 : (Jvm.Cond.laysFinal "MarshBells$Trials" "MarshBells$Trials" "day" "LMarshBells$Day;") ∈ lw_tbl := tk_2 (List.mem_of_getElem? (i := 139) rfl)
theorem tw_381 : (Jvm.Cond.laysFinal "MarshBells$Trials" "MarshBells$Trials" "held" "LMarshBells$Held;") ∈ lw_tbl := tk_2 (List.mem_of_getElem? (i := 141) rfl)
theorem tw_383 : (Jvm.Cond.laysFinal "MarshBells$Trials" "MarshBells$Trials" "least" "LMarshBells$Least;") ∈ lw_tbl := tk_2 (List.mem_of_getElem? (i := 143) rfl)
theorem tw_385 : (Jvm.Cond.laysFinal "MarshBells$Trials" "MarshBells$Trials" "saved" "[I") ∈ lw_tbl := tk_2 (List.mem_of_getElem? (i := 145) rfl)
theorem tw_387 : (Jvm.Cond.lays "MarshBells$Trials" "MarshBells$Trials" "fitting" "I") ∈ lw_tbl := tk_2 (List.mem_of_getElem? (i := 147) rfl)
theorem tw_389 : (Jvm.Cond.lays "MarshBells$Trials" "MarshBells$Trials" "firstFitting" "I") ∈ lw_tbl := tk_2 (List.mem_of_getElem? (i := 149) rfl)
theorem tw_391 : (Jvm.Cond.lays "MarshBells$Trials" "MarshBells$Trials" "surely" "I") ∈ lw_tbl := tk_2 (List.mem_of_getElem? (i := 151) rfl)
theorem inWX10 : ∀ w ∈ u_ws RX10 TX10 7, w ∈ lw_tbl := by
  have e : ∀ k, k < 7 → u_lay RX10 TX10 k ∈ lw_tbl := fun k hk => match k, hk with | 0, _ => tw_379 | 1, _ => tw_381 | 2, _ => tw_383 | 3, _ => tw_385 | 4, _ => tw_387 | 5, _ => tw_389 | 6, _ => tw_391 | k + 7, hk => absurd hk (by omega)
  intro w h
  obtain ⟨k, hk, rfl⟩ := List.mem_map.mp h
  exact e k (List.mem_range.mp hk)
theorem tw_371 : (Jvm.Cond.fieldLink "MarshBells$Trials" (12 : Nat) "MarshBells$Trials" "least" "LMarshBells$Least;") ∈ lw_tbl := tk_2 (List.mem_of_getElem? (i := 131) rfl)
theorem fl_X10_12 : kFL RX10 12 10 7 2 := ⟨RX10, TX10, rfl, by decide, inWX10, tw_371⟩
theorem ft_X10_2 : kFT 10 2 (.object "MarshBells$Least") true RX10 := ⟨RX10, TX10, 7, tyX10, rfl, tyX10_ok, nmX10, rfl, by decide +kernel, rfl⟩
theorem dX10_init_12 : decode cX10_init 12 = .ok (.putfield 12, 3) := by decide +kernel
theorem dX10_init_15 : decode cX10_init 15 = .ok (.aload_n 0, 1) := by decide +kernel
theorem dX10_init_16 : decode cX10_init 16 = .ok (.bipush 12, 2) := by decide +kernel
theorem dX10_init_18 : decode cX10_init 18 = .ok (.newarray .int, 2) := by decide +kernel
theorem tw_372 : (Jvm.Cond.fieldLink "MarshBells$Trials" (18 : Nat) "MarshBells$Trials" "saved" "[I") ∈ lw_tbl := tk_2 (List.mem_of_getElem? (i := 132) rfl)
theorem fl_X10_18 : kFL RX10 18 10 7 3 := ⟨RX10, TX10, rfl, by decide, inWX10, tw_372⟩
theorem ft_X10_3 : kFT 10 3 (.array .int) true RX10 := ⟨RX10, TX10, 7, tyX10, rfl, tyX10_ok, nmX10, rfl, by decide +kernel, rfl⟩
theorem dX10_init_20 : decode cX10_init 20 = .ok (.putfield 18, 3) := by decide +kernel
theorem dX10_init_23 : decode cX10_init 23 = .ok (.aload_n 0, 1) := by decide +kernel
theorem dX10_init_24 : decode cX10_init 24 = .ok (.aload_n 1, 1) := by decide +kernel
theorem tw_369 : (Jvm.Cond.fieldLink "MarshBells$Trials" (22 : Nat) "MarshBells$Trials" "day" "LMarshBells$Day;") ∈ lw_tbl := tk_2 (List.mem_of_getElem? (i := 129) rfl)
theorem fl_X10_22 : kFL RX10 22 10 7 0 := ⟨RX10, TX10, rfl, by decide, inWX10, tw_369⟩
theorem ft_X10_0 : kFT 10 0 (.object "MarshBells$Day") true RX10 := ⟨RX10, TX10, 7, tyX10, rfl, tyX10_ok, nmX10, rfl, by decide +kernel, rfl⟩
theorem dX10_init_25 : decode cX10_init 25 = .ok (.putfield 22, 3) := by decide +kernel
theorem dX10_init_28 : decode cX10_init 28 = .ok (.aload_n 0, 1) := by decide +kernel
theorem dX10_init_29 : decode cX10_init 29 = .ok (.aload_n 1, 1) := by decide +kernel
theorem tw_299 : (Jvm.Cond.fieldLinkNest "MarshBells$Trials" (26 : Nat) "MarshBells$Day" "held" "LMarshBells$Held;" "MarshBells") ∈ lw_tbl := tk_2 (List.mem_of_getElem? (i := 59) rfl)
theorem fl_X10_26 : kFN RX10 26 1 10 0 := ⟨RX1, TX1, rfl, by decide, inWX1, tw_299⟩
theorem dX10_init_30 : decode cX10_init 30 = .ok (.getfield 26, 3) := by decide +kernel
theorem tw_370 : (Jvm.Cond.fieldLink "MarshBells$Trials" (32 : Nat) "MarshBells$Trials" "held" "LMarshBells$Held;") ∈ lw_tbl := tk_2 (List.mem_of_getElem? (i := 130) rfl)
theorem fl_X10_32 : kFL RX10 32 10 7 1 := ⟨RX10, TX10, rfl, by decide, inWX10, tw_370⟩
theorem ft_X10_1 : kFT 10 1 (.object "MarshBells$Held") true RX10 := ⟨RX10, TX10, 7, tyX10, rfl, tyX10_ok, nmX10, rfl, by decide +kernel, rfl⟩
theorem dX10_init_33 : decode cX10_init 33 = .ok (.putfield 32, 3) := by decide +kernel
theorem dX10_init_36 : decode cX10_init 36 = .ok (.return_, 1) := by decide +kernel
theorem dX2_init_0 : decode cX2_init 0 = .ok (.aload_n 0, 1) := by decide +kernel
theorem tw_399 : (Jvm.Cond.methodLink "MarshBells$GapSearch" (3 : Nat) ({ cls := "java/lang/Object", name := "<init>", desc := "()V" } : Jvm.MethodName)) ∈ lw_tbl := tk_2 (List.mem_of_getElem? (i := 159) rfl)
theorem dX2_init_1 : decode cX2_init 1 = .ok (.invokespecial 3, 3) := by decide +kernel
theorem dX2_init_4 : decode cX2_init 4 = .ok (.aload_n 0, 1) := by decide +kernel
theorem dX2_init_5 : decode cX2_init 5 = .ok (.bipush 12, 2) := by decide +kernel
theorem dX2_init_7 : decode cX2_init 7 = .ok (.newarray .int, 2) := by decide +kernel
theorem tw_410 : (Jvm.Cond.laysFinal "MarshBells$GapSearch" "MarshBells$GapSearch" "day" "LMarshBells$Day;") ∈ lw_tbl := tk_2 (List.mem_of_getElem? (i := 170) rfl)
theorem tw_412 : (Jvm.Cond.laysFinal "MarshBells$GapSearch" "MarshBells$GapSearch" "held" "LMarshBells$Held;") ∈ lw_tbl := tk_2 (List.mem_of_getElem? (i := 172) rfl)
theorem tw_414 : (Jvm.Cond.laysFinal "MarshBells$GapSearch" "MarshBells$GapSearch" "own" "[I") ∈ lw_tbl := tk_2 (List.mem_of_getElem? (i := 174) rfl)
theorem tw_416 : (Jvm.Cond.laysFinal "MarshBells$GapSearch" "MarshBells$GapSearch" "found" "[I") ∈ lw_tbl := tk_2 (List.mem_of_getElem? (i := 176) rfl)
theorem tw_418 : (Jvm.Cond.lays "MarshBells$GapSearch" "MarshBells$GapSearch" "set" "I") ∈ lw_tbl := tk_2 (List.mem_of_getElem? (i := 178) rfl)
theorem tw_420 : (Jvm.Cond.lays "MarshBells$GapSearch" "MarshBells$GapSearch" "goal" "I") ∈ lw_tbl := tk_2 (List.mem_of_getElem? (i := 180) rfl)
theorem tw_422 : (Jvm.Cond.lays "MarshBells$GapSearch" "MarshBells$GapSearch" "late" "I") ∈ lw_tbl := tk_2 (List.mem_of_getElem? (i := 182) rfl)
theorem tw_424 : (Jvm.Cond.lays "MarshBells$GapSearch" "MarshBells$GapSearch" "asked" "I") ∈ lw_tbl := tk_2 (List.mem_of_getElem? (i := 184) rfl)
theorem tw_426 : (Jvm.Cond.lays "MarshBells$GapSearch" "MarshBells$GapSearch" "fewest" "I") ∈ lw_tbl := tk_2 (List.mem_of_getElem? (i := 186) rfl)
theorem inWX2 : ∀ w ∈ u_ws RX2 TX2 9, w ∈ lw_tbl := by
  have e : ∀ k, k < 9 → u_lay RX2 TX2 k ∈ lw_tbl := fun k hk => match k, hk with | 0, _ => tw_410 | 1, _ => tw_412 | 2, _ => tw_414 | 3, _ => tw_416 | 4, _ => tw_418 | 5, _ => tw_420 | 6, _ => tw_422 | 7, _ => tw_424 | 8, _ => tw_426 | k + 9, hk => absurd hk (by omega)
  intro w h
  obtain ⟨k, hk, rfl⟩ := List.mem_map.mp h
  exact e k (List.mem_range.mp hk)
theorem tw_402 : (Jvm.Cond.fieldLink "MarshBells$GapSearch" (9 : Nat) "MarshBells$GapSearch" "own" "[I") ∈ lw_tbl := tk_2 (List.mem_of_getElem? (i := 162) rfl)
theorem fl_X2_9 : kFL RX2 9 2 9 2 := ⟨RX2, TX2, rfl, by decide, inWX2, tw_402⟩
theorem ft_X2_2 : kFT 2 2 (.array .int) true RX2 := ⟨RX2, TX2, 9, tyX2, rfl, tyX2_ok, nmX2, rfl, by decide +kernel, rfl⟩
theorem dX2_init_9 : decode cX2_init 9 = .ok (.putfield 9, 3) := by decide +kernel
theorem dX2_init_12 : decode cX2_init 12 = .ok (.aload_n 0, 1) := by decide +kernel
theorem dX2_init_13 : decode cX2_init 13 = .ok (.bipush 12, 2) := by decide +kernel
theorem dX2_init_15 : decode cX2_init 15 = .ok (.newarray .int, 2) := by decide +kernel
theorem tw_403 : (Jvm.Cond.fieldLink "MarshBells$GapSearch" (15 : Nat) "MarshBells$GapSearch" "found" "[I") ∈ lw_tbl := tk_2 (List.mem_of_getElem? (i := 163) rfl)
theorem fl_X2_15 : kFL RX2 15 2 9 3 := ⟨RX2, TX2, rfl, by decide, inWX2, tw_403⟩
theorem ft_X2_3 : kFT 2 3 (.array .int) true RX2 := ⟨RX2, TX2, 9, tyX2, rfl, tyX2_ok, nmX2, rfl, by decide +kernel, rfl⟩
theorem dX2_init_17 : decode cX2_init 17 = .ok (.putfield 15, 3) := by decide +kernel
theorem dX2_init_20 : decode cX2_init 20 = .ok (.aload_n 0, 1) := by decide +kernel
theorem dX2_init_21 : decode cX2_init 21 = .ok (.aload_n 1, 1) := by decide +kernel
theorem tw_400 : (Jvm.Cond.fieldLink "MarshBells$GapSearch" (18 : Nat) "MarshBells$GapSearch" "day" "LMarshBells$Day;") ∈ lw_tbl := tk_2 (List.mem_of_getElem? (i := 160) rfl)
theorem fl_X2_18 : kFL RX2 18 2 9 0 := ⟨RX2, TX2, rfl, by decide, inWX2, tw_400⟩
theorem ft_X2_0 : kFT 2 0 (.object "MarshBells$Day") true RX2 := ⟨RX2, TX2, 9, tyX2, rfl, tyX2_ok, nmX2, rfl, by decide +kernel, rfl⟩
theorem dX2_init_22 : decode cX2_init 22 = .ok (.putfield 18, 3) := by decide +kernel
theorem dX2_init_25 : decode cX2_init 25 = .ok (.aload_n 0, 1) := by decide +kernel
theorem dX2_init_26 : decode cX2_init 26 = .ok (.aload_n 1, 1) := by decide +kernel
theorem tw_298 : (Jvm.Cond.fieldLinkNest "MarshBells$GapSearch" (22 : Nat) "MarshBells$Day" "held" "LMarshBells$Held;" "MarshBells") ∈ lw_tbl := tk_2 (List.mem_of_getElem? (i := 58) rfl)
theorem fl_X2_22 : kFN RX2 22 1 10 0 := ⟨RX1, TX1, rfl, by decide, inWX1, tw_298⟩
theorem dX2_init_27 : decode cX2_init 27 = .ok (.getfield 22, 3) := by decide +kernel
theorem tw_401 : (Jvm.Cond.fieldLink "MarshBells$GapSearch" (28 : Nat) "MarshBells$GapSearch" "held" "LMarshBells$Held;") ∈ lw_tbl := tk_2 (List.mem_of_getElem? (i := 161) rfl)
theorem fl_X2_28 : kFL RX2 28 2 9 1 := ⟨RX2, TX2, rfl, by decide, inWX2, tw_401⟩
theorem ft_X2_1 : kFT 2 1 (.object "MarshBells$Held") true RX2 := ⟨RX2, TX2, 9, tyX2, rfl, tyX2_ok, nmX2, rfl, by decide +kernel, rfl⟩
theorem dX2_init_30 : decode cX2_init 30 = .ok (.putfield 28, 3) := by decide +kernel
theorem dX2_init_33 : decode cX2_init 33 = .ok (.return_, 1) := by decide +kernel
theorem dX0_init_0 : decode cX0_init 0 = .ok (.aload_n 0, 1) := by decide +kernel
theorem tw_434 : (Jvm.Cond.methodLink "MarshBells$Chances" (3 : Nat) ({ cls := "java/lang/Object", name := "<init>", desc := "()V" } : Jvm.MethodName)) ∈ lw_tbl := tk_2 (List.mem_of_getElem? (i := 194) rfl)
theorem dX0_init_1 : decode cX0_init 1 = .ok (.invokespecial 3, 3) := by decide +kernel
theorem dX0_init_4 : decode cX0_init 4 = .ok (.aload_n 0, 1) := by decide +kernel
theorem dX0_init_5 : decode cX0_init 5 = .ok (.bipush 8, 2) := by decide +kernel
theorem dX0_init_7 : decode cX0_init 7 = .ok (.newarray .int, 2) := by decide +kernel
theorem tw_444 : (Jvm.Cond.laysFinal "MarshBells$Chances" "MarshBells$Chances" "day" "LMarshBells$Day;") ∈ lw_tbl := tk_2 (List.mem_of_getElem? (i := 204) rfl)
theorem tw_446 : (Jvm.Cond.laysFinal "MarshBells$Chances" "MarshBells$Chances" "unsure" "[I") ∈ lw_tbl := tk_2 (List.mem_of_getElem? (i := 206) rfl)
theorem tw_448 : (Jvm.Cond.lays "MarshBells$Chances" "MarshBells$Chances" "many" "I") ∈ lw_tbl := tk_2 (List.mem_of_getElem? (i := 208) rfl)
theorem tw_450 : (Jvm.Cond.lays "MarshBells$Chances" "MarshBells$Chances" "never" "I") ∈ lw_tbl := tk_2 (List.mem_of_getElem? (i := 210) rfl)
theorem tw_452 : (Jvm.Cond.lays "MarshBells$Chances" "MarshBells$Chances" "seed" "I") ∈ lw_tbl := tk_2 (List.mem_of_getElem? (i := 212) rfl)
theorem tw_454 : (Jvm.Cond.lays "MarshBells$Chances" "MarshBells$Chances" "upper" "J") ∈ lw_tbl := tk_2 (List.mem_of_getElem? (i := 214) rfl)
theorem tw_456 : (Jvm.Cond.lays "MarshBells$Chances" "MarshBells$Chances" "lower" "J") ∈ lw_tbl := tk_2 (List.mem_of_getElem? (i := 216) rfl)
theorem inWX0 : ∀ w ∈ u_ws RX0 TX0 7, w ∈ lw_tbl := by
  have e : ∀ k, k < 7 → u_lay RX0 TX0 k ∈ lw_tbl := fun k hk => match k, hk with | 0, _ => tw_444 | 1, _ => tw_446 | 2, _ => tw_448 | 3, _ => tw_450 | 4, _ => tw_452 | 5, _ => tw_454 | 6, _ => tw_456 | k + 7, hk => absurd hk (by omega)
  intro w h
  obtain ⟨k, hk, rfl⟩ := List.mem_map.mp h
  exact e k (List.mem_range.mp hk)
theorem tw_436 : (Jvm.Cond.fieldLink "MarshBells$Chances" (9 : Nat) "MarshBells$Chances" "unsure" "[I") ∈ lw_tbl := tk_2 (List.mem_of_getElem? (i := 196) rfl)
theorem fl_X0_9 : kFL RX0 9 0 7 1 := ⟨RX0, TX0, rfl, by decide, inWX0, tw_436⟩
theorem ft_X0_1 : kFT 0 1 (.array .int) true RX0 := ⟨RX0, TX0, 7, tyX0, rfl, tyX0_ok, nmX0, rfl, by decide +kernel, rfl⟩
theorem dX0_init_9 : decode cX0_init 9 = .ok (.putfield 9, 3) := by decide +kernel
theorem dX0_init_12 : decode cX0_init 12 = .ok (.aload_n 0, 1) := by decide +kernel
theorem dX0_init_13 : decode cX0_init 13 = .ok (.aload_n 1, 1) := by decide +kernel
theorem tw_435 : (Jvm.Cond.fieldLink "MarshBells$Chances" (15 : Nat) "MarshBells$Chances" "day" "LMarshBells$Day;") ∈ lw_tbl := tk_2 (List.mem_of_getElem? (i := 195) rfl)
theorem fl_X0_15 : kFL RX0 15 0 7 0 := ⟨RX0, TX0, rfl, by decide, inWX0, tw_435⟩
theorem ft_X0_0 : kFT 0 0 (.object "MarshBells$Day") true RX0 := ⟨RX0, TX0, 7, tyX0, rfl, tyX0_ok, nmX0, rfl, by decide +kernel, rfl⟩
theorem dX0_init_14 : decode cX0_init 14 = .ok (.putfield 15, 3) := by decide +kernel
theorem dX0_init_17 : decode cX0_init 17 = .ok (.return_, 1) := by decide +kernel
theorem dX9_init_0 : decode cX9_init 0 = .ok (.aload_n 0, 1) := by decide +kernel
theorem tw_464 : (Jvm.Cond.methodLink "MarshBells$Stair" (3 : Nat) ({ cls := "java/lang/Object", name := "<init>", desc := "()V" } : Jvm.MethodName)) ∈ lw_tbl := tk_2 (List.mem_of_getElem? (i := 224) rfl)
theorem dX9_init_1 : decode cX9_init 1 = .ok (.invokespecial 3, 3) := by decide +kernel
theorem dX9_init_4 : decode cX9_init 4 = .ok (.aload_n 0, 1) := by decide +kernel
theorem dX9_init_5 : decode cX9_init 5 = .ok (.bipush 72, 2) := by decide +kernel
theorem dX9_init_7 : decode cX9_init 7 = .ok (.newarray .int, 2) := by decide +kernel
theorem tw_471 : (Jvm.Cond.laysFinal "MarshBells$Stair" "MarshBells$Stair" "day" "LMarshBells$Day;") ∈ lw_tbl := tk_2 (List.mem_of_getElem? (i := 231) rfl)
theorem tw_473 : (Jvm.Cond.laysFinal "MarshBells$Stair" "MarshBells$Stair" "starts" "[I") ∈ lw_tbl := tk_2 (List.mem_of_getElem? (i := 233) rfl)
theorem tw_475 : (Jvm.Cond.laysFinal "MarshBells$Stair" "MarshBells$Stair" "ends" "[I") ∈ lw_tbl := tk_2 (List.mem_of_getElem? (i := 235) rfl)
theorem tw_477 : (Jvm.Cond.laysFinal "MarshBells$Stair" "MarshBells$Stair" "people" "[I") ∈ lw_tbl := tk_2 (List.mem_of_getElem? (i := 237) rfl)
theorem tw_479 : (Jvm.Cond.laysFinal "MarshBells$Stair" "MarshBells$Stair" "up" "[Z") ∈ lw_tbl := tk_2 (List.mem_of_getElem? (i := 239) rfl)
theorem tw_481 : (Jvm.Cond.lays "MarshBells$Stair" "MarshBells$Stair" "ways" "I") ∈ lw_tbl := tk_3 (List.mem_of_getElem? (i := 1) rfl)
theorem inWX9 : ∀ w ∈ u_ws RX9 TX9 6, w ∈ lw_tbl := by
  have e : ∀ k, k < 6 → u_lay RX9 TX9 k ∈ lw_tbl := fun k hk => match k, hk with | 0, _ => tw_471 | 1, _ => tw_473 | 2, _ => tw_475 | 3, _ => tw_477 | 4, _ => tw_479 | 5, _ => tw_481 | k + 6, hk => absurd hk (by omega)
  intro w h
  obtain ⟨k, hk, rfl⟩ := List.mem_map.mp h
  exact e k (List.mem_range.mp hk)
theorem tw_466 : (Jvm.Cond.fieldLink "MarshBells$Stair" (9 : Nat) "MarshBells$Stair" "starts" "[I") ∈ lw_tbl := tk_2 (List.mem_of_getElem? (i := 226) rfl)
theorem fl_X9_9 : kFL RX9 9 9 6 1 := ⟨RX9, TX9, rfl, by decide, inWX9, tw_466⟩
theorem ft_X9_1 : kFT 9 1 (.array .int) true RX9 := ⟨RX9, TX9, 6, tyX9, rfl, tyX9_ok, nmX9, rfl, by decide +kernel, rfl⟩
theorem dX9_init_9 : decode cX9_init 9 = .ok (.putfield 9, 3) := by decide +kernel
theorem dX9_init_12 : decode cX9_init 12 = .ok (.aload_n 0, 1) := by decide +kernel
theorem dX9_init_13 : decode cX9_init 13 = .ok (.bipush 72, 2) := by decide +kernel
theorem dX9_init_15 : decode cX9_init 15 = .ok (.newarray .int, 2) := by decide +kernel
theorem tw_467 : (Jvm.Cond.fieldLink "MarshBells$Stair" (15 : Nat) "MarshBells$Stair" "ends" "[I") ∈ lw_tbl := tk_2 (List.mem_of_getElem? (i := 227) rfl)
theorem fl_X9_15 : kFL RX9 15 9 6 2 := ⟨RX9, TX9, rfl, by decide, inWX9, tw_467⟩
theorem ft_X9_2 : kFT 9 2 (.array .int) true RX9 := ⟨RX9, TX9, 6, tyX9, rfl, tyX9_ok, nmX9, rfl, by decide +kernel, rfl⟩
theorem dX9_init_17 : decode cX9_init 17 = .ok (.putfield 15, 3) := by decide +kernel
theorem dX9_init_20 : decode cX9_init 20 = .ok (.aload_n 0, 1) := by decide +kernel
theorem dX9_init_21 : decode cX9_init 21 = .ok (.bipush 72, 2) := by decide +kernel
theorem dX9_init_23 : decode cX9_init 23 = .ok (.newarray .int, 2) := by decide +kernel
theorem tw_468 : (Jvm.Cond.fieldLink "MarshBells$Stair" (18 : Nat) "MarshBells$Stair" "people" "[I") ∈ lw_tbl := tk_2 (List.mem_of_getElem? (i := 228) rfl)
theorem fl_X9_18 : kFL RX9 18 9 6 3 := ⟨RX9, TX9, rfl, by decide, inWX9, tw_468⟩
theorem ft_X9_3 : kFT 9 3 (.array .int) true RX9 := ⟨RX9, TX9, 6, tyX9, rfl, tyX9_ok, nmX9, rfl, by decide +kernel, rfl⟩
theorem dX9_init_25 : decode cX9_init 25 = .ok (.putfield 18, 3) := by decide +kernel
theorem dX9_init_28 : decode cX9_init 28 = .ok (.aload_n 0, 1) := by decide +kernel
theorem dX9_init_29 : decode cX9_init 29 = .ok (.bipush 72, 2) := by decide +kernel
theorem tw_484 : (Jvm.Cond.arrayClass Jvm.ClassFile.FieldType.boolean) ∈ lw_tbl := tk_3 (List.mem_of_getElem? (i := 4) rfl)
theorem dX9_init_31 : decode cX9_init 31 = .ok (.newarray .boolean, 2) := by decide +kernel
theorem tw_469 : (Jvm.Cond.fieldLink "MarshBells$Stair" (21 : Nat) "MarshBells$Stair" "up" "[Z") ∈ lw_tbl := tk_2 (List.mem_of_getElem? (i := 229) rfl)
theorem fl_X9_21 : kFL RX9 21 9 6 4 := ⟨RX9, TX9, rfl, by decide, inWX9, tw_469⟩
theorem ft_X9_4 : kFT 9 4 (.array .boolean) true RX9 := ⟨RX9, TX9, 6, tyX9, rfl, tyX9_ok, nmX9, rfl, by decide +kernel, rfl⟩
theorem dX9_init_33 : decode cX9_init 33 = .ok (.putfield 21, 3) := by decide +kernel
theorem dX9_init_36 : decode cX9_init 36 = .ok (.aload_n 0, 1) := by decide +kernel
theorem dX9_init_37 : decode cX9_init 37 = .ok (.aload_n 1, 1) := by decide +kernel
theorem tw_465 : (Jvm.Cond.fieldLink "MarshBells$Stair" (25 : Nat) "MarshBells$Stair" "day" "LMarshBells$Day;") ∈ lw_tbl := tk_2 (List.mem_of_getElem? (i := 225) rfl)
theorem fl_X9_25 : kFL RX9 25 9 6 0 := ⟨RX9, TX9, rfl, by decide, inWX9, tw_465⟩
theorem ft_X9_0 : kFT 9 0 (.object "MarshBells$Day") true RX9 := ⟨RX9, TX9, 6, tyX9, rfl, tyX9_ok, nmX9, rfl, by decide +kernel, rfl⟩
theorem dX9_init_38 : decode cX9_init 38 = .ok (.putfield 25, 3) := by decide +kernel
theorem dX9_init_41 : decode cX9_init 41 = .ok (.return_, 1) := by decide +kernel
set_option maxHeartbeats 4000000 in
set_option maxRecDepth 100000 in
theorem c_X5_init (l : Launch) (G : kG) (sz : Nat) (h0 : Nat) (Fh0 : Nat → Value) : kM l yX5_init cX5_init 1 none { frames := 6, cells := 1, slots := 6, locals := 110 } G [.ref h0] [(h0, .inr (5, ofL 14 Fh0))] sz (kQv G (S := (Nat → Nat)) (fun (_ : Nat → Nat) => True) (fun u => [(h0, .inr (5, ofL 14 (updV Fh0 0 (.ref (u 0))))), ((u 0), .inl (G.2.1, 6, .inl (fun _ => 0)))])) := by
  refine kM.of (by decide) (Nat.le_of_ble_eq_true rfl) ?_
  intro p e s m below meth c A ls H C hr hlk hnm hP hD hS hl
  have C : kC G p s m c cX5_init 1 RX5 A := C
  have hx := C.1
  have hb := C.2.1
  have hl : lv_has ls 1 [(0, .ref h0)] := hl
  refine lv_aload_n hx hb dX5_init_0 rfl (lv_at hl 0 rfl) ?_
  refine k_obj ⟨tw_72, tw_32, tw_33⟩ C hl.1 dX5_init_1 (Nat.le_of_ble_eq_true rfl) (Nat.le_of_ble_eq_true rfl) ?_
  refine lv_aload_n hx hb dX5_init_4 rfl (lv_at hl 0 rfl) ?_
  refine lv_bipush (v := 6) hx hb dX5_init_5 (by decide) ?_
  refine k_newI (N' := 6) tw_67 C hP hD hS (by decide) (by decide) (by decide) (Nat.le_of_ble_eq_true rfl) (Nat.le_of_ble_eq_true rfl) dX5_init_7 (fun qq1 H hP hD hS => ?_)
  have hP : va_P G.1 vwCl [(h0, .inr (5, ofL 14 Fh0)), (qq1, .inl (G.2.1, 6, .inl (fun _ => 0)))] H := hP
  have hD : va_D A [(h0, .inr (5, ofL 14 Fh0)), (qq1, .inl (G.2.1, 6, .inl (fun _ => 0)))] := hD
  refine k_putF fl_X5_9 ft_X5_0 C hnm hP hD hS 0 rfl rfl rfl dX5_init_9 (fun H locs hP hD hS => ?_)
  have hP : va_P G.1 vwCl [(h0, .inr (5, ofL 14 (updV Fh0 0 (.ref qq1)))), (qq1, .inl (G.2.1, 6, .inl (fun _ => 0)))] H := hP
  have hD : va_D A [(h0, .inr (5, ofL 14 (updV Fh0 0 (.ref qq1)))), (qq1, .inl (G.2.1, 6, .inl (fun _ => 0)))] := hD
  exact k_vret C hr hlk hP hD hS (fun k => match k with | 0 => qq1 | _ => 0) (trivial) [0, 1] rfl rfl (Nat.le_of_ble_eq_true rfl) (Nat.le_of_ble_eq_true rfl) dX5_init_12
set_option maxHeartbeats 4000000 in
set_option maxRecDepth 100000 in
theorem c_X4_init (l : Launch) (G : kG) (sz : Nat) (h0 : Nat) (Fh0 : Nat → Value) : kM l yX4_init cX4_init 1 none { frames := 6, cells := 0, slots := 0, locals := 110 } G [.ref h0] [(h0, .inr (4, ofL 3 Fh0))] sz (kQv G (S := Unit) (fun (_ : Unit) => True) (fun _ => [(h0, .inr (4, ofL 3 Fh0))])) := by
  refine kM.of (by decide) (Nat.le_of_ble_eq_true rfl) ?_
  intro p e s m below meth c A ls H C hr hlk hnm hP hD hS hl
  have C : kC G p s m c cX4_init 1 RX4 A := C
  have hx := C.1
  have hb := C.2.1
  have hl : lv_has ls 1 [(0, .ref h0)] := hl
  refine lv_aload_n hx hb dX4_init_0 rfl (lv_at hl 0 rfl) ?_
  refine k_obj ⟨tw_356, tw_32, tw_33⟩ C hl.1 dX4_init_1 (Nat.le_of_ble_eq_true rfl) (Nat.le_of_ble_eq_true rfl) ?_
  exact k_vret C hr hlk hP hD hS () (trivial) [0] rfl rfl (Nat.le_of_ble_eq_true rfl) (Nat.le_of_ble_eq_true rfl) dX4_init_4
set_option maxHeartbeats 4000000 in
set_option maxRecDepth 100000 in
theorem c_X8_init (l : Launch) (G : kG) (sz : Nat) (h0 : Nat) (Fh0 : Nat → Value) : kM l yX8_init cX8_init 1 none { frames := 6, cells := 3, slots := 769, locals := 110 } G [.ref h0] [(h0, .inr (8, ofL 5 Fh0))] sz (kQv G (S := (Nat → Nat)) (fun (_ : Nat → Nat) => True) (fun u => [(h0, .inr (8, ofL 5 (updV (updV (updV Fh0 0 (.ref (u 0))) 1 (.ref (u 1))) 2 (.ref (u 2))))), ((u 0), .inl (G.2.1, 700, .inl (fun _ => 0))), ((u 1), .inl (G.2.1, 5, .inl (fun _ => 0))), ((u 2), .inl (G.2.1, 64, .inl (fun _ => 0)))])) := by
  refine kM.of (by decide) (Nat.le_of_ble_eq_true rfl) ?_
  intro p e s m below meth c A ls H C hr hlk hnm hP hD hS hl
  have C : kC G p s m c cX8_init 1 RX8 A := C
  have hx := C.1
  have hb := C.2.1
  have hl : lv_has ls 1 [(0, .ref h0)] := hl
  refine lv_aload_n hx hb dX8_init_0 rfl (lv_at hl 0 rfl) ?_
  refine k_obj ⟨tw_47, tw_32, tw_33⟩ C hl.1 dX8_init_1 (Nat.le_of_ble_eq_true rfl) (Nat.le_of_ble_eq_true rfl) ?_
  refine lv_aload_n hx hb dX8_init_4 rfl (lv_at hl 0 rfl) ?_
  refine lv_sipush (v := 700) hx hb dX8_init_5 (by decide) ?_
  refine k_newI (N' := 700) tw_67 C hP hD hS (by decide) (by decide) (by decide) (Nat.le_of_ble_eq_true rfl) (Nat.le_of_ble_eq_true rfl) dX8_init_8 (fun qq1 H hP hD hS => ?_)
  have hP : va_P G.1 vwCl [(h0, .inr (8, ofL 5 Fh0)), (qq1, .inl (G.2.1, 700, .inl (fun _ => 0)))] H := hP
  have hD : va_D A [(h0, .inr (8, ofL 5 Fh0)), (qq1, .inl (G.2.1, 700, .inl (fun _ => 0)))] := hD
  refine k_putF fl_X8_9 ft_X8_0 C hnm hP hD hS 0 rfl rfl rfl dX8_init_10 (fun H locs hP hD hS => ?_)
  have hP : va_P G.1 vwCl [(h0, .inr (8, ofL 5 (updV Fh0 0 (.ref qq1)))), (qq1, .inl (G.2.1, 700, .inl (fun _ => 0)))] H := hP
  have hD : va_D A [(h0, .inr (8, ofL 5 (updV Fh0 0 (.ref qq1)))), (qq1, .inl (G.2.1, 700, .inl (fun _ => 0)))] := hD
  refine lv_aload_n hx hb dX8_init_13 rfl (lv_at hl 0 rfl) ?_
  refine lv_iconst (v := 5) hx hb dX8_init_14 (by decide) ?_
  refine k_newI (N' := 5) tw_67 C hP hD hS (by decide) (by decide) (by decide) (Nat.le_of_ble_eq_true rfl) (Nat.le_of_ble_eq_true rfl) dX8_init_15 (fun qq2 H hP hD hS => ?_)
  have hP : va_P G.1 vwCl [(h0, .inr (8, ofL 5 (updV Fh0 0 (.ref qq1)))), (qq1, .inl (G.2.1, 700, .inl (fun _ => 0))), (qq2, .inl (G.2.1, 5, .inl (fun _ => 0)))] H := hP
  have hD : va_D A [(h0, .inr (8, ofL 5 (updV Fh0 0 (.ref qq1)))), (qq1, .inl (G.2.1, 700, .inl (fun _ => 0))), (qq2, .inl (G.2.1, 5, .inl (fun _ => 0)))] := hD
  refine k_putF fl_X8_15 ft_X8_1 C hnm hP hD hS 0 rfl rfl rfl dX8_init_17 (fun H locs hP hD hS => ?_)
  have hP : va_P G.1 vwCl [(h0, .inr (8, ofL 5 (updV (updV Fh0 0 (.ref qq1)) 1 (.ref qq2)))), (qq1, .inl (G.2.1, 700, .inl (fun _ => 0))), (qq2, .inl (G.2.1, 5, .inl (fun _ => 0)))] H := hP
  have hD : va_D A [(h0, .inr (8, ofL 5 (updV (updV Fh0 0 (.ref qq1)) 1 (.ref qq2)))), (qq1, .inl (G.2.1, 700, .inl (fun _ => 0))), (qq2, .inl (G.2.1, 5, .inl (fun _ => 0)))] := hD
  refine lv_aload_n hx hb dX8_init_20 rfl (lv_at hl 0 rfl) ?_
  refine lv_bipush (v := 64) hx hb dX8_init_21 (by decide) ?_
  refine k_newI (N' := 64) tw_67 C hP hD hS (by decide) (by decide) (by decide) (Nat.le_of_ble_eq_true rfl) (Nat.le_of_ble_eq_true rfl) dX8_init_23 (fun qq3 H hP hD hS => ?_)
  have hP : va_P G.1 vwCl [(h0, .inr (8, ofL 5 (updV (updV Fh0 0 (.ref qq1)) 1 (.ref qq2)))), (qq1, .inl (G.2.1, 700, .inl (fun _ => 0))), (qq2, .inl (G.2.1, 5, .inl (fun _ => 0))), (qq3, .inl (G.2.1, 64, .inl (fun _ => 0)))] H := hP
  have hD : va_D A [(h0, .inr (8, ofL 5 (updV (updV Fh0 0 (.ref qq1)) 1 (.ref qq2)))), (qq1, .inl (G.2.1, 700, .inl (fun _ => 0))), (qq2, .inl (G.2.1, 5, .inl (fun _ => 0))), (qq3, .inl (G.2.1, 64, .inl (fun _ => 0)))] := hD
  refine k_putF fl_X8_18 ft_X8_2 C hnm hP hD hS 0 rfl rfl rfl dX8_init_25 (fun H locs hP hD hS => ?_)
  have hP : va_P G.1 vwCl [(h0, .inr (8, ofL 5 (updV (updV (updV Fh0 0 (.ref qq1)) 1 (.ref qq2)) 2 (.ref qq3)))), (qq1, .inl (G.2.1, 700, .inl (fun _ => 0))), (qq2, .inl (G.2.1, 5, .inl (fun _ => 0))), (qq3, .inl (G.2.1, 64, .inl (fun _ => 0)))] H := hP
  have hD : va_D A [(h0, .inr (8, ofL 5 (updV (updV (updV Fh0 0 (.ref qq1)) 1 (.ref qq2)) 2 (.ref qq3)))), (qq1, .inl (G.2.1, 700, .inl (fun _ => 0))), (qq2, .inl (G.2.1, 5, .inl (fun _ => 0))), (qq3, .inl (G.2.1, 64, .inl (fun _ => 0)))] := hD
  exact k_vret C hr hlk hP hD hS (fun k => match k with | 0 => qq1 | 1 => qq2 | 2 => qq3 | _ => 0) (trivial) [0, 1, 2, 3] rfl rfl (Nat.le_of_ble_eq_true rfl) (Nat.le_of_ble_eq_true rfl) dX8_init_28
set_option maxHeartbeats 4000000 in
set_option maxRecDepth 100000 in
theorem c_X3_init (l : Launch) (G : kG) (sz : Nat) (h0 : Nat) (Fh0 : Nat → Value) : kM l yX3_init cX3_init 1 none { frames := 6, cells := 9, slots := 184, locals := 110 } G [.ref h0] [(h0, .inr (3, ofL 12 Fh0))] sz (kQv G (S := (Nat → Nat)) (fun (_ : Nat → Nat) => True) (fun u => [(h0, .inr (3, ofL 12 (updV (updV (updV (updV (updV (updV (updV (updV (updV (updV (updV (updV Fh0 0 (.ref (u 0))) 1 (.ref (u 1))) 2 (.ref (u 2))) 3 (.ref (u 3))) 4 (.ref (u 4))) 5 (.ref (u 5))) 6 (.ref (u 6))) 7 (.ref (u 7))) 8 (.ref (u 8))) 9 (.int 0)) 10 (.int 0)) 11 (.int (-1))))), ((u 0), .inl (G.2.1, 12, .inl (fun _ => 0))), ((u 1), .inl (G.2.1, 12, .inl (fun _ => 0))), ((u 2), .inl (G.2.1, 12, .inl (fun _ => 0))), ((u 3), .inl (G.2.1, 12, .inl (fun _ => 0))), ((u 4), .inl (G.2.1, 40, .inl (fun _ => 0))), ((u 5), .inl (G.2.1, 40, .inl (fun _ => 0))), ((u 6), .inl (G.2.1, 40, .inl (fun _ => 0))), ((u 7), .inl (G.2.1, 8, .inl (fun _ => 0))), ((u 8), .inl (G.2.1, 8, .inl (fun _ => 0)))])) := by
  refine kM.of (by decide) (Nat.le_of_ble_eq_true rfl) ?_
  intro p e s m below meth c A ls H C hr hlk hnm hP hD hS hl
  have C : kC G p s m c cX3_init 1 RX3 A := C
  have hx := C.1
  have hb := C.2.1
  have hl : lv_has ls 1 [(0, .ref h0)] := hl
  refine lv_aload_n hx hb dX3_init_0 rfl (lv_at hl 0 rfl) ?_
  refine k_obj ⟨tw_235, tw_32, tw_33⟩ C hl.1 dX3_init_1 (Nat.le_of_ble_eq_true rfl) (Nat.le_of_ble_eq_true rfl) ?_
  refine lv_aload_n hx hb dX3_init_4 rfl (lv_at hl 0 rfl) ?_
  refine lv_bipush (v := 12) hx hb dX3_init_5 (by decide) ?_
  refine k_newI (N' := 12) tw_67 C hP hD hS (by decide) (by decide) (by decide) (Nat.le_of_ble_eq_true rfl) (Nat.le_of_ble_eq_true rfl) dX3_init_7 (fun qq1 H hP hD hS => ?_)
  have hP : va_P G.1 vwCl [(h0, .inr (3, ofL 12 Fh0)), (qq1, .inl (G.2.1, 12, .inl (fun _ => 0)))] H := hP
  have hD : va_D A [(h0, .inr (3, ofL 12 Fh0)), (qq1, .inl (G.2.1, 12, .inl (fun _ => 0)))] := hD
  refine k_putF fl_X3_9 ft_X3_0 C hnm hP hD hS 0 rfl rfl rfl dX3_init_9 (fun H locs hP hD hS => ?_)
  have hP : va_P G.1 vwCl [(h0, .inr (3, ofL 12 (updV Fh0 0 (.ref qq1)))), (qq1, .inl (G.2.1, 12, .inl (fun _ => 0)))] H := hP
  have hD : va_D A [(h0, .inr (3, ofL 12 (updV Fh0 0 (.ref qq1)))), (qq1, .inl (G.2.1, 12, .inl (fun _ => 0)))] := hD
  refine lv_aload_n hx hb dX3_init_12 rfl (lv_at hl 0 rfl) ?_
  refine lv_bipush (v := 12) hx hb dX3_init_13 (by decide) ?_
  refine k_newI (N' := 12) tw_67 C hP hD hS (by decide) (by decide) (by decide) (Nat.le_of_ble_eq_true rfl) (Nat.le_of_ble_eq_true rfl) dX3_init_15 (fun qq2 H hP hD hS => ?_)
  have hP : va_P G.1 vwCl [(h0, .inr (3, ofL 12 (updV Fh0 0 (.ref qq1)))), (qq1, .inl (G.2.1, 12, .inl (fun _ => 0))), (qq2, .inl (G.2.1, 12, .inl (fun _ => 0)))] H := hP
  have hD : va_D A [(h0, .inr (3, ofL 12 (updV Fh0 0 (.ref qq1)))), (qq1, .inl (G.2.1, 12, .inl (fun _ => 0))), (qq2, .inl (G.2.1, 12, .inl (fun _ => 0)))] := hD
  refine k_putF fl_X3_15 ft_X3_1 C hnm hP hD hS 0 rfl rfl rfl dX3_init_17 (fun H locs hP hD hS => ?_)
  have hP : va_P G.1 vwCl [(h0, .inr (3, ofL 12 (updV (updV Fh0 0 (.ref qq1)) 1 (.ref qq2)))), (qq1, .inl (G.2.1, 12, .inl (fun _ => 0))), (qq2, .inl (G.2.1, 12, .inl (fun _ => 0)))] H := hP
  have hD : va_D A [(h0, .inr (3, ofL 12 (updV (updV Fh0 0 (.ref qq1)) 1 (.ref qq2)))), (qq1, .inl (G.2.1, 12, .inl (fun _ => 0))), (qq2, .inl (G.2.1, 12, .inl (fun _ => 0)))] := hD
  refine lv_aload_n hx hb dX3_init_20 rfl (lv_at hl 0 rfl) ?_
  refine lv_bipush (v := 12) hx hb dX3_init_21 (by decide) ?_
  refine k_newI (N' := 12) tw_67 C hP hD hS (by decide) (by decide) (by decide) (Nat.le_of_ble_eq_true rfl) (Nat.le_of_ble_eq_true rfl) dX3_init_23 (fun qq3 H hP hD hS => ?_)
  have hP : va_P G.1 vwCl [(h0, .inr (3, ofL 12 (updV (updV Fh0 0 (.ref qq1)) 1 (.ref qq2)))), (qq1, .inl (G.2.1, 12, .inl (fun _ => 0))), (qq2, .inl (G.2.1, 12, .inl (fun _ => 0))), (qq3, .inl (G.2.1, 12, .inl (fun _ => 0)))] H := hP
  have hD : va_D A [(h0, .inr (3, ofL 12 (updV (updV Fh0 0 (.ref qq1)) 1 (.ref qq2)))), (qq1, .inl (G.2.1, 12, .inl (fun _ => 0))), (qq2, .inl (G.2.1, 12, .inl (fun _ => 0))), (qq3, .inl (G.2.1, 12, .inl (fun _ => 0)))] := hD
  refine k_putF fl_X3_18 ft_X3_2 C hnm hP hD hS 0 rfl rfl rfl dX3_init_25 (fun H locs hP hD hS => ?_)
  have hP : va_P G.1 vwCl [(h0, .inr (3, ofL 12 (updV (updV (updV Fh0 0 (.ref qq1)) 1 (.ref qq2)) 2 (.ref qq3)))), (qq1, .inl (G.2.1, 12, .inl (fun _ => 0))), (qq2, .inl (G.2.1, 12, .inl (fun _ => 0))), (qq3, .inl (G.2.1, 12, .inl (fun _ => 0)))] H := hP
  have hD : va_D A [(h0, .inr (3, ofL 12 (updV (updV (updV Fh0 0 (.ref qq1)) 1 (.ref qq2)) 2 (.ref qq3)))), (qq1, .inl (G.2.1, 12, .inl (fun _ => 0))), (qq2, .inl (G.2.1, 12, .inl (fun _ => 0))), (qq3, .inl (G.2.1, 12, .inl (fun _ => 0)))] := hD
  refine lv_aload_n hx hb dX3_init_28 rfl (lv_at hl 0 rfl) ?_
  refine lv_bipush (v := 12) hx hb dX3_init_29 (by decide) ?_
  refine k_newI (N' := 12) tw_67 C hP hD hS (by decide) (by decide) (by decide) (Nat.le_of_ble_eq_true rfl) (Nat.le_of_ble_eq_true rfl) dX3_init_31 (fun qq4 H hP hD hS => ?_)
  have hP : va_P G.1 vwCl [(h0, .inr (3, ofL 12 (updV (updV (updV Fh0 0 (.ref qq1)) 1 (.ref qq2)) 2 (.ref qq3)))), (qq1, .inl (G.2.1, 12, .inl (fun _ => 0))), (qq2, .inl (G.2.1, 12, .inl (fun _ => 0))), (qq3, .inl (G.2.1, 12, .inl (fun _ => 0))), (qq4, .inl (G.2.1, 12, .inl (fun _ => 0)))] H := hP
  have hD : va_D A [(h0, .inr (3, ofL 12 (updV (updV (updV Fh0 0 (.ref qq1)) 1 (.ref qq2)) 2 (.ref qq3)))), (qq1, .inl (G.2.1, 12, .inl (fun _ => 0))), (qq2, .inl (G.2.1, 12, .inl (fun _ => 0))), (qq3, .inl (G.2.1, 12, .inl (fun _ => 0))), (qq4, .inl (G.2.1, 12, .inl (fun _ => 0)))] := hD
  refine k_putF fl_X3_21 ft_X3_3 C hnm hP hD hS 0 rfl rfl rfl dX3_init_33 (fun H locs hP hD hS => ?_)
  have hP : va_P G.1 vwCl [(h0, .inr (3, ofL 12 (updV (updV (updV (updV Fh0 0 (.ref qq1)) 1 (.ref qq2)) 2 (.ref qq3)) 3 (.ref qq4)))), (qq1, .inl (G.2.1, 12, .inl (fun _ => 0))), (qq2, .inl (G.2.1, 12, .inl (fun _ => 0))), (qq3, .inl (G.2.1, 12, .inl (fun _ => 0))), (qq4, .inl (G.2.1, 12, .inl (fun _ => 0)))] H := hP
  have hD : va_D A [(h0, .inr (3, ofL 12 (updV (updV (updV (updV Fh0 0 (.ref qq1)) 1 (.ref qq2)) 2 (.ref qq3)) 3 (.ref qq4)))), (qq1, .inl (G.2.1, 12, .inl (fun _ => 0))), (qq2, .inl (G.2.1, 12, .inl (fun _ => 0))), (qq3, .inl (G.2.1, 12, .inl (fun _ => 0))), (qq4, .inl (G.2.1, 12, .inl (fun _ => 0)))] := hD
  refine lv_aload_n hx hb dX3_init_36 rfl (lv_at hl 0 rfl) ?_
  refine lv_bipush (v := 40) hx hb dX3_init_37 (by decide) ?_
  refine k_newI (N' := 40) tw_67 C hP hD hS (by decide) (by decide) (by decide) (Nat.le_of_ble_eq_true rfl) (Nat.le_of_ble_eq_true rfl) dX3_init_39 (fun qq5 H hP hD hS => ?_)
  have hP : va_P G.1 vwCl [(h0, .inr (3, ofL 12 (updV (updV (updV (updV Fh0 0 (.ref qq1)) 1 (.ref qq2)) 2 (.ref qq3)) 3 (.ref qq4)))), (qq1, .inl (G.2.1, 12, .inl (fun _ => 0))), (qq2, .inl (G.2.1, 12, .inl (fun _ => 0))), (qq3, .inl (G.2.1, 12, .inl (fun _ => 0))), (qq4, .inl (G.2.1, 12, .inl (fun _ => 0))), (qq5, .inl (G.2.1, 40, .inl (fun _ => 0)))] H := hP
  have hD : va_D A [(h0, .inr (3, ofL 12 (updV (updV (updV (updV Fh0 0 (.ref qq1)) 1 (.ref qq2)) 2 (.ref qq3)) 3 (.ref qq4)))), (qq1, .inl (G.2.1, 12, .inl (fun _ => 0))), (qq2, .inl (G.2.1, 12, .inl (fun _ => 0))), (qq3, .inl (G.2.1, 12, .inl (fun _ => 0))), (qq4, .inl (G.2.1, 12, .inl (fun _ => 0))), (qq5, .inl (G.2.1, 40, .inl (fun _ => 0)))] := hD
  refine k_putF fl_X3_24 ft_X3_4 C hnm hP hD hS 0 rfl rfl rfl dX3_init_41 (fun H locs hP hD hS => ?_)
  have hP : va_P G.1 vwCl [(h0, .inr (3, ofL 12 (updV (updV (updV (updV (updV Fh0 0 (.ref qq1)) 1 (.ref qq2)) 2 (.ref qq3)) 3 (.ref qq4)) 4 (.ref qq5)))), (qq1, .inl (G.2.1, 12, .inl (fun _ => 0))), (qq2, .inl (G.2.1, 12, .inl (fun _ => 0))), (qq3, .inl (G.2.1, 12, .inl (fun _ => 0))), (qq4, .inl (G.2.1, 12, .inl (fun _ => 0))), (qq5, .inl (G.2.1, 40, .inl (fun _ => 0)))] H := hP
  have hD : va_D A [(h0, .inr (3, ofL 12 (updV (updV (updV (updV (updV Fh0 0 (.ref qq1)) 1 (.ref qq2)) 2 (.ref qq3)) 3 (.ref qq4)) 4 (.ref qq5)))), (qq1, .inl (G.2.1, 12, .inl (fun _ => 0))), (qq2, .inl (G.2.1, 12, .inl (fun _ => 0))), (qq3, .inl (G.2.1, 12, .inl (fun _ => 0))), (qq4, .inl (G.2.1, 12, .inl (fun _ => 0))), (qq5, .inl (G.2.1, 40, .inl (fun _ => 0)))] := hD
  refine lv_aload_n hx hb dX3_init_44 rfl (lv_at hl 0 rfl) ?_
  refine lv_bipush (v := 40) hx hb dX3_init_45 (by decide) ?_
  refine k_newI (N' := 40) tw_67 C hP hD hS (by decide) (by decide) (by decide) (Nat.le_of_ble_eq_true rfl) (Nat.le_of_ble_eq_true rfl) dX3_init_47 (fun qq6 H hP hD hS => ?_)
  have hP : va_P G.1 vwCl [(h0, .inr (3, ofL 12 (updV (updV (updV (updV (updV Fh0 0 (.ref qq1)) 1 (.ref qq2)) 2 (.ref qq3)) 3 (.ref qq4)) 4 (.ref qq5)))), (qq1, .inl (G.2.1, 12, .inl (fun _ => 0))), (qq2, .inl (G.2.1, 12, .inl (fun _ => 0))), (qq3, .inl (G.2.1, 12, .inl (fun _ => 0))), (qq4, .inl (G.2.1, 12, .inl (fun _ => 0))), (qq5, .inl (G.2.1, 40, .inl (fun _ => 0))), (qq6, .inl (G.2.1, 40, .inl (fun _ => 0)))] H := hP
  have hD : va_D A [(h0, .inr (3, ofL 12 (updV (updV (updV (updV (updV Fh0 0 (.ref qq1)) 1 (.ref qq2)) 2 (.ref qq3)) 3 (.ref qq4)) 4 (.ref qq5)))), (qq1, .inl (G.2.1, 12, .inl (fun _ => 0))), (qq2, .inl (G.2.1, 12, .inl (fun _ => 0))), (qq3, .inl (G.2.1, 12, .inl (fun _ => 0))), (qq4, .inl (G.2.1, 12, .inl (fun _ => 0))), (qq5, .inl (G.2.1, 40, .inl (fun _ => 0))), (qq6, .inl (G.2.1, 40, .inl (fun _ => 0)))] := hD
  refine k_putF fl_X3_27 ft_X3_5 C hnm hP hD hS 0 rfl rfl rfl dX3_init_49 (fun H locs hP hD hS => ?_)
  have hP : va_P G.1 vwCl [(h0, .inr (3, ofL 12 (updV (updV (updV (updV (updV (updV Fh0 0 (.ref qq1)) 1 (.ref qq2)) 2 (.ref qq3)) 3 (.ref qq4)) 4 (.ref qq5)) 5 (.ref qq6)))), (qq1, .inl (G.2.1, 12, .inl (fun _ => 0))), (qq2, .inl (G.2.1, 12, .inl (fun _ => 0))), (qq3, .inl (G.2.1, 12, .inl (fun _ => 0))), (qq4, .inl (G.2.1, 12, .inl (fun _ => 0))), (qq5, .inl (G.2.1, 40, .inl (fun _ => 0))), (qq6, .inl (G.2.1, 40, .inl (fun _ => 0)))] H := hP
  have hD : va_D A [(h0, .inr (3, ofL 12 (updV (updV (updV (updV (updV (updV Fh0 0 (.ref qq1)) 1 (.ref qq2)) 2 (.ref qq3)) 3 (.ref qq4)) 4 (.ref qq5)) 5 (.ref qq6)))), (qq1, .inl (G.2.1, 12, .inl (fun _ => 0))), (qq2, .inl (G.2.1, 12, .inl (fun _ => 0))), (qq3, .inl (G.2.1, 12, .inl (fun _ => 0))), (qq4, .inl (G.2.1, 12, .inl (fun _ => 0))), (qq5, .inl (G.2.1, 40, .inl (fun _ => 0))), (qq6, .inl (G.2.1, 40, .inl (fun _ => 0)))] := hD
  refine lv_aload_n hx hb dX3_init_52 rfl (lv_at hl 0 rfl) ?_
  refine lv_bipush (v := 40) hx hb dX3_init_53 (by decide) ?_
  refine k_newI (N' := 40) tw_67 C hP hD hS (by decide) (by decide) (by decide) (Nat.le_of_ble_eq_true rfl) (Nat.le_of_ble_eq_true rfl) dX3_init_55 (fun qq7 H hP hD hS => ?_)
  have hP : va_P G.1 vwCl [(h0, .inr (3, ofL 12 (updV (updV (updV (updV (updV (updV Fh0 0 (.ref qq1)) 1 (.ref qq2)) 2 (.ref qq3)) 3 (.ref qq4)) 4 (.ref qq5)) 5 (.ref qq6)))), (qq1, .inl (G.2.1, 12, .inl (fun _ => 0))), (qq2, .inl (G.2.1, 12, .inl (fun _ => 0))), (qq3, .inl (G.2.1, 12, .inl (fun _ => 0))), (qq4, .inl (G.2.1, 12, .inl (fun _ => 0))), (qq5, .inl (G.2.1, 40, .inl (fun _ => 0))), (qq6, .inl (G.2.1, 40, .inl (fun _ => 0))), (qq7, .inl (G.2.1, 40, .inl (fun _ => 0)))] H := hP
  have hD : va_D A [(h0, .inr (3, ofL 12 (updV (updV (updV (updV (updV (updV Fh0 0 (.ref qq1)) 1 (.ref qq2)) 2 (.ref qq3)) 3 (.ref qq4)) 4 (.ref qq5)) 5 (.ref qq6)))), (qq1, .inl (G.2.1, 12, .inl (fun _ => 0))), (qq2, .inl (G.2.1, 12, .inl (fun _ => 0))), (qq3, .inl (G.2.1, 12, .inl (fun _ => 0))), (qq4, .inl (G.2.1, 12, .inl (fun _ => 0))), (qq5, .inl (G.2.1, 40, .inl (fun _ => 0))), (qq6, .inl (G.2.1, 40, .inl (fun _ => 0))), (qq7, .inl (G.2.1, 40, .inl (fun _ => 0)))] := hD
  refine k_putF fl_X3_30 ft_X3_6 C hnm hP hD hS 0 rfl rfl rfl dX3_init_57 (fun H locs hP hD hS => ?_)
  have hP : va_P G.1 vwCl [(h0, .inr (3, ofL 12 (updV (updV (updV (updV (updV (updV (updV Fh0 0 (.ref qq1)) 1 (.ref qq2)) 2 (.ref qq3)) 3 (.ref qq4)) 4 (.ref qq5)) 5 (.ref qq6)) 6 (.ref qq7)))), (qq1, .inl (G.2.1, 12, .inl (fun _ => 0))), (qq2, .inl (G.2.1, 12, .inl (fun _ => 0))), (qq3, .inl (G.2.1, 12, .inl (fun _ => 0))), (qq4, .inl (G.2.1, 12, .inl (fun _ => 0))), (qq5, .inl (G.2.1, 40, .inl (fun _ => 0))), (qq6, .inl (G.2.1, 40, .inl (fun _ => 0))), (qq7, .inl (G.2.1, 40, .inl (fun _ => 0)))] H := hP
  have hD : va_D A [(h0, .inr (3, ofL 12 (updV (updV (updV (updV (updV (updV (updV Fh0 0 (.ref qq1)) 1 (.ref qq2)) 2 (.ref qq3)) 3 (.ref qq4)) 4 (.ref qq5)) 5 (.ref qq6)) 6 (.ref qq7)))), (qq1, .inl (G.2.1, 12, .inl (fun _ => 0))), (qq2, .inl (G.2.1, 12, .inl (fun _ => 0))), (qq3, .inl (G.2.1, 12, .inl (fun _ => 0))), (qq4, .inl (G.2.1, 12, .inl (fun _ => 0))), (qq5, .inl (G.2.1, 40, .inl (fun _ => 0))), (qq6, .inl (G.2.1, 40, .inl (fun _ => 0))), (qq7, .inl (G.2.1, 40, .inl (fun _ => 0)))] := hD
  refine lv_aload_n hx hb dX3_init_60 rfl (lv_at hl 0 rfl) ?_
  refine lv_bipush (v := 8) hx hb dX3_init_61 (by decide) ?_
  refine k_newI (N' := 8) tw_67 C hP hD hS (by decide) (by decide) (by decide) (Nat.le_of_ble_eq_true rfl) (Nat.le_of_ble_eq_true rfl) dX3_init_63 (fun qq8 H hP hD hS => ?_)
  have hP : va_P G.1 vwCl [(h0, .inr (3, ofL 12 (updV (updV (updV (updV (updV (updV (updV Fh0 0 (.ref qq1)) 1 (.ref qq2)) 2 (.ref qq3)) 3 (.ref qq4)) 4 (.ref qq5)) 5 (.ref qq6)) 6 (.ref qq7)))), (qq1, .inl (G.2.1, 12, .inl (fun _ => 0))), (qq2, .inl (G.2.1, 12, .inl (fun _ => 0))), (qq3, .inl (G.2.1, 12, .inl (fun _ => 0))), (qq4, .inl (G.2.1, 12, .inl (fun _ => 0))), (qq5, .inl (G.2.1, 40, .inl (fun _ => 0))), (qq6, .inl (G.2.1, 40, .inl (fun _ => 0))), (qq7, .inl (G.2.1, 40, .inl (fun _ => 0))), (qq8, .inl (G.2.1, 8, .inl (fun _ => 0)))] H := hP
  have hD : va_D A [(h0, .inr (3, ofL 12 (updV (updV (updV (updV (updV (updV (updV Fh0 0 (.ref qq1)) 1 (.ref qq2)) 2 (.ref qq3)) 3 (.ref qq4)) 4 (.ref qq5)) 5 (.ref qq6)) 6 (.ref qq7)))), (qq1, .inl (G.2.1, 12, .inl (fun _ => 0))), (qq2, .inl (G.2.1, 12, .inl (fun _ => 0))), (qq3, .inl (G.2.1, 12, .inl (fun _ => 0))), (qq4, .inl (G.2.1, 12, .inl (fun _ => 0))), (qq5, .inl (G.2.1, 40, .inl (fun _ => 0))), (qq6, .inl (G.2.1, 40, .inl (fun _ => 0))), (qq7, .inl (G.2.1, 40, .inl (fun _ => 0))), (qq8, .inl (G.2.1, 8, .inl (fun _ => 0)))] := hD
  refine k_putF fl_X3_33 ft_X3_7 C hnm hP hD hS 0 rfl rfl rfl dX3_init_65 (fun H locs hP hD hS => ?_)
  have hP : va_P G.1 vwCl [(h0, .inr (3, ofL 12 (updV (updV (updV (updV (updV (updV (updV (updV Fh0 0 (.ref qq1)) 1 (.ref qq2)) 2 (.ref qq3)) 3 (.ref qq4)) 4 (.ref qq5)) 5 (.ref qq6)) 6 (.ref qq7)) 7 (.ref qq8)))), (qq1, .inl (G.2.1, 12, .inl (fun _ => 0))), (qq2, .inl (G.2.1, 12, .inl (fun _ => 0))), (qq3, .inl (G.2.1, 12, .inl (fun _ => 0))), (qq4, .inl (G.2.1, 12, .inl (fun _ => 0))), (qq5, .inl (G.2.1, 40, .inl (fun _ => 0))), (qq6, .inl (G.2.1, 40, .inl (fun _ => 0))), (qq7, .inl (G.2.1, 40, .inl (fun _ => 0))), (qq8, .inl (G.2.1, 8, .inl (fun _ => 0)))] H := hP
  have hD : va_D A [(h0, .inr (3, ofL 12 (updV (updV (updV (updV (updV (updV (updV (updV Fh0 0 (.ref qq1)) 1 (.ref qq2)) 2 (.ref qq3)) 3 (.ref qq4)) 4 (.ref qq5)) 5 (.ref qq6)) 6 (.ref qq7)) 7 (.ref qq8)))), (qq1, .inl (G.2.1, 12, .inl (fun _ => 0))), (qq2, .inl (G.2.1, 12, .inl (fun _ => 0))), (qq3, .inl (G.2.1, 12, .inl (fun _ => 0))), (qq4, .inl (G.2.1, 12, .inl (fun _ => 0))), (qq5, .inl (G.2.1, 40, .inl (fun _ => 0))), (qq6, .inl (G.2.1, 40, .inl (fun _ => 0))), (qq7, .inl (G.2.1, 40, .inl (fun _ => 0))), (qq8, .inl (G.2.1, 8, .inl (fun _ => 0)))] := hD
  refine lv_aload_n hx hb dX3_init_68 rfl (lv_at hl 0 rfl) ?_
  refine lv_bipush (v := 8) hx hb dX3_init_69 (by decide) ?_
  refine k_newI (N' := 8) tw_67 C hP hD hS (by decide) (by decide) (by decide) (Nat.le_of_ble_eq_true rfl) (Nat.le_of_ble_eq_true rfl) dX3_init_71 (fun qq9 H hP hD hS => ?_)
  have hP : va_P G.1 vwCl [(h0, .inr (3, ofL 12 (updV (updV (updV (updV (updV (updV (updV (updV Fh0 0 (.ref qq1)) 1 (.ref qq2)) 2 (.ref qq3)) 3 (.ref qq4)) 4 (.ref qq5)) 5 (.ref qq6)) 6 (.ref qq7)) 7 (.ref qq8)))), (qq1, .inl (G.2.1, 12, .inl (fun _ => 0))), (qq2, .inl (G.2.1, 12, .inl (fun _ => 0))), (qq3, .inl (G.2.1, 12, .inl (fun _ => 0))), (qq4, .inl (G.2.1, 12, .inl (fun _ => 0))), (qq5, .inl (G.2.1, 40, .inl (fun _ => 0))), (qq6, .inl (G.2.1, 40, .inl (fun _ => 0))), (qq7, .inl (G.2.1, 40, .inl (fun _ => 0))), (qq8, .inl (G.2.1, 8, .inl (fun _ => 0))), (qq9, .inl (G.2.1, 8, .inl (fun _ => 0)))] H := hP
  have hD : va_D A [(h0, .inr (3, ofL 12 (updV (updV (updV (updV (updV (updV (updV (updV Fh0 0 (.ref qq1)) 1 (.ref qq2)) 2 (.ref qq3)) 3 (.ref qq4)) 4 (.ref qq5)) 5 (.ref qq6)) 6 (.ref qq7)) 7 (.ref qq8)))), (qq1, .inl (G.2.1, 12, .inl (fun _ => 0))), (qq2, .inl (G.2.1, 12, .inl (fun _ => 0))), (qq3, .inl (G.2.1, 12, .inl (fun _ => 0))), (qq4, .inl (G.2.1, 12, .inl (fun _ => 0))), (qq5, .inl (G.2.1, 40, .inl (fun _ => 0))), (qq6, .inl (G.2.1, 40, .inl (fun _ => 0))), (qq7, .inl (G.2.1, 40, .inl (fun _ => 0))), (qq8, .inl (G.2.1, 8, .inl (fun _ => 0))), (qq9, .inl (G.2.1, 8, .inl (fun _ => 0)))] := hD
  refine k_putF fl_X3_36 ft_X3_8 C hnm hP hD hS 0 rfl rfl rfl dX3_init_73 (fun H locs hP hD hS => ?_)
  have hP : va_P G.1 vwCl [(h0, .inr (3, ofL 12 (updV (updV (updV (updV (updV (updV (updV (updV (updV Fh0 0 (.ref qq1)) 1 (.ref qq2)) 2 (.ref qq3)) 3 (.ref qq4)) 4 (.ref qq5)) 5 (.ref qq6)) 6 (.ref qq7)) 7 (.ref qq8)) 8 (.ref qq9)))), (qq1, .inl (G.2.1, 12, .inl (fun _ => 0))), (qq2, .inl (G.2.1, 12, .inl (fun _ => 0))), (qq3, .inl (G.2.1, 12, .inl (fun _ => 0))), (qq4, .inl (G.2.1, 12, .inl (fun _ => 0))), (qq5, .inl (G.2.1, 40, .inl (fun _ => 0))), (qq6, .inl (G.2.1, 40, .inl (fun _ => 0))), (qq7, .inl (G.2.1, 40, .inl (fun _ => 0))), (qq8, .inl (G.2.1, 8, .inl (fun _ => 0))), (qq9, .inl (G.2.1, 8, .inl (fun _ => 0)))] H := hP
  have hD : va_D A [(h0, .inr (3, ofL 12 (updV (updV (updV (updV (updV (updV (updV (updV (updV Fh0 0 (.ref qq1)) 1 (.ref qq2)) 2 (.ref qq3)) 3 (.ref qq4)) 4 (.ref qq5)) 5 (.ref qq6)) 6 (.ref qq7)) 7 (.ref qq8)) 8 (.ref qq9)))), (qq1, .inl (G.2.1, 12, .inl (fun _ => 0))), (qq2, .inl (G.2.1, 12, .inl (fun _ => 0))), (qq3, .inl (G.2.1, 12, .inl (fun _ => 0))), (qq4, .inl (G.2.1, 12, .inl (fun _ => 0))), (qq5, .inl (G.2.1, 40, .inl (fun _ => 0))), (qq6, .inl (G.2.1, 40, .inl (fun _ => 0))), (qq7, .inl (G.2.1, 40, .inl (fun _ => 0))), (qq8, .inl (G.2.1, 8, .inl (fun _ => 0))), (qq9, .inl (G.2.1, 8, .inl (fun _ => 0)))] := hD
  refine lv_aload_n hx hb dX3_init_76 rfl (lv_at hl 0 rfl) ?_
  refine lv_iconst (v := 0) hx hb dX3_init_77 (by decide) ?_
  refine k_put fl_X3_39 ft_X3_9 C hP hD hS 0 rfl rfl rfl dX3_init_78 (fun H locs hP hD hS => ?_)
  have hP : va_P G.1 vwCl [(h0, .inr (3, ofL 12 (updV (updV (updV (updV (updV (updV (updV (updV (updV (updV Fh0 0 (.ref qq1)) 1 (.ref qq2)) 2 (.ref qq3)) 3 (.ref qq4)) 4 (.ref qq5)) 5 (.ref qq6)) 6 (.ref qq7)) 7 (.ref qq8)) 8 (.ref qq9)) 9 (.int 0)))), (qq1, .inl (G.2.1, 12, .inl (fun _ => 0))), (qq2, .inl (G.2.1, 12, .inl (fun _ => 0))), (qq3, .inl (G.2.1, 12, .inl (fun _ => 0))), (qq4, .inl (G.2.1, 12, .inl (fun _ => 0))), (qq5, .inl (G.2.1, 40, .inl (fun _ => 0))), (qq6, .inl (G.2.1, 40, .inl (fun _ => 0))), (qq7, .inl (G.2.1, 40, .inl (fun _ => 0))), (qq8, .inl (G.2.1, 8, .inl (fun _ => 0))), (qq9, .inl (G.2.1, 8, .inl (fun _ => 0)))] H := hP
  have hD : va_D A [(h0, .inr (3, ofL 12 (updV (updV (updV (updV (updV (updV (updV (updV (updV (updV Fh0 0 (.ref qq1)) 1 (.ref qq2)) 2 (.ref qq3)) 3 (.ref qq4)) 4 (.ref qq5)) 5 (.ref qq6)) 6 (.ref qq7)) 7 (.ref qq8)) 8 (.ref qq9)) 9 (.int 0)))), (qq1, .inl (G.2.1, 12, .inl (fun _ => 0))), (qq2, .inl (G.2.1, 12, .inl (fun _ => 0))), (qq3, .inl (G.2.1, 12, .inl (fun _ => 0))), (qq4, .inl (G.2.1, 12, .inl (fun _ => 0))), (qq5, .inl (G.2.1, 40, .inl (fun _ => 0))), (qq6, .inl (G.2.1, 40, .inl (fun _ => 0))), (qq7, .inl (G.2.1, 40, .inl (fun _ => 0))), (qq8, .inl (G.2.1, 8, .inl (fun _ => 0))), (qq9, .inl (G.2.1, 8, .inl (fun _ => 0)))] := hD
  refine lv_aload_n hx hb dX3_init_81 rfl (lv_at hl 0 rfl) ?_
  refine lv_iconst (v := 0) hx hb dX3_init_82 (by decide) ?_
  refine k_put fl_X3_43 ft_X3_10 C hP hD hS 0 rfl rfl rfl dX3_init_83 (fun H locs hP hD hS => ?_)
  have hP : va_P G.1 vwCl [(h0, .inr (3, ofL 12 (updV (updV (updV (updV (updV (updV (updV (updV (updV (updV (updV Fh0 0 (.ref qq1)) 1 (.ref qq2)) 2 (.ref qq3)) 3 (.ref qq4)) 4 (.ref qq5)) 5 (.ref qq6)) 6 (.ref qq7)) 7 (.ref qq8)) 8 (.ref qq9)) 9 (.int 0)) 10 (.int 0)))), (qq1, .inl (G.2.1, 12, .inl (fun _ => 0))), (qq2, .inl (G.2.1, 12, .inl (fun _ => 0))), (qq3, .inl (G.2.1, 12, .inl (fun _ => 0))), (qq4, .inl (G.2.1, 12, .inl (fun _ => 0))), (qq5, .inl (G.2.1, 40, .inl (fun _ => 0))), (qq6, .inl (G.2.1, 40, .inl (fun _ => 0))), (qq7, .inl (G.2.1, 40, .inl (fun _ => 0))), (qq8, .inl (G.2.1, 8, .inl (fun _ => 0))), (qq9, .inl (G.2.1, 8, .inl (fun _ => 0)))] H := hP
  have hD : va_D A [(h0, .inr (3, ofL 12 (updV (updV (updV (updV (updV (updV (updV (updV (updV (updV (updV Fh0 0 (.ref qq1)) 1 (.ref qq2)) 2 (.ref qq3)) 3 (.ref qq4)) 4 (.ref qq5)) 5 (.ref qq6)) 6 (.ref qq7)) 7 (.ref qq8)) 8 (.ref qq9)) 9 (.int 0)) 10 (.int 0)))), (qq1, .inl (G.2.1, 12, .inl (fun _ => 0))), (qq2, .inl (G.2.1, 12, .inl (fun _ => 0))), (qq3, .inl (G.2.1, 12, .inl (fun _ => 0))), (qq4, .inl (G.2.1, 12, .inl (fun _ => 0))), (qq5, .inl (G.2.1, 40, .inl (fun _ => 0))), (qq6, .inl (G.2.1, 40, .inl (fun _ => 0))), (qq7, .inl (G.2.1, 40, .inl (fun _ => 0))), (qq8, .inl (G.2.1, 8, .inl (fun _ => 0))), (qq9, .inl (G.2.1, 8, .inl (fun _ => 0)))] := hD
  refine lv_aload_n hx hb dX3_init_86 rfl (lv_at hl 0 rfl) ?_
  refine lv_iconst (v := -1) hx hb dX3_init_87 (by decide) ?_
  refine k_put fl_X3_46 ft_X3_11 C hP hD hS 0 rfl rfl rfl dX3_init_88 (fun H locs hP hD hS => ?_)
  have hP : va_P G.1 vwCl [(h0, .inr (3, ofL 12 (updV (updV (updV (updV (updV (updV (updV (updV (updV (updV (updV (updV Fh0 0 (.ref qq1)) 1 (.ref qq2)) 2 (.ref qq3)) 3 (.ref qq4)) 4 (.ref qq5)) 5 (.ref qq6)) 6 (.ref qq7)) 7 (.ref qq8)) 8 (.ref qq9)) 9 (.int 0)) 10 (.int 0)) 11 (.int (-1))))), (qq1, .inl (G.2.1, 12, .inl (fun _ => 0))), (qq2, .inl (G.2.1, 12, .inl (fun _ => 0))), (qq3, .inl (G.2.1, 12, .inl (fun _ => 0))), (qq4, .inl (G.2.1, 12, .inl (fun _ => 0))), (qq5, .inl (G.2.1, 40, .inl (fun _ => 0))), (qq6, .inl (G.2.1, 40, .inl (fun _ => 0))), (qq7, .inl (G.2.1, 40, .inl (fun _ => 0))), (qq8, .inl (G.2.1, 8, .inl (fun _ => 0))), (qq9, .inl (G.2.1, 8, .inl (fun _ => 0)))] H := hP
  have hD : va_D A [(h0, .inr (3, ofL 12 (updV (updV (updV (updV (updV (updV (updV (updV (updV (updV (updV (updV Fh0 0 (.ref qq1)) 1 (.ref qq2)) 2 (.ref qq3)) 3 (.ref qq4)) 4 (.ref qq5)) 5 (.ref qq6)) 6 (.ref qq7)) 7 (.ref qq8)) 8 (.ref qq9)) 9 (.int 0)) 10 (.int 0)) 11 (.int (-1))))), (qq1, .inl (G.2.1, 12, .inl (fun _ => 0))), (qq2, .inl (G.2.1, 12, .inl (fun _ => 0))), (qq3, .inl (G.2.1, 12, .inl (fun _ => 0))), (qq4, .inl (G.2.1, 12, .inl (fun _ => 0))), (qq5, .inl (G.2.1, 40, .inl (fun _ => 0))), (qq6, .inl (G.2.1, 40, .inl (fun _ => 0))), (qq7, .inl (G.2.1, 40, .inl (fun _ => 0))), (qq8, .inl (G.2.1, 8, .inl (fun _ => 0))), (qq9, .inl (G.2.1, 8, .inl (fun _ => 0)))] := hD
  exact k_vret C hr hlk hP hD hS (fun k => match k with | 0 => qq1 | 1 => qq2 | 2 => qq3 | 3 => qq4 | 4 => qq5 | 5 => qq6 | 6 => qq7 | 7 => qq8 | 8 => qq9 | _ => 0) (trivial) [0, 1, 2, 3, 4, 5, 6, 7, 8, 9] rfl rfl (Nat.le_of_ble_eq_true rfl) (Nat.le_of_ble_eq_true rfl) dX3_init_91
set_option maxHeartbeats 4000000 in
set_option maxRecDepth 100000 in
theorem c_X1_init (l : Launch) (G : kG) (sz : Nat) (h0 : Nat) (h1 : Nat) (h2 : Nat) (Fh0 : Nat → Value) : kM l yX1_init cX1_init 3 none { frames := 6, cells := 6, slots := 60, locals := 110 } G [.ref h0, .ref h1, .ref h2] [(h0, .inr (1, ofL 10 Fh0))] sz (kQv G (S := (Nat → Nat)) (fun (_ : Nat → Nat) => True) (fun u => [(h0, .inr (1, ofL 10 (updV (updV (updV (updV (updV (updV (updV (updV (updV (updV Fh0 1 (.ref (u 0))) 2 (.ref (u 1))) 3 (.ref (u 2))) 4 (.ref (u 3))) 5 (.ref (u 4))) 6 (.ref (u 5))) 8 (.int (-1))) 9 (.int (-1))) 7 (.ref h1)) 0 (.ref h2)))), ((u 0), .inl (G.2.1, 12, .inl (fun _ => 0))), ((u 1), .inl (G.2.1, 12, .inl (fun _ => 0))), ((u 2), .inl (G.2.1, 12, .inl (fun _ => 0))), ((u 3), .inl (G.2.1, 12, .inl (fun _ => 0))), ((u 4), .inl (G.2.1, 6, .inl (fun _ => 0))), ((u 5), .inl (G.2.1, 6, .inl (fun _ => 0)))])) := by
  refine kM.of (by decide) (Nat.le_of_ble_eq_true rfl) ?_
  intro p e s m below meth c A ls H C hr hlk hnm hP hD hS hl
  have C : kC G p s m c cX1_init 3 RX1 A := C
  have hx := C.1
  have hb := C.2.1
  have hl : lv_has ls 3 [(0, .ref h0), (1, .ref h1), (2, .ref h2)] := hl
  refine lv_aload_n hx hb dX1_init_0 rfl (lv_at hl 0 rfl) ?_
  refine k_obj ⟨tw_297, tw_32, tw_33⟩ C hl.1 dX1_init_1 (Nat.le_of_ble_eq_true rfl) (Nat.le_of_ble_eq_true rfl) ?_
  refine lv_aload_n hx hb dX1_init_4 rfl (lv_at hl 0 rfl) ?_
  refine lv_bipush (v := 12) hx hb dX1_init_5 (by decide) ?_
  refine k_newI (N' := 12) tw_67 C hP hD hS (by decide) (by decide) (by decide) (Nat.le_of_ble_eq_true rfl) (Nat.le_of_ble_eq_true rfl) dX1_init_7 (fun qq1 H hP hD hS => ?_)
  have hP : va_P G.1 vwCl [(h0, .inr (1, ofL 10 Fh0)), (qq1, .inl (G.2.1, 12, .inl (fun _ => 0)))] H := hP
  have hD : va_D A [(h0, .inr (1, ofL 10 Fh0)), (qq1, .inl (G.2.1, 12, .inl (fun _ => 0)))] := hD
  refine k_putF fl_X1_9 ft_X1_1 C hnm hP hD hS 0 rfl rfl rfl dX1_init_9 (fun H locs hP hD hS => ?_)
  have hP : va_P G.1 vwCl [(h0, .inr (1, ofL 10 (updV Fh0 1 (.ref qq1)))), (qq1, .inl (G.2.1, 12, .inl (fun _ => 0)))] H := hP
  have hD : va_D A [(h0, .inr (1, ofL 10 (updV Fh0 1 (.ref qq1)))), (qq1, .inl (G.2.1, 12, .inl (fun _ => 0)))] := hD
  refine lv_aload_n hx hb dX1_init_12 rfl (lv_at hl 0 rfl) ?_
  refine lv_bipush (v := 12) hx hb dX1_init_13 (by decide) ?_
  refine k_newI (N' := 12) tw_67 C hP hD hS (by decide) (by decide) (by decide) (Nat.le_of_ble_eq_true rfl) (Nat.le_of_ble_eq_true rfl) dX1_init_15 (fun qq2 H hP hD hS => ?_)
  have hP : va_P G.1 vwCl [(h0, .inr (1, ofL 10 (updV Fh0 1 (.ref qq1)))), (qq1, .inl (G.2.1, 12, .inl (fun _ => 0))), (qq2, .inl (G.2.1, 12, .inl (fun _ => 0)))] H := hP
  have hD : va_D A [(h0, .inr (1, ofL 10 (updV Fh0 1 (.ref qq1)))), (qq1, .inl (G.2.1, 12, .inl (fun _ => 0))), (qq2, .inl (G.2.1, 12, .inl (fun _ => 0)))] := hD
  refine k_putF fl_X1_15 ft_X1_2 C hnm hP hD hS 0 rfl rfl rfl dX1_init_17 (fun H locs hP hD hS => ?_)
  have hP : va_P G.1 vwCl [(h0, .inr (1, ofL 10 (updV (updV Fh0 1 (.ref qq1)) 2 (.ref qq2)))), (qq1, .inl (G.2.1, 12, .inl (fun _ => 0))), (qq2, .inl (G.2.1, 12, .inl (fun _ => 0)))] H := hP
  have hD : va_D A [(h0, .inr (1, ofL 10 (updV (updV Fh0 1 (.ref qq1)) 2 (.ref qq2)))), (qq1, .inl (G.2.1, 12, .inl (fun _ => 0))), (qq2, .inl (G.2.1, 12, .inl (fun _ => 0)))] := hD
  refine lv_aload_n hx hb dX1_init_20 rfl (lv_at hl 0 rfl) ?_
  refine lv_bipush (v := 12) hx hb dX1_init_21 (by decide) ?_
  refine k_newI (N' := 12) tw_67 C hP hD hS (by decide) (by decide) (by decide) (Nat.le_of_ble_eq_true rfl) (Nat.le_of_ble_eq_true rfl) dX1_init_23 (fun qq3 H hP hD hS => ?_)
  have hP : va_P G.1 vwCl [(h0, .inr (1, ofL 10 (updV (updV Fh0 1 (.ref qq1)) 2 (.ref qq2)))), (qq1, .inl (G.2.1, 12, .inl (fun _ => 0))), (qq2, .inl (G.2.1, 12, .inl (fun _ => 0))), (qq3, .inl (G.2.1, 12, .inl (fun _ => 0)))] H := hP
  have hD : va_D A [(h0, .inr (1, ofL 10 (updV (updV Fh0 1 (.ref qq1)) 2 (.ref qq2)))), (qq1, .inl (G.2.1, 12, .inl (fun _ => 0))), (qq2, .inl (G.2.1, 12, .inl (fun _ => 0))), (qq3, .inl (G.2.1, 12, .inl (fun _ => 0)))] := hD
  refine k_putF fl_X1_18 ft_X1_3 C hnm hP hD hS 0 rfl rfl rfl dX1_init_25 (fun H locs hP hD hS => ?_)
  have hP : va_P G.1 vwCl [(h0, .inr (1, ofL 10 (updV (updV (updV Fh0 1 (.ref qq1)) 2 (.ref qq2)) 3 (.ref qq3)))), (qq1, .inl (G.2.1, 12, .inl (fun _ => 0))), (qq2, .inl (G.2.1, 12, .inl (fun _ => 0))), (qq3, .inl (G.2.1, 12, .inl (fun _ => 0)))] H := hP
  have hD : va_D A [(h0, .inr (1, ofL 10 (updV (updV (updV Fh0 1 (.ref qq1)) 2 (.ref qq2)) 3 (.ref qq3)))), (qq1, .inl (G.2.1, 12, .inl (fun _ => 0))), (qq2, .inl (G.2.1, 12, .inl (fun _ => 0))), (qq3, .inl (G.2.1, 12, .inl (fun _ => 0)))] := hD
  refine lv_aload_n hx hb dX1_init_28 rfl (lv_at hl 0 rfl) ?_
  refine lv_bipush (v := 12) hx hb dX1_init_29 (by decide) ?_
  refine k_newI (N' := 12) tw_67 C hP hD hS (by decide) (by decide) (by decide) (Nat.le_of_ble_eq_true rfl) (Nat.le_of_ble_eq_true rfl) dX1_init_31 (fun qq4 H hP hD hS => ?_)
  have hP : va_P G.1 vwCl [(h0, .inr (1, ofL 10 (updV (updV (updV Fh0 1 (.ref qq1)) 2 (.ref qq2)) 3 (.ref qq3)))), (qq1, .inl (G.2.1, 12, .inl (fun _ => 0))), (qq2, .inl (G.2.1, 12, .inl (fun _ => 0))), (qq3, .inl (G.2.1, 12, .inl (fun _ => 0))), (qq4, .inl (G.2.1, 12, .inl (fun _ => 0)))] H := hP
  have hD : va_D A [(h0, .inr (1, ofL 10 (updV (updV (updV Fh0 1 (.ref qq1)) 2 (.ref qq2)) 3 (.ref qq3)))), (qq1, .inl (G.2.1, 12, .inl (fun _ => 0))), (qq2, .inl (G.2.1, 12, .inl (fun _ => 0))), (qq3, .inl (G.2.1, 12, .inl (fun _ => 0))), (qq4, .inl (G.2.1, 12, .inl (fun _ => 0)))] := hD
  refine k_putF fl_X1_21 ft_X1_4 C hnm hP hD hS 0 rfl rfl rfl dX1_init_33 (fun H locs hP hD hS => ?_)
  have hP : va_P G.1 vwCl [(h0, .inr (1, ofL 10 (updV (updV (updV (updV Fh0 1 (.ref qq1)) 2 (.ref qq2)) 3 (.ref qq3)) 4 (.ref qq4)))), (qq1, .inl (G.2.1, 12, .inl (fun _ => 0))), (qq2, .inl (G.2.1, 12, .inl (fun _ => 0))), (qq3, .inl (G.2.1, 12, .inl (fun _ => 0))), (qq4, .inl (G.2.1, 12, .inl (fun _ => 0)))] H := hP
  have hD : va_D A [(h0, .inr (1, ofL 10 (updV (updV (updV (updV Fh0 1 (.ref qq1)) 2 (.ref qq2)) 3 (.ref qq3)) 4 (.ref qq4)))), (qq1, .inl (G.2.1, 12, .inl (fun _ => 0))), (qq2, .inl (G.2.1, 12, .inl (fun _ => 0))), (qq3, .inl (G.2.1, 12, .inl (fun _ => 0))), (qq4, .inl (G.2.1, 12, .inl (fun _ => 0)))] := hD
  refine lv_aload_n hx hb dX1_init_36 rfl (lv_at hl 0 rfl) ?_
  refine lv_bipush (v := 6) hx hb dX1_init_37 (by decide) ?_
  refine k_newI (N' := 6) tw_67 C hP hD hS (by decide) (by decide) (by decide) (Nat.le_of_ble_eq_true rfl) (Nat.le_of_ble_eq_true rfl) dX1_init_39 (fun qq5 H hP hD hS => ?_)
  have hP : va_P G.1 vwCl [(h0, .inr (1, ofL 10 (updV (updV (updV (updV Fh0 1 (.ref qq1)) 2 (.ref qq2)) 3 (.ref qq3)) 4 (.ref qq4)))), (qq1, .inl (G.2.1, 12, .inl (fun _ => 0))), (qq2, .inl (G.2.1, 12, .inl (fun _ => 0))), (qq3, .inl (G.2.1, 12, .inl (fun _ => 0))), (qq4, .inl (G.2.1, 12, .inl (fun _ => 0))), (qq5, .inl (G.2.1, 6, .inl (fun _ => 0)))] H := hP
  have hD : va_D A [(h0, .inr (1, ofL 10 (updV (updV (updV (updV Fh0 1 (.ref qq1)) 2 (.ref qq2)) 3 (.ref qq3)) 4 (.ref qq4)))), (qq1, .inl (G.2.1, 12, .inl (fun _ => 0))), (qq2, .inl (G.2.1, 12, .inl (fun _ => 0))), (qq3, .inl (G.2.1, 12, .inl (fun _ => 0))), (qq4, .inl (G.2.1, 12, .inl (fun _ => 0))), (qq5, .inl (G.2.1, 6, .inl (fun _ => 0)))] := hD
  refine k_putF fl_X1_24 ft_X1_5 C hnm hP hD hS 0 rfl rfl rfl dX1_init_41 (fun H locs hP hD hS => ?_)
  have hP : va_P G.1 vwCl [(h0, .inr (1, ofL 10 (updV (updV (updV (updV (updV Fh0 1 (.ref qq1)) 2 (.ref qq2)) 3 (.ref qq3)) 4 (.ref qq4)) 5 (.ref qq5)))), (qq1, .inl (G.2.1, 12, .inl (fun _ => 0))), (qq2, .inl (G.2.1, 12, .inl (fun _ => 0))), (qq3, .inl (G.2.1, 12, .inl (fun _ => 0))), (qq4, .inl (G.2.1, 12, .inl (fun _ => 0))), (qq5, .inl (G.2.1, 6, .inl (fun _ => 0)))] H := hP
  have hD : va_D A [(h0, .inr (1, ofL 10 (updV (updV (updV (updV (updV Fh0 1 (.ref qq1)) 2 (.ref qq2)) 3 (.ref qq3)) 4 (.ref qq4)) 5 (.ref qq5)))), (qq1, .inl (G.2.1, 12, .inl (fun _ => 0))), (qq2, .inl (G.2.1, 12, .inl (fun _ => 0))), (qq3, .inl (G.2.1, 12, .inl (fun _ => 0))), (qq4, .inl (G.2.1, 12, .inl (fun _ => 0))), (qq5, .inl (G.2.1, 6, .inl (fun _ => 0)))] := hD
  refine lv_aload_n hx hb dX1_init_44 rfl (lv_at hl 0 rfl) ?_
  refine lv_bipush (v := 6) hx hb dX1_init_45 (by decide) ?_
  refine k_newI (N' := 6) tw_67 C hP hD hS (by decide) (by decide) (by decide) (Nat.le_of_ble_eq_true rfl) (Nat.le_of_ble_eq_true rfl) dX1_init_47 (fun qq6 H hP hD hS => ?_)
  have hP : va_P G.1 vwCl [(h0, .inr (1, ofL 10 (updV (updV (updV (updV (updV Fh0 1 (.ref qq1)) 2 (.ref qq2)) 3 (.ref qq3)) 4 (.ref qq4)) 5 (.ref qq5)))), (qq1, .inl (G.2.1, 12, .inl (fun _ => 0))), (qq2, .inl (G.2.1, 12, .inl (fun _ => 0))), (qq3, .inl (G.2.1, 12, .inl (fun _ => 0))), (qq4, .inl (G.2.1, 12, .inl (fun _ => 0))), (qq5, .inl (G.2.1, 6, .inl (fun _ => 0))), (qq6, .inl (G.2.1, 6, .inl (fun _ => 0)))] H := hP
  have hD : va_D A [(h0, .inr (1, ofL 10 (updV (updV (updV (updV (updV Fh0 1 (.ref qq1)) 2 (.ref qq2)) 3 (.ref qq3)) 4 (.ref qq4)) 5 (.ref qq5)))), (qq1, .inl (G.2.1, 12, .inl (fun _ => 0))), (qq2, .inl (G.2.1, 12, .inl (fun _ => 0))), (qq3, .inl (G.2.1, 12, .inl (fun _ => 0))), (qq4, .inl (G.2.1, 12, .inl (fun _ => 0))), (qq5, .inl (G.2.1, 6, .inl (fun _ => 0))), (qq6, .inl (G.2.1, 6, .inl (fun _ => 0)))] := hD
  refine k_putF fl_X1_27 ft_X1_6 C hnm hP hD hS 0 rfl rfl rfl dX1_init_49 (fun H locs hP hD hS => ?_)
  have hP : va_P G.1 vwCl [(h0, .inr (1, ofL 10 (updV (updV (updV (updV (updV (updV Fh0 1 (.ref qq1)) 2 (.ref qq2)) 3 (.ref qq3)) 4 (.ref qq4)) 5 (.ref qq5)) 6 (.ref qq6)))), (qq1, .inl (G.2.1, 12, .inl (fun _ => 0))), (qq2, .inl (G.2.1, 12, .inl (fun _ => 0))), (qq3, .inl (G.2.1, 12, .inl (fun _ => 0))), (qq4, .inl (G.2.1, 12, .inl (fun _ => 0))), (qq5, .inl (G.2.1, 6, .inl (fun _ => 0))), (qq6, .inl (G.2.1, 6, .inl (fun _ => 0)))] H := hP
  have hD : va_D A [(h0, .inr (1, ofL 10 (updV (updV (updV (updV (updV (updV Fh0 1 (.ref qq1)) 2 (.ref qq2)) 3 (.ref qq3)) 4 (.ref qq4)) 5 (.ref qq5)) 6 (.ref qq6)))), (qq1, .inl (G.2.1, 12, .inl (fun _ => 0))), (qq2, .inl (G.2.1, 12, .inl (fun _ => 0))), (qq3, .inl (G.2.1, 12, .inl (fun _ => 0))), (qq4, .inl (G.2.1, 12, .inl (fun _ => 0))), (qq5, .inl (G.2.1, 6, .inl (fun _ => 0))), (qq6, .inl (G.2.1, 6, .inl (fun _ => 0)))] := hD
  refine lv_aload_n hx hb dX1_init_52 rfl (lv_at hl 0 rfl) ?_
  refine lv_iconst (v := -1) hx hb dX1_init_53 (by decide) ?_
  refine k_put fl_X1_30 ft_X1_8 C hP hD hS 0 rfl rfl rfl dX1_init_54 (fun H locs hP hD hS => ?_)
  have hP : va_P G.1 vwCl [(h0, .inr (1, ofL 10 (updV (updV (updV (updV (updV (updV (updV Fh0 1 (.ref qq1)) 2 (.ref qq2)) 3 (.ref qq3)) 4 (.ref qq4)) 5 (.ref qq5)) 6 (.ref qq6)) 8 (.int (-1))))), (qq1, .inl (G.2.1, 12, .inl (fun _ => 0))), (qq2, .inl (G.2.1, 12, .inl (fun _ => 0))), (qq3, .inl (G.2.1, 12, .inl (fun _ => 0))), (qq4, .inl (G.2.1, 12, .inl (fun _ => 0))), (qq5, .inl (G.2.1, 6, .inl (fun _ => 0))), (qq6, .inl (G.2.1, 6, .inl (fun _ => 0)))] H := hP
  have hD : va_D A [(h0, .inr (1, ofL 10 (updV (updV (updV (updV (updV (updV (updV Fh0 1 (.ref qq1)) 2 (.ref qq2)) 3 (.ref qq3)) 4 (.ref qq4)) 5 (.ref qq5)) 6 (.ref qq6)) 8 (.int (-1))))), (qq1, .inl (G.2.1, 12, .inl (fun _ => 0))), (qq2, .inl (G.2.1, 12, .inl (fun _ => 0))), (qq3, .inl (G.2.1, 12, .inl (fun _ => 0))), (qq4, .inl (G.2.1, 12, .inl (fun _ => 0))), (qq5, .inl (G.2.1, 6, .inl (fun _ => 0))), (qq6, .inl (G.2.1, 6, .inl (fun _ => 0)))] := hD
  refine lv_aload_n hx hb dX1_init_57 rfl (lv_at hl 0 rfl) ?_
  refine lv_iconst (v := -1) hx hb dX1_init_58 (by decide) ?_
  refine k_put fl_X1_34 ft_X1_9 C hP hD hS 0 rfl rfl rfl dX1_init_59 (fun H locs hP hD hS => ?_)
  have hP : va_P G.1 vwCl [(h0, .inr (1, ofL 10 (updV (updV (updV (updV (updV (updV (updV (updV Fh0 1 (.ref qq1)) 2 (.ref qq2)) 3 (.ref qq3)) 4 (.ref qq4)) 5 (.ref qq5)) 6 (.ref qq6)) 8 (.int (-1))) 9 (.int (-1))))), (qq1, .inl (G.2.1, 12, .inl (fun _ => 0))), (qq2, .inl (G.2.1, 12, .inl (fun _ => 0))), (qq3, .inl (G.2.1, 12, .inl (fun _ => 0))), (qq4, .inl (G.2.1, 12, .inl (fun _ => 0))), (qq5, .inl (G.2.1, 6, .inl (fun _ => 0))), (qq6, .inl (G.2.1, 6, .inl (fun _ => 0)))] H := hP
  have hD : va_D A [(h0, .inr (1, ofL 10 (updV (updV (updV (updV (updV (updV (updV (updV Fh0 1 (.ref qq1)) 2 (.ref qq2)) 3 (.ref qq3)) 4 (.ref qq4)) 5 (.ref qq5)) 6 (.ref qq6)) 8 (.int (-1))) 9 (.int (-1))))), (qq1, .inl (G.2.1, 12, .inl (fun _ => 0))), (qq2, .inl (G.2.1, 12, .inl (fun _ => 0))), (qq3, .inl (G.2.1, 12, .inl (fun _ => 0))), (qq4, .inl (G.2.1, 12, .inl (fun _ => 0))), (qq5, .inl (G.2.1, 6, .inl (fun _ => 0))), (qq6, .inl (G.2.1, 6, .inl (fun _ => 0)))] := hD
  refine lv_aload_n hx hb dX1_init_62 rfl (lv_at hl 0 rfl) ?_
  refine lv_aload_n hx hb dX1_init_63 rfl (lv_at hl 1 rfl) ?_
  refine k_put fl_X1_37 ft_X1_7 C hP hD hS 0 rfl rfl rfl dX1_init_64 (fun H locs hP hD hS => ?_)
  have hP : va_P G.1 vwCl [(h0, .inr (1, ofL 10 (updV (updV (updV (updV (updV (updV (updV (updV (updV Fh0 1 (.ref qq1)) 2 (.ref qq2)) 3 (.ref qq3)) 4 (.ref qq4)) 5 (.ref qq5)) 6 (.ref qq6)) 8 (.int (-1))) 9 (.int (-1))) 7 (.ref h1)))), (qq1, .inl (G.2.1, 12, .inl (fun _ => 0))), (qq2, .inl (G.2.1, 12, .inl (fun _ => 0))), (qq3, .inl (G.2.1, 12, .inl (fun _ => 0))), (qq4, .inl (G.2.1, 12, .inl (fun _ => 0))), (qq5, .inl (G.2.1, 6, .inl (fun _ => 0))), (qq6, .inl (G.2.1, 6, .inl (fun _ => 0)))] H := hP
  have hD : va_D A [(h0, .inr (1, ofL 10 (updV (updV (updV (updV (updV (updV (updV (updV (updV Fh0 1 (.ref qq1)) 2 (.ref qq2)) 3 (.ref qq3)) 4 (.ref qq4)) 5 (.ref qq5)) 6 (.ref qq6)) 8 (.int (-1))) 9 (.int (-1))) 7 (.ref h1)))), (qq1, .inl (G.2.1, 12, .inl (fun _ => 0))), (qq2, .inl (G.2.1, 12, .inl (fun _ => 0))), (qq3, .inl (G.2.1, 12, .inl (fun _ => 0))), (qq4, .inl (G.2.1, 12, .inl (fun _ => 0))), (qq5, .inl (G.2.1, 6, .inl (fun _ => 0))), (qq6, .inl (G.2.1, 6, .inl (fun _ => 0)))] := hD
  refine lv_aload_n hx hb dX1_init_67 rfl (lv_at hl 0 rfl) ?_
  refine lv_aload_n hx hb dX1_init_68 rfl (lv_at hl 2 rfl) ?_
  refine k_putF fl_X1_41 ft_X1_0 C hnm hP hD hS 0 rfl rfl rfl dX1_init_69 (fun H locs hP hD hS => ?_)
  have hP : va_P G.1 vwCl [(h0, .inr (1, ofL 10 (updV (updV (updV (updV (updV (updV (updV (updV (updV (updV Fh0 1 (.ref qq1)) 2 (.ref qq2)) 3 (.ref qq3)) 4 (.ref qq4)) 5 (.ref qq5)) 6 (.ref qq6)) 8 (.int (-1))) 9 (.int (-1))) 7 (.ref h1)) 0 (.ref h2)))), (qq1, .inl (G.2.1, 12, .inl (fun _ => 0))), (qq2, .inl (G.2.1, 12, .inl (fun _ => 0))), (qq3, .inl (G.2.1, 12, .inl (fun _ => 0))), (qq4, .inl (G.2.1, 12, .inl (fun _ => 0))), (qq5, .inl (G.2.1, 6, .inl (fun _ => 0))), (qq6, .inl (G.2.1, 6, .inl (fun _ => 0)))] H := hP
  have hD : va_D A [(h0, .inr (1, ofL 10 (updV (updV (updV (updV (updV (updV (updV (updV (updV (updV Fh0 1 (.ref qq1)) 2 (.ref qq2)) 3 (.ref qq3)) 4 (.ref qq4)) 5 (.ref qq5)) 6 (.ref qq6)) 8 (.int (-1))) 9 (.int (-1))) 7 (.ref h1)) 0 (.ref h2)))), (qq1, .inl (G.2.1, 12, .inl (fun _ => 0))), (qq2, .inl (G.2.1, 12, .inl (fun _ => 0))), (qq3, .inl (G.2.1, 12, .inl (fun _ => 0))), (qq4, .inl (G.2.1, 12, .inl (fun _ => 0))), (qq5, .inl (G.2.1, 6, .inl (fun _ => 0))), (qq6, .inl (G.2.1, 6, .inl (fun _ => 0)))] := hD
  exact k_vret C hr hlk hP hD hS (fun k => match k with | 0 => qq1 | 1 => qq2 | 2 => qq3 | 3 => qq4 | 4 => qq5 | 5 => qq6 | _ => 0) (trivial) [0, 1, 2, 3, 4, 5, 6] rfl rfl (Nat.le_of_ble_eq_true rfl) (Nat.le_of_ble_eq_true rfl) dX1_init_72
set_option maxHeartbeats 4000000 in
set_option maxRecDepth 100000 in
theorem c_X6_init (l : Launch) (G : kG) (sz : Nat) (h0 : Nat) (h1 : Nat) (h2 : Nat) (Fh0 : Nat → Value) : kM l yX6_init cX6_init 3 none { frames := 6, cells := 0, slots := 0, locals := 110 } G [.ref h0, .ref h1, .ref h2] [(h0, .inr (6, ofL 11 Fh0))] sz (kQv G (S := Unit) (fun (_ : Unit) => True) (fun _ => [(h0, .inr (6, ofL 11 (updV (updV Fh0 0 (.ref h1)) 1 (.ref h2))))])) := by
  refine kM.of (by decide) (Nat.le_of_ble_eq_true rfl) ?_
  intro p e s m below meth c A ls H C hr hlk hnm hP hD hS hl
  have C : kC G p s m c cX6_init 3 RX6 A := C
  have hx := C.1
  have hb := C.2.1
  have hl : lv_has ls 3 [(0, .ref h0), (1, .ref h1), (2, .ref h2)] := hl
  refine lv_aload_n hx hb dX6_init_0 rfl (lv_at hl 0 rfl) ?_
  refine k_obj ⟨tw_193, tw_32, tw_33⟩ C hl.1 dX6_init_1 (Nat.le_of_ble_eq_true rfl) (Nat.le_of_ble_eq_true rfl) ?_
  refine lv_aload_n hx hb dX6_init_4 rfl (lv_at hl 0 rfl) ?_
  refine lv_aload_n hx hb dX6_init_5 rfl (lv_at hl 1 rfl) ?_
  refine k_putF fl_X6_9 ft_X6_0 C hnm hP hD hS 0 rfl rfl rfl dX6_init_6 (fun H locs hP hD hS => ?_)
  have hP : va_P G.1 vwCl [(h0, .inr (6, ofL 11 (updV Fh0 0 (.ref h1))))] H := hP
  have hD : va_D A [(h0, .inr (6, ofL 11 (updV Fh0 0 (.ref h1))))] := hD
  refine lv_aload_n hx hb dX6_init_9 rfl (lv_at hl 0 rfl) ?_
  refine lv_aload_n hx hb dX6_init_10 rfl (lv_at hl 2 rfl) ?_
  refine k_put fl_X6_15 ft_X6_1 C hP hD hS 0 rfl rfl rfl dX6_init_11 (fun H locs hP hD hS => ?_)
  have hP : va_P G.1 vwCl [(h0, .inr (6, ofL 11 (updV (updV Fh0 0 (.ref h1)) 1 (.ref h2))))] H := hP
  have hD : va_D A [(h0, .inr (6, ofL 11 (updV (updV Fh0 0 (.ref h1)) 1 (.ref h2))))] := hD
  exact k_vret C hr hlk hP hD hS () (trivial) [0] rfl rfl (Nat.le_of_ble_eq_true rfl) (Nat.le_of_ble_eq_true rfl) dX6_init_14
set_option maxHeartbeats 4000000 in
set_option maxRecDepth 100000 in
theorem c_X10_init (l : Launch) (G : kG) (sz : Nat) (h0 : Nat) (h1 : Nat) (Fh0 : Nat → Value) (Fh1 : Nat → Value) (h2 : Nat) (e_h1_0 : Fh1 0 = .ref h2) : kM l yX10_init cX10_init 2 none { frames := 7, cells := 2, slots := 15, locals := 130 } G [.ref h0, .ref h1] [(h0, .inr (10, ofL 7 Fh0)), (h1, .inr (1, ofL 10 Fh1))] sz (kQv G (S := (Nat → Nat)) (fun (_ : Nat → Nat) => True) (fun u => [(h0, .inr (10, ofL 7 (updV (updV (updV (updV Fh0 2 (.ref (u 0))) 3 (.ref (u 1))) 0 (.ref h1)) 1 (.ref h2)))), (h1, .inr (1, ofL 10 Fh1)), ((u 0), .inr (4, ofL 3 zF4)), ((u 1), .inl (G.2.1, 12, .inl (fun _ => 0)))])) := by
  refine kM.of (by decide) (Nat.le_of_ble_eq_true rfl) ?_
  intro p e s m below meth c A ls H C hr hlk hnm hP hD hS hl
  have C : kC G p s m c cX10_init 2 RX10 A := C
  have hx := C.1
  have hb := C.2.1
  have hl : lv_has ls 2 [(0, .ref h0), (1, .ref h1)] := hl
  refine lv_aload_n hx hb dX10_init_0 rfl (lv_at hl 0 rfl) ?_
  refine k_obj ⟨tw_350, tw_32, tw_33⟩ C hl.1 dX10_init_1 (Nat.le_of_ble_eq_true rfl) (Nat.le_of_ble_eq_true rfl) ?_
  refine lv_aload_n hx hb dX10_init_4 rfl (lv_at hl 0 rfl) ?_
  refine k_new (ci := 4) (F := zF4) tyX4 inWX4 tyX4_ok ⟨tw_351, tw_352, tw_9⟩ rfl zV4 C hP hD hS (Nat.le_of_ble_eq_true rfl) (Nat.le_of_ble_eq_true rfl) dX10_init_5 (fun qq1 H hP hD hS => ?_)
  have hP : va_P G.1 vwCl [(h0, .inr (10, ofL 7 Fh0)), (h1, .inr (1, ofL 10 Fh1)), (qq1, .inr (4, ofL 3 zF4))] H := hP
  have hD : va_D A [(h0, .inr (10, ofL 7 Fh0)), (h1, .inr (1, ofL 10 Fh1)), (qq1, .inr (4, ofL 3 zF4))] := hD
  refine lv_dup hx hb dX10_init_8 rfl ?_
  refine k_callJv (wr := [(h0, .inr (10, ofL 7 Fh0)), (h1, .inr (1, ofL 10 Fh1))]) (rest := [.ref qq1, .ref h0]) li_X10_11 C (c_X4_init l G H.size qq1 zF4) (kR rfl) hP hD hS [2] [0, 1] rfl rfl rfl rfl (by decide) rfl hl.1 rfl (Nat.le_of_ble_eq_true rfl) dX10_init_9 (fun uu4 H locs hw2 hP hD hS => ?_)
  have hP : va_P G.1 vwCl [(h0, .inr (10, ofL 7 Fh0)), (h1, .inr (1, ofL 10 Fh1)), (qq1, .inr (4, ofL 3 zF4))] H := hP
  have hD : va_D A [(h0, .inr (10, ofL 7 Fh0)), (h1, .inr (1, ofL 10 Fh1)), (qq1, .inr (4, ofL 3 zF4))] := hD
  refine k_putF fl_X10_12 ft_X10_2 C hnm hP hD hS 0 rfl rfl rfl dX10_init_12 (fun H locs hP hD hS => ?_)
  have hP : va_P G.1 vwCl [(h0, .inr (10, ofL 7 (updV Fh0 2 (.ref qq1)))), (h1, .inr (1, ofL 10 Fh1)), (qq1, .inr (4, ofL 3 zF4))] H := hP
  have hD : va_D A [(h0, .inr (10, ofL 7 (updV Fh0 2 (.ref qq1)))), (h1, .inr (1, ofL 10 Fh1)), (qq1, .inr (4, ofL 3 zF4))] := hD
  refine lv_aload_n hx hb dX10_init_15 rfl (lv_at hl 0 rfl) ?_
  refine lv_bipush (v := 12) hx hb dX10_init_16 (by decide) ?_
  refine k_newI (N' := 12) tw_67 C hP hD hS (by decide) (by decide) (by decide) (Nat.le_of_ble_eq_true rfl) (Nat.le_of_ble_eq_true rfl) dX10_init_18 (fun qq5 H hP hD hS => ?_)
  have hP : va_P G.1 vwCl [(h0, .inr (10, ofL 7 (updV Fh0 2 (.ref qq1)))), (h1, .inr (1, ofL 10 Fh1)), (qq1, .inr (4, ofL 3 zF4)), (qq5, .inl (G.2.1, 12, .inl (fun _ => 0)))] H := hP
  have hD : va_D A [(h0, .inr (10, ofL 7 (updV Fh0 2 (.ref qq1)))), (h1, .inr (1, ofL 10 Fh1)), (qq1, .inr (4, ofL 3 zF4)), (qq5, .inl (G.2.1, 12, .inl (fun _ => 0)))] := hD
  refine k_putF fl_X10_18 ft_X10_3 C hnm hP hD hS 0 rfl rfl rfl dX10_init_20 (fun H locs hP hD hS => ?_)
  have hP : va_P G.1 vwCl [(h0, .inr (10, ofL 7 (updV (updV Fh0 2 (.ref qq1)) 3 (.ref qq5)))), (h1, .inr (1, ofL 10 Fh1)), (qq1, .inr (4, ofL 3 zF4)), (qq5, .inl (G.2.1, 12, .inl (fun _ => 0)))] H := hP
  have hD : va_D A [(h0, .inr (10, ofL 7 (updV (updV Fh0 2 (.ref qq1)) 3 (.ref qq5)))), (h1, .inr (1, ofL 10 Fh1)), (qq1, .inr (4, ofL 3 zF4)), (qq5, .inl (G.2.1, 12, .inl (fun _ => 0)))] := hD
  refine lv_aload_n hx hb dX10_init_23 rfl (lv_at hl 0 rfl) ?_
  refine lv_aload_n hx hb dX10_init_24 rfl (lv_at hl 1 rfl) ?_
  refine k_putF fl_X10_22 ft_X10_0 C hnm hP hD hS 0 rfl rfl rfl dX10_init_25 (fun H locs hP hD hS => ?_)
  have hP : va_P G.1 vwCl [(h0, .inr (10, ofL 7 (updV (updV (updV Fh0 2 (.ref qq1)) 3 (.ref qq5)) 0 (.ref h1)))), (h1, .inr (1, ofL 10 Fh1)), (qq1, .inr (4, ofL 3 zF4)), (qq5, .inl (G.2.1, 12, .inl (fun _ => 0)))] H := hP
  have hD : va_D A [(h0, .inr (10, ofL 7 (updV (updV (updV Fh0 2 (.ref qq1)) 3 (.ref qq5)) 0 (.ref h1)))), (h1, .inr (1, ofL 10 Fh1)), (qq1, .inr (4, ofL 3 zF4)), (qq5, .inl (G.2.1, 12, .inl (fun _ => 0)))] := hD
  refine lv_aload_n hx hb dX10_init_28 rfl (lv_at hl 0 rfl) ?_
  refine lv_aload_n hx hb dX10_init_29 rfl (lv_at hl 1 rfl) ?_
  refine k_getN (v := .ref h2) fl_X10_26 C hP 1 rfl e_h1_0 dX10_init_30 ?_
  refine k_putF fl_X10_32 ft_X10_1 C hnm hP hD hS 0 rfl rfl rfl dX10_init_33 (fun H locs hP hD hS => ?_)
  have hP : va_P G.1 vwCl [(h0, .inr (10, ofL 7 (updV (updV (updV (updV Fh0 2 (.ref qq1)) 3 (.ref qq5)) 0 (.ref h1)) 1 (.ref h2)))), (h1, .inr (1, ofL 10 Fh1)), (qq1, .inr (4, ofL 3 zF4)), (qq5, .inl (G.2.1, 12, .inl (fun _ => 0)))] H := hP
  have hD : va_D A [(h0, .inr (10, ofL 7 (updV (updV (updV (updV Fh0 2 (.ref qq1)) 3 (.ref qq5)) 0 (.ref h1)) 1 (.ref h2)))), (h1, .inr (1, ofL 10 Fh1)), (qq1, .inr (4, ofL 3 zF4)), (qq5, .inl (G.2.1, 12, .inl (fun _ => 0)))] := hD
  exact k_vret C hr hlk hP hD hS (fun k => match k with | 0 => qq1 | 1 => qq5 | _ => 0) (trivial) [0, 1, 2, 3] rfl rfl (Nat.le_of_ble_eq_true rfl) (Nat.le_of_ble_eq_true rfl) dX10_init_36
set_option maxHeartbeats 4000000 in
set_option maxRecDepth 100000 in
theorem c_X2_init (l : Launch) (G : kG) (sz : Nat) (h0 : Nat) (h1 : Nat) (Fh0 : Nat → Value) (Fh1 : Nat → Value) (h2 : Nat) (e_h1_0 : Fh1 0 = .ref h2) : kM l yX2_init cX2_init 2 none { frames := 6, cells := 2, slots := 24, locals := 110 } G [.ref h0, .ref h1] [(h0, .inr (2, ofL 9 Fh0)), (h1, .inr (1, ofL 10 Fh1))] sz (kQv G (S := (Nat → Nat)) (fun (_ : Nat → Nat) => True) (fun u => [(h0, .inr (2, ofL 9 (updV (updV (updV (updV Fh0 2 (.ref (u 0))) 3 (.ref (u 1))) 0 (.ref h1)) 1 (.ref h2)))), (h1, .inr (1, ofL 10 Fh1)), ((u 0), .inl (G.2.1, 12, .inl (fun _ => 0))), ((u 1), .inl (G.2.1, 12, .inl (fun _ => 0)))])) := by
  refine kM.of (by decide) (Nat.le_of_ble_eq_true rfl) ?_
  intro p e s m below meth c A ls H C hr hlk hnm hP hD hS hl
  have C : kC G p s m c cX2_init 2 RX2 A := C
  have hx := C.1
  have hb := C.2.1
  have hl : lv_has ls 2 [(0, .ref h0), (1, .ref h1)] := hl
  refine lv_aload_n hx hb dX2_init_0 rfl (lv_at hl 0 rfl) ?_
  refine k_obj ⟨tw_399, tw_32, tw_33⟩ C hl.1 dX2_init_1 (Nat.le_of_ble_eq_true rfl) (Nat.le_of_ble_eq_true rfl) ?_
  refine lv_aload_n hx hb dX2_init_4 rfl (lv_at hl 0 rfl) ?_
  refine lv_bipush (v := 12) hx hb dX2_init_5 (by decide) ?_
  refine k_newI (N' := 12) tw_67 C hP hD hS (by decide) (by decide) (by decide) (Nat.le_of_ble_eq_true rfl) (Nat.le_of_ble_eq_true rfl) dX2_init_7 (fun qq1 H hP hD hS => ?_)
  have hP : va_P G.1 vwCl [(h0, .inr (2, ofL 9 Fh0)), (h1, .inr (1, ofL 10 Fh1)), (qq1, .inl (G.2.1, 12, .inl (fun _ => 0)))] H := hP
  have hD : va_D A [(h0, .inr (2, ofL 9 Fh0)), (h1, .inr (1, ofL 10 Fh1)), (qq1, .inl (G.2.1, 12, .inl (fun _ => 0)))] := hD
  refine k_putF fl_X2_9 ft_X2_2 C hnm hP hD hS 0 rfl rfl rfl dX2_init_9 (fun H locs hP hD hS => ?_)
  have hP : va_P G.1 vwCl [(h0, .inr (2, ofL 9 (updV Fh0 2 (.ref qq1)))), (h1, .inr (1, ofL 10 Fh1)), (qq1, .inl (G.2.1, 12, .inl (fun _ => 0)))] H := hP
  have hD : va_D A [(h0, .inr (2, ofL 9 (updV Fh0 2 (.ref qq1)))), (h1, .inr (1, ofL 10 Fh1)), (qq1, .inl (G.2.1, 12, .inl (fun _ => 0)))] := hD
  refine lv_aload_n hx hb dX2_init_12 rfl (lv_at hl 0 rfl) ?_
  refine lv_bipush (v := 12) hx hb dX2_init_13 (by decide) ?_
  refine k_newI (N' := 12) tw_67 C hP hD hS (by decide) (by decide) (by decide) (Nat.le_of_ble_eq_true rfl) (Nat.le_of_ble_eq_true rfl) dX2_init_15 (fun qq2 H hP hD hS => ?_)
  have hP : va_P G.1 vwCl [(h0, .inr (2, ofL 9 (updV Fh0 2 (.ref qq1)))), (h1, .inr (1, ofL 10 Fh1)), (qq1, .inl (G.2.1, 12, .inl (fun _ => 0))), (qq2, .inl (G.2.1, 12, .inl (fun _ => 0)))] H := hP
  have hD : va_D A [(h0, .inr (2, ofL 9 (updV Fh0 2 (.ref qq1)))), (h1, .inr (1, ofL 10 Fh1)), (qq1, .inl (G.2.1, 12, .inl (fun _ => 0))), (qq2, .inl (G.2.1, 12, .inl (fun _ => 0)))] := hD
  refine k_putF fl_X2_15 ft_X2_3 C hnm hP hD hS 0 rfl rfl rfl dX2_init_17 (fun H locs hP hD hS => ?_)
  have hP : va_P G.1 vwCl [(h0, .inr (2, ofL 9 (updV (updV Fh0 2 (.ref qq1)) 3 (.ref qq2)))), (h1, .inr (1, ofL 10 Fh1)), (qq1, .inl (G.2.1, 12, .inl (fun _ => 0))), (qq2, .inl (G.2.1, 12, .inl (fun _ => 0)))] H := hP
  have hD : va_D A [(h0, .inr (2, ofL 9 (updV (updV Fh0 2 (.ref qq1)) 3 (.ref qq2)))), (h1, .inr (1, ofL 10 Fh1)), (qq1, .inl (G.2.1, 12, .inl (fun _ => 0))), (qq2, .inl (G.2.1, 12, .inl (fun _ => 0)))] := hD
  refine lv_aload_n hx hb dX2_init_20 rfl (lv_at hl 0 rfl) ?_
  refine lv_aload_n hx hb dX2_init_21 rfl (lv_at hl 1 rfl) ?_
  refine k_putF fl_X2_18 ft_X2_0 C hnm hP hD hS 0 rfl rfl rfl dX2_init_22 (fun H locs hP hD hS => ?_)
  have hP : va_P G.1 vwCl [(h0, .inr (2, ofL 9 (updV (updV (updV Fh0 2 (.ref qq1)) 3 (.ref qq2)) 0 (.ref h1)))), (h1, .inr (1, ofL 10 Fh1)), (qq1, .inl (G.2.1, 12, .inl (fun _ => 0))), (qq2, .inl (G.2.1, 12, .inl (fun _ => 0)))] H := hP
  have hD : va_D A [(h0, .inr (2, ofL 9 (updV (updV (updV Fh0 2 (.ref qq1)) 3 (.ref qq2)) 0 (.ref h1)))), (h1, .inr (1, ofL 10 Fh1)), (qq1, .inl (G.2.1, 12, .inl (fun _ => 0))), (qq2, .inl (G.2.1, 12, .inl (fun _ => 0)))] := hD
  refine lv_aload_n hx hb dX2_init_25 rfl (lv_at hl 0 rfl) ?_
  refine lv_aload_n hx hb dX2_init_26 rfl (lv_at hl 1 rfl) ?_
  refine k_getN (v := .ref h2) fl_X2_22 C hP 1 rfl e_h1_0 dX2_init_27 ?_
  refine k_putF fl_X2_28 ft_X2_1 C hnm hP hD hS 0 rfl rfl rfl dX2_init_30 (fun H locs hP hD hS => ?_)
  have hP : va_P G.1 vwCl [(h0, .inr (2, ofL 9 (updV (updV (updV (updV Fh0 2 (.ref qq1)) 3 (.ref qq2)) 0 (.ref h1)) 1 (.ref h2)))), (h1, .inr (1, ofL 10 Fh1)), (qq1, .inl (G.2.1, 12, .inl (fun _ => 0))), (qq2, .inl (G.2.1, 12, .inl (fun _ => 0)))] H := hP
  have hD : va_D A [(h0, .inr (2, ofL 9 (updV (updV (updV (updV Fh0 2 (.ref qq1)) 3 (.ref qq2)) 0 (.ref h1)) 1 (.ref h2)))), (h1, .inr (1, ofL 10 Fh1)), (qq1, .inl (G.2.1, 12, .inl (fun _ => 0))), (qq2, .inl (G.2.1, 12, .inl (fun _ => 0)))] := hD
  exact k_vret C hr hlk hP hD hS (fun k => match k with | 0 => qq1 | 1 => qq2 | _ => 0) (trivial) [0, 1, 2, 3] rfl rfl (Nat.le_of_ble_eq_true rfl) (Nat.le_of_ble_eq_true rfl) dX2_init_33
set_option maxHeartbeats 4000000 in
set_option maxRecDepth 100000 in
theorem c_X0_init (l : Launch) (G : kG) (sz : Nat) (h0 : Nat) (h1 : Nat) (Fh0 : Nat → Value) : kM l yX0_init cX0_init 2 none { frames := 6, cells := 1, slots := 8, locals := 110 } G [.ref h0, .ref h1] [(h0, .inr (0, ofL 7 Fh0))] sz (kQv G (S := (Nat → Nat)) (fun (_ : Nat → Nat) => True) (fun u => [(h0, .inr (0, ofL 7 (updV (updV Fh0 1 (.ref (u 0))) 0 (.ref h1)))), ((u 0), .inl (G.2.1, 8, .inl (fun _ => 0)))])) := by
  refine kM.of (by decide) (Nat.le_of_ble_eq_true rfl) ?_
  intro p e s m below meth c A ls H C hr hlk hnm hP hD hS hl
  have C : kC G p s m c cX0_init 2 RX0 A := C
  have hx := C.1
  have hb := C.2.1
  have hl : lv_has ls 2 [(0, .ref h0), (1, .ref h1)] := hl
  refine lv_aload_n hx hb dX0_init_0 rfl (lv_at hl 0 rfl) ?_
  refine k_obj ⟨tw_434, tw_32, tw_33⟩ C hl.1 dX0_init_1 (Nat.le_of_ble_eq_true rfl) (Nat.le_of_ble_eq_true rfl) ?_
  refine lv_aload_n hx hb dX0_init_4 rfl (lv_at hl 0 rfl) ?_
  refine lv_bipush (v := 8) hx hb dX0_init_5 (by decide) ?_
  refine k_newI (N' := 8) tw_67 C hP hD hS (by decide) (by decide) (by decide) (Nat.le_of_ble_eq_true rfl) (Nat.le_of_ble_eq_true rfl) dX0_init_7 (fun qq1 H hP hD hS => ?_)
  have hP : va_P G.1 vwCl [(h0, .inr (0, ofL 7 Fh0)), (qq1, .inl (G.2.1, 8, .inl (fun _ => 0)))] H := hP
  have hD : va_D A [(h0, .inr (0, ofL 7 Fh0)), (qq1, .inl (G.2.1, 8, .inl (fun _ => 0)))] := hD
  refine k_putF fl_X0_9 ft_X0_1 C hnm hP hD hS 0 rfl rfl rfl dX0_init_9 (fun H locs hP hD hS => ?_)
  have hP : va_P G.1 vwCl [(h0, .inr (0, ofL 7 (updV Fh0 1 (.ref qq1)))), (qq1, .inl (G.2.1, 8, .inl (fun _ => 0)))] H := hP
  have hD : va_D A [(h0, .inr (0, ofL 7 (updV Fh0 1 (.ref qq1)))), (qq1, .inl (G.2.1, 8, .inl (fun _ => 0)))] := hD
  refine lv_aload_n hx hb dX0_init_12 rfl (lv_at hl 0 rfl) ?_
  refine lv_aload_n hx hb dX0_init_13 rfl (lv_at hl 1 rfl) ?_
  refine k_putF fl_X0_15 ft_X0_0 C hnm hP hD hS 0 rfl rfl rfl dX0_init_14 (fun H locs hP hD hS => ?_)
  have hP : va_P G.1 vwCl [(h0, .inr (0, ofL 7 (updV (updV Fh0 1 (.ref qq1)) 0 (.ref h1)))), (qq1, .inl (G.2.1, 8, .inl (fun _ => 0)))] H := hP
  have hD : va_D A [(h0, .inr (0, ofL 7 (updV (updV Fh0 1 (.ref qq1)) 0 (.ref h1)))), (qq1, .inl (G.2.1, 8, .inl (fun _ => 0)))] := hD
  exact k_vret C hr hlk hP hD hS (fun k => match k with | 0 => qq1 | _ => 0) (trivial) [0, 1] rfl rfl (Nat.le_of_ble_eq_true rfl) (Nat.le_of_ble_eq_true rfl) dX0_init_17
set_option maxHeartbeats 4000000 in
set_option maxRecDepth 100000 in
theorem c_X9_init (l : Launch) (G : kG) (sz : Nat) (h0 : Nat) (h1 : Nat) (Fh0 : Nat → Value) : kM l yX9_init cX9_init 2 none { frames := 6, cells := 4, slots := 288, locals := 110 } G [.ref h0, .ref h1] [(h0, .inr (9, ofL 6 Fh0))] sz (kQv G (S := (Nat → Nat)) (fun (_ : Nat → Nat) => True) (fun u => [(h0, .inr (9, ofL 6 (updV (updV (updV (updV (updV Fh0 1 (.ref (u 0))) 2 (.ref (u 1))) 3 (.ref (u 2))) 4 (.ref (u 3))) 0 (.ref h1)))), ((u 0), .inl (G.2.1, 72, .inl (fun _ => 0))), ((u 1), .inl (G.2.1, 72, .inl (fun _ => 0))), ((u 2), .inl (G.2.1, 72, .inl (fun _ => 0))), ((u 3), .inl (G.2.2.1, 72, .inl (fun _ => 0)))])) := by
  refine kM.of (by decide) (Nat.le_of_ble_eq_true rfl) ?_
  intro p e s m below meth c A ls H C hr hlk hnm hP hD hS hl
  have C : kC G p s m c cX9_init 2 RX9 A := C
  have hx := C.1
  have hb := C.2.1
  have hl : lv_has ls 2 [(0, .ref h0), (1, .ref h1)] := hl
  refine lv_aload_n hx hb dX9_init_0 rfl (lv_at hl 0 rfl) ?_
  refine k_obj ⟨tw_464, tw_32, tw_33⟩ C hl.1 dX9_init_1 (Nat.le_of_ble_eq_true rfl) (Nat.le_of_ble_eq_true rfl) ?_
  refine lv_aload_n hx hb dX9_init_4 rfl (lv_at hl 0 rfl) ?_
  refine lv_bipush (v := 72) hx hb dX9_init_5 (by decide) ?_
  refine k_newI (N' := 72) tw_67 C hP hD hS (by decide) (by decide) (by decide) (Nat.le_of_ble_eq_true rfl) (Nat.le_of_ble_eq_true rfl) dX9_init_7 (fun qq1 H hP hD hS => ?_)
  have hP : va_P G.1 vwCl [(h0, .inr (9, ofL 6 Fh0)), (qq1, .inl (G.2.1, 72, .inl (fun _ => 0)))] H := hP
  have hD : va_D A [(h0, .inr (9, ofL 6 Fh0)), (qq1, .inl (G.2.1, 72, .inl (fun _ => 0)))] := hD
  refine k_putF fl_X9_9 ft_X9_1 C hnm hP hD hS 0 rfl rfl rfl dX9_init_9 (fun H locs hP hD hS => ?_)
  have hP : va_P G.1 vwCl [(h0, .inr (9, ofL 6 (updV Fh0 1 (.ref qq1)))), (qq1, .inl (G.2.1, 72, .inl (fun _ => 0)))] H := hP
  have hD : va_D A [(h0, .inr (9, ofL 6 (updV Fh0 1 (.ref qq1)))), (qq1, .inl (G.2.1, 72, .inl (fun _ => 0)))] := hD
  refine lv_aload_n hx hb dX9_init_12 rfl (lv_at hl 0 rfl) ?_
  refine lv_bipush (v := 72) hx hb dX9_init_13 (by decide) ?_
  refine k_newI (N' := 72) tw_67 C hP hD hS (by decide) (by decide) (by decide) (Nat.le_of_ble_eq_true rfl) (Nat.le_of_ble_eq_true rfl) dX9_init_15 (fun qq2 H hP hD hS => ?_)
  have hP : va_P G.1 vwCl [(h0, .inr (9, ofL 6 (updV Fh0 1 (.ref qq1)))), (qq1, .inl (G.2.1, 72, .inl (fun _ => 0))), (qq2, .inl (G.2.1, 72, .inl (fun _ => 0)))] H := hP
  have hD : va_D A [(h0, .inr (9, ofL 6 (updV Fh0 1 (.ref qq1)))), (qq1, .inl (G.2.1, 72, .inl (fun _ => 0))), (qq2, .inl (G.2.1, 72, .inl (fun _ => 0)))] := hD
  refine k_putF fl_X9_15 ft_X9_2 C hnm hP hD hS 0 rfl rfl rfl dX9_init_17 (fun H locs hP hD hS => ?_)
  have hP : va_P G.1 vwCl [(h0, .inr (9, ofL 6 (updV (updV Fh0 1 (.ref qq1)) 2 (.ref qq2)))), (qq1, .inl (G.2.1, 72, .inl (fun _ => 0))), (qq2, .inl (G.2.1, 72, .inl (fun _ => 0)))] H := hP
  have hD : va_D A [(h0, .inr (9, ofL 6 (updV (updV Fh0 1 (.ref qq1)) 2 (.ref qq2)))), (qq1, .inl (G.2.1, 72, .inl (fun _ => 0))), (qq2, .inl (G.2.1, 72, .inl (fun _ => 0)))] := hD
  refine lv_aload_n hx hb dX9_init_20 rfl (lv_at hl 0 rfl) ?_
  refine lv_bipush (v := 72) hx hb dX9_init_21 (by decide) ?_
  refine k_newI (N' := 72) tw_67 C hP hD hS (by decide) (by decide) (by decide) (Nat.le_of_ble_eq_true rfl) (Nat.le_of_ble_eq_true rfl) dX9_init_23 (fun qq3 H hP hD hS => ?_)
  have hP : va_P G.1 vwCl [(h0, .inr (9, ofL 6 (updV (updV Fh0 1 (.ref qq1)) 2 (.ref qq2)))), (qq1, .inl (G.2.1, 72, .inl (fun _ => 0))), (qq2, .inl (G.2.1, 72, .inl (fun _ => 0))), (qq3, .inl (G.2.1, 72, .inl (fun _ => 0)))] H := hP
  have hD : va_D A [(h0, .inr (9, ofL 6 (updV (updV Fh0 1 (.ref qq1)) 2 (.ref qq2)))), (qq1, .inl (G.2.1, 72, .inl (fun _ => 0))), (qq2, .inl (G.2.1, 72, .inl (fun _ => 0))), (qq3, .inl (G.2.1, 72, .inl (fun _ => 0)))] := hD
  refine k_putF fl_X9_18 ft_X9_3 C hnm hP hD hS 0 rfl rfl rfl dX9_init_25 (fun H locs hP hD hS => ?_)
  have hP : va_P G.1 vwCl [(h0, .inr (9, ofL 6 (updV (updV (updV Fh0 1 (.ref qq1)) 2 (.ref qq2)) 3 (.ref qq3)))), (qq1, .inl (G.2.1, 72, .inl (fun _ => 0))), (qq2, .inl (G.2.1, 72, .inl (fun _ => 0))), (qq3, .inl (G.2.1, 72, .inl (fun _ => 0)))] H := hP
  have hD : va_D A [(h0, .inr (9, ofL 6 (updV (updV (updV Fh0 1 (.ref qq1)) 2 (.ref qq2)) 3 (.ref qq3)))), (qq1, .inl (G.2.1, 72, .inl (fun _ => 0))), (qq2, .inl (G.2.1, 72, .inl (fun _ => 0))), (qq3, .inl (G.2.1, 72, .inl (fun _ => 0)))] := hD
  refine lv_aload_n hx hb dX9_init_28 rfl (lv_at hl 0 rfl) ?_
  refine lv_bipush (v := 72) hx hb dX9_init_29 (by decide) ?_
  refine k_newZ (N' := 72) tw_484 C hP hD hS (by decide) (by decide) (by decide) (Nat.le_of_ble_eq_true rfl) (Nat.le_of_ble_eq_true rfl) dX9_init_31 (fun qq4 H hP hD hS => ?_)
  have hP : va_P G.1 vwCl [(h0, .inr (9, ofL 6 (updV (updV (updV Fh0 1 (.ref qq1)) 2 (.ref qq2)) 3 (.ref qq3)))), (qq1, .inl (G.2.1, 72, .inl (fun _ => 0))), (qq2, .inl (G.2.1, 72, .inl (fun _ => 0))), (qq3, .inl (G.2.1, 72, .inl (fun _ => 0))), (qq4, .inl (G.2.2.1, 72, .inl (fun _ => 0)))] H := hP
  have hD : va_D A [(h0, .inr (9, ofL 6 (updV (updV (updV Fh0 1 (.ref qq1)) 2 (.ref qq2)) 3 (.ref qq3)))), (qq1, .inl (G.2.1, 72, .inl (fun _ => 0))), (qq2, .inl (G.2.1, 72, .inl (fun _ => 0))), (qq3, .inl (G.2.1, 72, .inl (fun _ => 0))), (qq4, .inl (G.2.2.1, 72, .inl (fun _ => 0)))] := hD
  refine k_putF fl_X9_21 ft_X9_4 C hnm hP hD hS 0 rfl rfl rfl dX9_init_33 (fun H locs hP hD hS => ?_)
  have hP : va_P G.1 vwCl [(h0, .inr (9, ofL 6 (updV (updV (updV (updV Fh0 1 (.ref qq1)) 2 (.ref qq2)) 3 (.ref qq3)) 4 (.ref qq4)))), (qq1, .inl (G.2.1, 72, .inl (fun _ => 0))), (qq2, .inl (G.2.1, 72, .inl (fun _ => 0))), (qq3, .inl (G.2.1, 72, .inl (fun _ => 0))), (qq4, .inl (G.2.2.1, 72, .inl (fun _ => 0)))] H := hP
  have hD : va_D A [(h0, .inr (9, ofL 6 (updV (updV (updV (updV Fh0 1 (.ref qq1)) 2 (.ref qq2)) 3 (.ref qq3)) 4 (.ref qq4)))), (qq1, .inl (G.2.1, 72, .inl (fun _ => 0))), (qq2, .inl (G.2.1, 72, .inl (fun _ => 0))), (qq3, .inl (G.2.1, 72, .inl (fun _ => 0))), (qq4, .inl (G.2.2.1, 72, .inl (fun _ => 0)))] := hD
  refine lv_aload_n hx hb dX9_init_36 rfl (lv_at hl 0 rfl) ?_
  refine lv_aload_n hx hb dX9_init_37 rfl (lv_at hl 1 rfl) ?_
  refine k_putF fl_X9_25 ft_X9_0 C hnm hP hD hS 0 rfl rfl rfl dX9_init_38 (fun H locs hP hD hS => ?_)
  have hP : va_P G.1 vwCl [(h0, .inr (9, ofL 6 (updV (updV (updV (updV (updV Fh0 1 (.ref qq1)) 2 (.ref qq2)) 3 (.ref qq3)) 4 (.ref qq4)) 0 (.ref h1)))), (qq1, .inl (G.2.1, 72, .inl (fun _ => 0))), (qq2, .inl (G.2.1, 72, .inl (fun _ => 0))), (qq3, .inl (G.2.1, 72, .inl (fun _ => 0))), (qq4, .inl (G.2.2.1, 72, .inl (fun _ => 0)))] H := hP
  have hD : va_D A [(h0, .inr (9, ofL 6 (updV (updV (updV (updV (updV Fh0 1 (.ref qq1)) 2 (.ref qq2)) 3 (.ref qq3)) 4 (.ref qq4)) 0 (.ref h1)))), (qq1, .inl (G.2.1, 72, .inl (fun _ => 0))), (qq2, .inl (G.2.1, 72, .inl (fun _ => 0))), (qq3, .inl (G.2.1, 72, .inl (fun _ => 0))), (qq4, .inl (G.2.2.1, 72, .inl (fun _ => 0)))] := hD
  exact k_vret C hr hlk hP hD hS (fun k => match k with | 0 => qq1 | 1 => qq2 | 2 => qq3 | 3 => qq4 | _ => 0) (trivial) [0, 1, 2, 3, 4] rfl rfl (Nat.le_of_ble_eq_true rfl) (Nat.le_of_ble_eq_true rfl) dX9_init_41
