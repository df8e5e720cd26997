theorem dX8_clear_0 : decode cX8_clear 0 = .ok (.aload_n 0, 1) := by decide +kernel
theorem dX8_clear_1 : decode cX8_clear 1 = .ok (.iconst 0, 1) := by decide +kernel
theorem tw_56 : (Jvm.Cond.laysFinal "MarshBells$Rules" "MarshBells$Rules" "steps" "[I") ∈ lw_tbl := tk_1 (List.mem_of_getElem? (i := 56) rfl)
theorem tw_58 : (Jvm.Cond.laysFinal "MarshBells$Rules" "MarshBells$Rules" "bounds" "[I") ∈ lw_tbl := tk_1 (List.mem_of_getElem? (i := 58) rfl)
theorem tw_60 : (Jvm.Cond.laysFinal "MarshBells$Rules" "MarshBells$Rules" "stack" "[I") ∈ lw_tbl := tk_1 (List.mem_of_getElem? (i := 60) rfl)
theorem tw_62 : (Jvm.Cond.lays "MarshBells$Rules" "MarshBells$Rules" "size" "I") ∈ lw_tbl := tk_1 (List.mem_of_getElem? (i := 62) rfl)
theorem tw_64 : (Jvm.Cond.lays "MarshBells$Rules" "MarshBells$Rules" "used" "I") ∈ lw_tbl := tk_1 (List.mem_of_getElem? (i := 64) rfl)
theorem inWX8 : ∀ w ∈ u_ws RX8 TX8 5, w ∈ lw_tbl := by
  have e : ∀ k, k < 5 → u_lay RX8 TX8 k ∈ lw_tbl := fun k hk => match k, hk with | 0, _ => tw_56 | 1, _ => tw_58 | 2, _ => tw_60 | 3, _ => tw_62 | 4, _ => tw_64 | k + 5, hk => absurd hk (by omega)
  intro w h
  obtain ⟨k, hk, rfl⟩ := List.mem_map.mp h
  exact e k (List.mem_range.mp hk)
theorem tw_51 : (Jvm.Cond.fieldLink "MarshBells$Rules" (21 : Nat) "MarshBells$Rules" "size" "I") ∈ lw_tbl := tk_1 (List.mem_of_getElem? (i := 51) rfl)
theorem fl_X8_21 : kFL RX8 21 8 5 3 := ⟨RX8, TX8, rfl, by decide, inWX8, tw_51⟩
theorem ft_X8_3 : kFT 8 3 .int false RX8 := ⟨RX8, TX8, 5, tyX8, rfl, tyX8_ok, nmX8, rfl, by decide +kernel, rfl⟩
theorem dX8_clear_2 : decode cX8_clear 2 = .ok (.putfield 21, 3) := by decide +kernel
theorem dX8_clear_5 : decode cX8_clear 5 = .ok (.aload_n 0, 1) := by decide +kernel
theorem dX8_clear_6 : decode cX8_clear 6 = .ok (.iconst 0, 1) := by decide +kernel
theorem tw_55 : (Jvm.Cond.fieldLink "MarshBells$Rules" (25 : Nat) "MarshBells$Rules" "used" "I") ∈ lw_tbl := tk_1 (List.mem_of_getElem? (i := 55) rfl)
theorem fl_X8_25 : kFL RX8 25 8 5 4 := ⟨RX8, TX8, rfl, by decide, inWX8, tw_55⟩
theorem ft_X8_4 : kFT 8 4 .int false RX8 := ⟨RX8, TX8, 5, tyX8, rfl, tyX8_ok, nmX8, rfl, by decide +kernel, rfl⟩
theorem dX8_clear_7 : decode cX8_clear 7 = .ok (.putfield 25, 3) := by decide +kernel
theorem dX8_clear_10 : decode cX8_clear 10 = .ok (.return_, 1) := by decide +kernel
theorem tw_177 : (Jvm.Cond.laysFinal "MarshBells$Plan" "MarshBells$Plan" "lessons" "[LMarshBells$Lesson;") ∈ lw_tbl := tk_1 (List.mem_of_getElem? (i := 177) rfl)
theorem tw_179 : (Jvm.Cond.laysFinal "MarshBells$Plan" "MarshBells$Plan" "rules" "LMarshBells$Rules;") ∈ lw_tbl := tk_1 (List.mem_of_getElem? (i := 179) rfl)
theorem tw_181 : (Jvm.Cond.lays "MarshBells$Plan" "MarshBells$Plan" "lessonCount" "I") ∈ lw_tbl := tk_1 (List.mem_of_getElem? (i := 181) rfl)
theorem tw_183 : (Jvm.Cond.lays "MarshBells$Plan" "MarshBells$Plan" "walk" "I") ∈ lw_tbl := tk_1 (List.mem_of_getElem? (i := 183) rfl)
theorem tw_185 : (Jvm.Cond.lays "MarshBells$Plan" "MarshBells$Plan" "stair" "I") ∈ lw_tbl := tk_1 (List.mem_of_getElem? (i := 185) rfl)
theorem inWX7 : ∀ w ∈ u_ws RX7 TX7 5, w ∈ lw_tbl := by
  have e : ∀ k, k < 5 → u_lay RX7 TX7 k ∈ lw_tbl := fun k hk => match k, hk with | 0, _ => tw_177 | 1, _ => tw_179 | 2, _ => tw_181 | 3, _ => tw_183 | 4, _ => tw_185 | k + 5, hk => absurd hk (by omega)
  intro w h
  obtain ⟨k, hk, rfl⟩ := List.mem_map.mp h
  exact e k (List.mem_range.mp hk)
theorem tw_156 : (Jvm.Cond.fieldLink "MarshBells$Plan" (20 : Nat) "MarshBells$Plan" "rules" "LMarshBells$Rules;") ∈ lw_tbl := tk_1 (List.mem_of_getElem? (i := 156) rfl)
theorem fl_X7_20 : kFL RX7 20 7 5 1 := ⟨RX7, TX7, rfl, by decide, inWX7, tw_156⟩
theorem dX7_clear_0 : decode cX7_clear 0 = .ok (.aload_n 0, 1) := by decide +kernel
theorem dX7_clear_1 : decode cX7_clear 1 = .ok (.getfield 20, 3) := by decide +kernel
theorem tw_807 : (Jvm.Cond.methodLinkNest "MarshBells$Plan" (32 : Nat) ({ cls := "MarshBells$Rules", name := "clear", desc := "()V" } : Jvm.MethodName) "MarshBells") ∈ lw_tbl := tk_4 (List.mem_of_getElem? (i := 87) rfl)
theorem tw_3 : (Jvm.Cond.initialized "MarshBells$Rules") ∈ lw_tbl := tk_1 (List.mem_of_getElem? (i := 3) rfl)
theorem tw_810 : (Jvm.Cond.code ({ cls := "MarshBells$Rules", name := "clear", desc := "()V" } : Jvm.MethodName) prog_10_method_2_code (1 : Nat) (Option.none : Option Jvm.ClassFile.FieldType)) ∈ lw_tbl := tk_4 (List.mem_of_getElem? (i := 90) rfl)
theorem tw_809 : (Jvm.Cond.instanceMethod ({ cls := "MarshBells$Rules", name := "clear", desc := "()V" } : Jvm.MethodName)) ∈ lw_tbl := tk_4 (List.mem_of_getElem? (i := 89) rfl)
theorem se_X8_clear : Cond.selects RX8 yX8_clear yX8_clear ∈ lw_tbl := List.mem_append_left _ (List.mem_of_getElem? (i := 35) rfl)
theorem li_X7_32 : kLN RX7 32 RX8 yX8_clear "MarshBells" cX8_clear 1 none 0 := ⟨tw_807, tw_809, se_X8_clear, tw_810, tw_3, by decide +kernel⟩
theorem dX7_clear_4 : decode cX7_clear 4 = .ok (.invokevirtual 32, 3) := by decide +kernel
theorem dX7_clear_7 : decode cX7_clear 7 = .ok (.aload_n 0, 1) := by decide +kernel
theorem dX7_clear_8 : decode cX7_clear 8 = .ok (.iconst 0, 1) := by decide +kernel
theorem tw_164 : (Jvm.Cond.fieldLink "MarshBells$Plan" (35 : Nat) "MarshBells$Plan" "lessonCount" "I") ∈ lw_tbl := tk_1 (List.mem_of_getElem? (i := 164) rfl)
theorem fl_X7_35 : kFL RX7 35 7 5 2 := ⟨RX7, TX7, rfl, by decide, inWX7, tw_164⟩
theorem ft_X7_2 : kFT 7 2 .int false RX7 := ⟨RX7, TX7, 5, tyX7, rfl, tyX7_ok, nmX7, rfl, by decide +kernel, rfl⟩
theorem dX7_clear_9 : decode cX7_clear 9 = .ok (.putfield 35, 3) := by decide +kernel
theorem dX7_clear_12 : decode cX7_clear 12 = .ok (.aload_n 0, 1) := by decide +kernel
theorem dX7_clear_13 : decode cX7_clear 13 = .ok (.iconst 1, 1) := by decide +kernel
theorem tw_169 : (Jvm.Cond.fieldLink "MarshBells$Plan" (25 : Nat) "MarshBells$Plan" "walk" "I") ∈ lw_tbl := tk_1 (List.mem_of_getElem? (i := 169) rfl)
theorem fl_X7_25 : kFL RX7 25 7 5 3 := ⟨RX7, TX7, rfl, by decide, inWX7, tw_169⟩
theorem ft_X7_3 : kFT 7 3 .int false RX7 := ⟨RX7, TX7, 5, tyX7, rfl, tyX7_ok, nmX7, rfl, by decide +kernel, rfl⟩
theorem dX7_clear_14 : decode cX7_clear 14 = .ok (.putfield 25, 3) := by decide +kernel
theorem dX7_clear_17 : decode cX7_clear 17 = .ok (.aload_n 0, 1) := by decide +kernel
theorem dX7_clear_18 : decode cX7_clear 18 = .ok (.bipush 99, 2) := by decide +kernel
theorem tw_173 : (Jvm.Cond.fieldLink "MarshBells$Plan" (29 : Nat) "MarshBells$Plan" "stair" "I") ∈ lw_tbl := tk_1 (List.mem_of_getElem? (i := 173) rfl)
theorem fl_X7_29 : kFL RX7 29 7 5 4 := ⟨RX7, TX7, rfl, by decide, inWX7, tw_173⟩
theorem ft_X7_4 : kFT 7 4 .int false RX7 := ⟨RX7, TX7, 5, tyX7, rfl, tyX7_ok, nmX7, rfl, by decide +kernel, rfl⟩
theorem dX7_clear_20 : decode cX7_clear 20 = .ok (.putfield 29, 3) := by decide +kernel
theorem dX7_clear_23 : decode cX7_clear 23 = .ok (.return_, 1) := by decide +kernel
theorem tw_324 : (Jvm.Cond.laysFinal "MarshBells$Day" "MarshBells$Day" "held" "LMarshBells$Held;") ∈ lw_tbl := tk_2 (List.mem_of_getElem? (i := 84) rfl)
theorem tw_326 : (Jvm.Cond.laysFinal "MarshBells$Day" "MarshBells$Day" "begins" "[I") ∈ lw_tbl := tk_2 (List.mem_of_getElem? (i := 86) rfl)
theorem tw_328 : (Jvm.Cond.laysFinal "MarshBells$Day" "MarshBells$Day" "ends" "[I") ∈ lw_tbl := tk_2 (List.mem_of_getElem? (i := 88) rfl)
theorem tw_330 : (Jvm.Cond.laysFinal "MarshBells$Day" "MarshBells$Day" "runsOver" "[I") ∈ lw_tbl := tk_2 (List.mem_of_getElem? (i := 90) rfl)
theorem tw_332 : (Jvm.Cond.laysFinal "MarshBells$Day" "MarshBells$Day" "byWhom" "[I") ∈ lw_tbl := tk_2 (List.mem_of_getElem? (i := 92) rfl)
theorem tw_334 : (Jvm.Cond.laysFinal "MarshBells$Day" "MarshBells$Day" "comings" "[I") ∈ lw_tbl := tk_2 (List.mem_of_getElem? (i := 94) rfl)
theorem tw_336 : (Jvm.Cond.laysFinal "MarshBells$Day" "MarshBells$Day" "values" "[I") ∈ lw_tbl := tk_2 (List.mem_of_getElem? (i := 96) rfl)
theorem tw_338 : (Jvm.Cond.lays "MarshBells$Day" "MarshBells$Day" "plan" "LMarshBells$Plan;") ∈ lw_tbl := tk_2 (List.mem_of_getElem? (i := 98) rfl)
theorem tw_340 : (Jvm.Cond.lays "MarshBells$Day" "MarshBells$Day" "running" "I") ∈ lw_tbl := tk_2 (List.mem_of_getElem? (i := 100) rfl)
theorem tw_342 : (Jvm.Cond.lays "MarshBells$Day" "MarshBells$Day" "wide" "I") ∈ lw_tbl := tk_2 (List.mem_of_getElem? (i := 102) rfl)
theorem inWX1 : ∀ w ∈ u_ws RX1 TX1 10, w ∈ lw_tbl := by
  have e : ∀ k, k < 10 → u_lay RX1 TX1 k ∈ lw_tbl := fun k hk => match k, hk with | 0, _ => tw_324 | 1, _ => tw_326 | 2, _ => tw_328 | 3, _ => tw_330 | 4, _ => tw_332 | 5, _ => tw_334 | 6, _ => tw_336 | 7, _ => tw_338 | 8, _ => tw_340 | 9, _ => tw_342 | k + 10, hk => absurd hk (by omega)
  intro w h
  obtain ⟨k, hk, rfl⟩ := List.mem_map.mp h
  exact e k (List.mem_range.mp hk)
theorem tw_300 : (Jvm.Cond.fieldLink "MarshBells$Day" (41 : Nat) "MarshBells$Day" "held" "LMarshBells$Held;") ∈ lw_tbl := tk_2 (List.mem_of_getElem? (i := 60) rfl)
theorem fl_X1_41 : kFL RX1 41 1 10 0 := ⟨RX1, TX1, rfl, by decide, inWX1, tw_300⟩
theorem tw_267 : (Jvm.Cond.laysFinal "MarshBells$Held" "MarshBells$Held" "overs" "[I") ∈ lw_tbl := tk_2 (List.mem_of_getElem? (i := 27) rfl)
theorem tw_269 : (Jvm.Cond.laysFinal "MarshBells$Held" "MarshBells$Held" "gaps" "[I") ∈ lw_tbl := tk_2 (List.mem_of_getElem? (i := 29) rfl)
theorem tw_271 : (Jvm.Cond.laysFinal "MarshBells$Held" "MarshBells$Held" "rooms" "[I") ∈ lw_tbl := tk_2 (List.mem_of_getElem? (i := 31) rfl)
theorem tw_273 : (Jvm.Cond.laysFinal "MarshBells$Held" "MarshBells$Held" "limits" "[I") ∈ lw_tbl := tk_2 (List.mem_of_getElem? (i := 33) rfl)
theorem tw_275 : (Jvm.Cond.laysFinal "MarshBells$Held" "MarshBells$Held" "actKinds" "[I") ∈ lw_tbl := tk_2 (List.mem_of_getElem? (i := 35) rfl)
theorem tw_277 : (Jvm.Cond.laysFinal "MarshBells$Held" "MarshBells$Held" "actLessons" "[I") ∈ lw_tbl := tk_2 (List.mem_of_getElem? (i := 37) rfl)
theorem tw_279 : (Jvm.Cond.laysFinal "MarshBells$Held" "MarshBells$Held" "actOlds" "[I") ∈ lw_tbl := tk_2 (List.mem_of_getElem? (i := 39) rfl)
theorem tw_281 : (Jvm.Cond.laysFinal "MarshBells$Held" "MarshBells$Held" "seenLessons" "[I") ∈ lw_tbl := tk_2 (List.mem_of_getElem? (i := 41) rfl)
theorem tw_283 : (Jvm.Cond.laysFinal "MarshBells$Held" "MarshBells$Held" "seenLates" "[I") ∈ lw_tbl := tk_2 (List.mem_of_getElem? (i := 43) rfl)
theorem tw_285 : (Jvm.Cond.lays "MarshBells$Held" "MarshBells$Held" "acts" "I") ∈ lw_tbl := tk_2 (List.mem_of_getElem? (i := 45) rfl)
theorem tw_287 : (Jvm.Cond.lays "MarshBells$Held" "MarshBells$Held" "seen" "I") ∈ lw_tbl := tk_2 (List.mem_of_getElem? (i := 47) rfl)
theorem tw_289 : (Jvm.Cond.lays "MarshBells$Held" "MarshBells$Held" "rule" "I") ∈ lw_tbl := tk_2 (List.mem_of_getElem? (i := 49) rfl)
theorem inWX3 : ∀ w ∈ u_ws RX3 TX3 12, w ∈ lw_tbl := by
  have e : ∀ k, k < 12 → u_lay RX3 TX3 k ∈ lw_tbl := fun k hk => match k, hk with | 0, _ => tw_267 | 1, _ => tw_269 | 2, _ => tw_271 | 3, _ => tw_273 | 4, _ => tw_275 | 5, _ => tw_277 | 6, _ => tw_279 | 7, _ => tw_281 | 8, _ => tw_283 | 9, _ => tw_285 | 10, _ => tw_287 | 11, _ => tw_289 | k + 12, hk => absurd hk (by omega)
  intro w h
  obtain ⟨k, hk, rfl⟩ := List.mem_map.mp h
  exact e k (List.mem_range.mp hk)
theorem tw_246 : (Jvm.Cond.fieldLinkNest "MarshBells$Day" (120 : Nat) "MarshBells$Held" "rooms" "[I" "MarshBells") ∈ lw_tbl := tk_2 (List.mem_of_getElem? (i := 6) rfl)
theorem fl_X1_120 : kFN RX1 120 3 12 2 := ⟨RX3, TX3, rfl, by decide, inWX3, tw_246⟩
theorem dX1_isUpstairs_0 : decode cX1_isUpstairs 0 = .ok (.aload_n 0, 1) := by decide +kernel
theorem dX1_isUpstairs_1 : decode cX1_isUpstairs 1 = .ok (.getfield 41, 3) := by decide +kernel
theorem dX1_isUpstairs_4 : decode cX1_isUpstairs 4 = .ok (.getfield 120, 3) := by decide +kernel
theorem dX1_isUpstairs_7 : decode cX1_isUpstairs 7 = .ok (.iload_n 1, 1) := by decide +kernel
theorem dX1_isUpstairs_8 : decode cX1_isUpstairs 8 = .ok (.iaload, 1) := by decide +kernel
theorem dX1_isUpstairs_9 : decode cX1_isUpstairs 9 = .ok (.iconst 5, 1) := by decide +kernel
theorem dX1_isUpstairs_18 : decode cX1_isUpstairs 18 = .ok (.ireturn, 1) := by decide +kernel
theorem dX1_isUpstairs_10 : decode cX1_isUpstairs 10 = .ok (.if_icmp .lt 7, 3) := by decide +kernel
theorem dX1_isUpstairs_17 : decode cX1_isUpstairs 17 = .ok (.iconst 0, 1) := by decide +kernel
theorem dX1_isUpstairs_13 : decode cX1_isUpstairs 13 = .ok (.iconst 1, 1) := by decide +kernel
theorem dX1_isUpstairs_14 : decode cX1_isUpstairs 14 = .ok (.goto 4, 3) := by decide +kernel
theorem tw_303 : (Jvm.Cond.fieldLink "MarshBells$Day" (15 : Nat) "MarshBells$Day" "ends" "[I") ∈ lw_tbl := tk_2 (List.mem_of_getElem? (i := 63) rfl)
theorem fl_X1_15 : kFL RX1 15 1 10 2 := ⟨RX1, TX1, rfl, by decide, inWX1, tw_303⟩
theorem tw_314 : (Jvm.Cond.fieldLink "MarshBells$Day" (37 : Nat) "MarshBells$Day" "plan" "LMarshBells$Plan;") ∈ lw_tbl := tk_2 (List.mem_of_getElem? (i := 74) rfl)
theorem fl_X1_37 : kFL RX1 37 1 10 7 := ⟨RX1, TX1, rfl, by decide, inWX1, tw_314⟩
theorem tw_151 : (Jvm.Cond.fieldLinkNest "MarshBells$Day" (58 : Nat) "MarshBells$Plan" "lessons" "[LMarshBells$Lesson;" "MarshBells") ∈ lw_tbl := tk_1 (List.mem_of_getElem? (i := 151) rfl)
theorem fl_X1_58 : kFN RX1 58 7 5 0 := ⟨RX7, TX7, rfl, by decide, inWX7, tw_151⟩
theorem tw_118 : (Jvm.Cond.laysFinal "MarshBells$Lesson" "MarshBells$Lesson" "waitedFor" "[I") ∈ lw_tbl := tk_1 (List.mem_of_getElem? (i := 118) rfl)
theorem tw_120 : (Jvm.Cond.lays "MarshBells$Lesson" "MarshBells$Lesson" "waited" "I") ∈ lw_tbl := tk_1 (List.mem_of_getElem? (i := 120) rfl)
theorem tw_122 : (Jvm.Cond.lays "MarshBells$Lesson" "MarshBells$Lesson" "waitedBits" "I") ∈ lw_tbl := tk_1 (List.mem_of_getElem? (i := 122) rfl)
theorem tw_124 : (Jvm.Cond.lays "MarshBells$Lesson" "MarshBells$Lesson" "from" "I") ∈ lw_tbl := tk_1 (List.mem_of_getElem? (i := 124) rfl)
theorem tw_126 : (Jvm.Cond.lays "MarshBells$Lesson" "MarshBells$Lesson" "to" "I") ∈ lw_tbl := tk_1 (List.mem_of_getElem? (i := 126) rfl)
theorem tw_128 : (Jvm.Cond.lays "MarshBells$Lesson" "MarshBells$Lesson" "least" "I") ∈ lw_tbl := tk_1 (List.mem_of_getElem? (i := 128) rfl)
theorem tw_130 : (Jvm.Cond.lays "MarshBells$Lesson" "MarshBells$Lesson" "over" "I") ∈ lw_tbl := tk_1 (List.mem_of_getElem? (i := 130) rfl)
theorem tw_132 : (Jvm.Cond.lays "MarshBells$Lesson" "MarshBells$Lesson" "room" "I") ∈ lw_tbl := tk_1 (List.mem_of_getElem? (i := 132) rfl)
theorem tw_134 : (Jvm.Cond.lays "MarshBells$Lesson" "MarshBells$Lesson" "people" "I") ∈ lw_tbl := tk_1 (List.mem_of_getElem? (i := 134) rfl)
theorem tw_136 : (Jvm.Cond.lays "MarshBells$Lesson" "MarshBells$Lesson" "sort" "I") ∈ lw_tbl := tk_1 (List.mem_of_getElem? (i := 136) rfl)
theorem tw_138 : (Jvm.Cond.lays "MarshBells$Lesson" "MarshBells$Lesson" "some" "I") ∈ lw_tbl := tk_1 (List.mem_of_getElem? (i := 138) rfl)
theorem tw_140 : (Jvm.Cond.lays "MarshBells$Lesson" "MarshBells$Lesson" "limit" "I") ∈ lw_tbl := tk_1 (List.mem_of_getElem? (i := 140) rfl)
theorem tw_142 : (Jvm.Cond.lays "MarshBells$Lesson" "MarshBells$Lesson" "maybe" "I") ∈ lw_tbl := tk_1 (List.mem_of_getElem? (i := 142) rfl)
theorem tw_144 : (Jvm.Cond.lays "MarshBells$Lesson" "MarshBells$Lesson" "gap" "I") ∈ lw_tbl := tk_1 (List.mem_of_getElem? (i := 144) rfl)
theorem inWX5 : ∀ w ∈ u_ws RX5 TX5 14, w ∈ lw_tbl := by
  have e : ∀ k, k < 14 → u_lay RX5 TX5 k ∈ lw_tbl := fun k hk => match k, hk with | 0, _ => tw_118 | 1, _ => tw_120 | 2, _ => tw_122 | 3, _ => tw_124 | 4, _ => tw_126 | 5, _ => tw_128 | 6, _ => tw_130 | 7, _ => tw_132 | 8, _ => tw_134 | 9, _ => tw_136 | 10, _ => tw_138 | 11, _ => tw_140 | 12, _ => tw_142 | 13, _ => tw_144 | k + 14, hk => absurd hk (by omega)
  intro w h
  obtain ⟨k, hk, rfl⟩ := List.mem_map.mp h
  exact e k (List.mem_range.mp hk)
theorem tw_88 : (Jvm.Cond.fieldLinkNest "MarshBells$Day" (70 : Nat) "MarshBells$Lesson" "to" "I" "MarshBells") ∈ lw_tbl := tk_1 (List.mem_of_getElem? (i := 88) rfl)
theorem fl_X1_70 : kFN RX1 70 5 14 4 := ⟨RX5, TX5, rfl, by decide, inWX5, tw_88⟩
theorem dX1_late_0 : decode cX1_late 0 = .ok (.aload_n 0, 1) := by decide +kernel
theorem dX1_late_1 : decode cX1_late 1 = .ok (.getfield 15, 3) := by decide +kernel
theorem dX1_late_4 : decode cX1_late 4 = .ok (.iload_n 1, 1) := by decide +kernel
theorem dX1_late_5 : decode cX1_late 5 = .ok (.iaload, 1) := by decide +kernel
theorem dX1_late_6 : decode cX1_late 6 = .ok (.aload_n 0, 1) := by decide +kernel
theorem dX1_late_7 : decode cX1_late 7 = .ok (.getfield 37, 3) := by decide +kernel
theorem dX1_late_10 : decode cX1_late 10 = .ok (.getfield 58, 3) := by decide +kernel
theorem dX1_late_13 : decode cX1_late 13 = .ok (.iload_n 1, 1) := by decide +kernel
theorem dX1_late_14 : decode cX1_late 14 = .ok (.aaload, 1) := by decide +kernel
theorem dX1_late_15 : decode cX1_late 15 = .ok (.getfield 70, 3) := by decide +kernel
theorem dX1_late_18 : decode cX1_late 18 = .ok (.isub, 1) := by decide +kernel
theorem dX1_late_19 : decode cX1_late 19 = .ok (.ireturn, 1) := by decide +kernel
theorem tw_162 : (Jvm.Cond.fieldLinkNest "MarshBells$Day" (45 : Nat) "MarshBells$Plan" "lessonCount" "I" "MarshBells") ∈ lw_tbl := tk_1 (List.mem_of_getElem? (i := 162) rfl)
theorem fl_X1_45 : kFN RX1 45 7 5 2 := ⟨RX7, TX7, rfl, by decide, inWX7, tw_162⟩
theorem tw_100 : (Jvm.Cond.fieldLinkNest "MarshBells$Day" (134 : Nat) "MarshBells$Lesson" "people" "I" "MarshBells") ∈ lw_tbl := tk_1 (List.mem_of_getElem? (i := 100) rfl)
theorem fl_X1_134 : kFN RX1 134 5 14 8 := ⟨RX5, TX5, rfl, by decide, inWX5, tw_100⟩
theorem dX1_lost_0 : decode cX1_lost 0 = .ok (.iconst 0, 1) := by decide +kernel
theorem dX1_lost_1 : decode cX1_lost 1 = .ok (.istore_n 1, 1) := by decide +kernel
theorem dX1_lost_2 : decode cX1_lost 2 = .ok (.iconst 0, 1) := by decide +kernel
theorem dX1_lost_3 : decode cX1_lost 3 = .ok (.istore_n 2, 1) := by decide +kernel
theorem dX1_lost_4 : decode cX1_lost 4 = .ok (.iload_n 2, 1) := by decide +kernel
theorem dX1_lost_5 : decode cX1_lost 5 = .ok (.aload_n 0, 1) := by decide +kernel
theorem dX1_lost_6 : decode cX1_lost 6 = .ok (.getfield 37, 3) := by decide +kernel
theorem dX1_lost_9 : decode cX1_lost 9 = .ok (.getfield 45, 3) := by decide +kernel
theorem dX1_lost_12 : decode cX1_lost 12 = .ok (.if_icmp .ge 30, 3) := by decide +kernel
theorem dX1_lost_42 : decode cX1_lost 42 = .ok (.iload_n 1, 1) := by decide +kernel
theorem dX1_lost_43 : decode cX1_lost 43 = .ok (.ireturn, 1) := by decide +kernel
theorem dX1_lost_15 : decode cX1_lost 15 = .ok (.iload_n 1, 1) := by decide +kernel
theorem dX1_lost_16 : decode cX1_lost 16 = .ok (.aload_n 0, 1) := by decide +kernel
theorem dX1_lost_17 : decode cX1_lost 17 = .ok (.getfield 37, 3) := by decide +kernel
theorem dX1_lost_20 : decode cX1_lost 20 = .ok (.getfield 58, 3) := by decide +kernel
theorem dX1_lost_23 : decode cX1_lost 23 = .ok (.iload_n 2, 1) := by decide +kernel
theorem dX1_lost_24 : decode cX1_lost 24 = .ok (.aaload, 1) := by decide +kernel
theorem dX1_lost_25 : decode cX1_lost 25 = .ok (.getfield 134, 3) := by decide +kernel
theorem dX1_lost_28 : decode cX1_lost 28 = .ok (.aload_n 0, 1) := by decide +kernel
theorem dX1_lost_29 : decode cX1_lost 29 = .ok (.iload_n 2, 1) := by decide +kernel
theorem tw_656 : (Jvm.Cond.methodLink "MarshBells$Day" (156 : Nat) ({ cls := "MarshBells$Day", name := "late", desc := "(I)I" } : Jvm.MethodName)) ∈ lw_tbl := tk_3 (List.mem_of_getElem? (i := 176) rfl)
theorem tw_7 : (Jvm.Cond.initialized "MarshBells$Day") ∈ lw_tbl := tk_1 (List.mem_of_getElem? (i := 7) rfl)
theorem tw_659 : (Jvm.Cond.code ({ cls := "MarshBells$Day", name := "late", desc := "(I)I" } : Jvm.MethodName) prog_3_method_11_code (2 : Nat) (Option.some Jvm.ClassFile.FieldType.int)) ∈ lw_tbl := tk_3 (List.mem_of_getElem? (i := 179) rfl)
theorem tw_658 : (Jvm.Cond.instanceMethod ({ cls := "MarshBells$Day", name := "late", desc := "(I)I" } : Jvm.MethodName)) ∈ lw_tbl := tk_3 (List.mem_of_getElem? (i := 178) rfl)
theorem se_X1_late : Cond.selects RX1 yX1_late yX1_late ∈ lw_tbl := List.mem_append_left _ (List.mem_of_getElem? (i := 21) rfl)
theorem li_X1_156 : kLV RX1 156 RX1 yX1_late cX1_late 2 (some .int) 1 := ⟨tw_656, tw_658, se_X1_late, tw_659, tw_7, by decide +kernel⟩
theorem dX1_lost_30 : decode cX1_lost 30 = .ok (.invokevirtual 156, 3) := by decide +kernel
theorem dX1_lost_33 : decode cX1_lost 33 = .ok (.imul, 1) := by decide +kernel
theorem dX1_lost_34 : decode cX1_lost 34 = .ok (.iadd, 1) := by decide +kernel
theorem dX1_lost_35 : decode cX1_lost 35 = .ok (.istore_n 1, 1) := by decide +kernel
theorem dX1_lost_36 : decode cX1_lost 36 = .ok (.iinc 2 1, 3) := by decide +kernel
theorem dX1_lost_39 : decode cX1_lost 39 = .ok (.goto (-35), 3) := by decide +kernel
theorem tw_301 : (Jvm.Cond.fieldLink "MarshBells$Day" (9 : Nat) "MarshBells$Day" "begins" "[I") ∈ lw_tbl := tk_2 (List.mem_of_getElem? (i := 61) rfl)
theorem fl_X1_9 : kFL RX1 9 1 10 1 := ⟨RX1, TX1, rfl, by decide, inWX1, tw_301⟩
theorem tw_84 : (Jvm.Cond.fieldLinkNest "MarshBells$Day" (84 : Nat) "MarshBells$Lesson" "from" "I" "MarshBells") ∈ lw_tbl := tk_1 (List.mem_of_getElem? (i := 84) rfl)
theorem fl_X1_84 : kFN RX1 84 5 14 3 := ⟨RX5, TX5, rfl, by decide, inWX5, tw_84⟩
theorem tw_310 : (Jvm.Cond.fieldLink "MarshBells$Day" (21 : Nat) "MarshBells$Day" "byWhom" "[I") ∈ lw_tbl := tk_2 (List.mem_of_getElem? (i := 70) rfl)
theorem fl_X1_21 : kFL RX1 21 1 10 4 := ⟨RX1, TX1, rfl, by decide, inWX1, tw_310⟩
theorem tw_78 : (Jvm.Cond.fieldLinkNest "MarshBells$Day" (87 : Nat) "MarshBells$Lesson" "waited" "I" "MarshBells") ∈ lw_tbl := tk_1 (List.mem_of_getElem? (i := 78) rfl)
theorem fl_X1_87 : kFN RX1 87 5 14 1 := ⟨RX5, TX5, rfl, by decide, inWX5, tw_78⟩
theorem tw_75 : (Jvm.Cond.fieldLinkNest "MarshBells$Day" (90 : Nat) "MarshBells$Lesson" "waitedFor" "[I" "MarshBells") ∈ lw_tbl := tk_1 (List.mem_of_getElem? (i := 75) rfl)
theorem fl_X1_90 : kFN RX1 90 5 14 0 := ⟨RX5, TX5, rfl, by decide, inWX5, tw_75⟩
theorem tw_104 : (Jvm.Cond.fieldLinkNest "MarshBells$Day" (101 : Nat) "MarshBells$Lesson" "sort" "I" "MarshBells") ∈ lw_tbl := tk_1 (List.mem_of_getElem? (i := 104) rfl)
theorem fl_X1_101 : kFN RX1 101 5 14 9 := ⟨RX5, TX5, rfl, by decide, inWX5, tw_104⟩
theorem tw_312 : (Jvm.Cond.fieldLink "MarshBells$Day" (24 : Nat) "MarshBells$Day" "comings" "[I") ∈ lw_tbl := tk_2 (List.mem_of_getElem? (i := 72) rfl)
theorem fl_X1_24 : kFL RX1 24 1 10 5 := ⟨RX1, TX1, rfl, by decide, inWX1, tw_312⟩
theorem tw_108 : (Jvm.Cond.fieldLinkNest "MarshBells$Day" (104 : Nat) "MarshBells$Lesson" "some" "I" "MarshBells") ∈ lw_tbl := tk_1 (List.mem_of_getElem? (i := 108) rfl)
theorem fl_X1_104 : kFN RX1 104 5 14 10 := ⟨RX5, TX5, rfl, by decide, inWX5, tw_108⟩
theorem dX1_comingOf_0 : decode cX1_comingOf 0 = .ok (.iload_n 3, 1) := by decide +kernel
theorem dX1_comingOf_1 : decode cX1_comingOf 1 = .ok (.istore 4, 2) := by decide +kernel
theorem dX1_comingOf_3 : decode cX1_comingOf 3 = .ok (.iconst 0, 1) := by decide +kernel
theorem dX1_comingOf_4 : decode cX1_comingOf 4 = .ok (.istore 5, 2) := by decide +kernel
theorem dX1_comingOf_6 : decode cX1_comingOf 6 = .ok (.iload 5, 2) := by decide +kernel
theorem dX1_comingOf_8 : decode cX1_comingOf 8 = .ok (.iload_n 2, 1) := by decide +kernel
theorem dX1_comingOf_9 : decode cX1_comingOf 9 = .ok (.if_icmp .ge 81, 3) := by decide +kernel
theorem dX1_comingOf_90 : decode cX1_comingOf 90 = .ok (.iload 4, 2) := by decide +kernel
theorem dX1_comingOf_92 : decode cX1_comingOf 92 = .ok (.ireturn, 1) := by decide +kernel
theorem dX1_comingOf_12 : decode cX1_comingOf 12 = .ok (.iconst 0, 1) := by decide +kernel
theorem dX1_comingOf_13 : decode cX1_comingOf 13 = .ok (.istore 6, 2) := by decide +kernel
theorem dX1_comingOf_15 : decode cX1_comingOf 15 = .ok (.iconst 0, 1) := by decide +kernel
theorem dX1_comingOf_16 : decode cX1_comingOf 16 = .ok (.istore 7, 2) := by decide +kernel
theorem dX1_comingOf_18 : decode cX1_comingOf 18 = .ok (.iload 7, 2) := by decide +kernel
theorem dX1_comingOf_20 : decode cX1_comingOf 20 = .ok (.iload_n 2, 1) := by decide +kernel
theorem dX1_comingOf_21 : decode cX1_comingOf 21 = .ok (.if_icmp .ge 36, 3) := by decide +kernel
theorem dX1_comingOf_57 : decode cX1_comingOf 57 = .ok (.iload 6, 2) := by decide +kernel
theorem dX1_comingOf_59 : decode cX1_comingOf 59 = .ok (.iload_n 1, 1) := by decide +kernel
theorem dX1_comingOf_84 : decode cX1_comingOf 84 = .ok (.iinc 5 1, 3) := by decide +kernel
theorem dX1_comingOf_87 : decode cX1_comingOf 87 = .ok (.goto (-81), 3) := by decide +kernel
theorem dX1_comingOf_60 : decode cX1_comingOf 60 = .ok (.if_icmp .lt 24, 3) := by decide +kernel
theorem dX1_comingOf_63 : decode cX1_comingOf 63 = .ok (.aload_n 0, 1) := by decide +kernel
theorem dX1_comingOf_64 : decode cX1_comingOf 64 = .ok (.getfield 24, 3) := by decide +kernel
theorem dX1_comingOf_67 : decode cX1_comingOf 67 = .ok (.iload 5, 2) := by decide +kernel
theorem dX1_comingOf_69 : decode cX1_comingOf 69 = .ok (.iaload, 1) := by decide +kernel
theorem dX1_comingOf_70 : decode cX1_comingOf 70 = .ok (.iload 4, 2) := by decide +kernel
theorem dX1_comingOf_72 : decode cX1_comingOf 72 = .ok (.if_icmp .ge 12, 3) := by decide +kernel
theorem dX1_comingOf_75 : decode cX1_comingOf 75 = .ok (.aload_n 0, 1) := by decide +kernel
theorem dX1_comingOf_76 : decode cX1_comingOf 76 = .ok (.getfield 24, 3) := by decide +kernel
theorem dX1_comingOf_79 : decode cX1_comingOf 79 = .ok (.iload 5, 2) := by decide +kernel
theorem dX1_comingOf_81 : decode cX1_comingOf 81 = .ok (.iaload, 1) := by decide +kernel
theorem dX1_comingOf_82 : decode cX1_comingOf 82 = .ok (.istore 4, 2) := by decide +kernel
theorem dX1_comingOf_24 : decode cX1_comingOf 24 = .ok (.iload 6, 2) := by decide +kernel
theorem dX1_comingOf_26 : decode cX1_comingOf 26 = .ok (.aload_n 0, 1) := by decide +kernel
theorem dX1_comingOf_27 : decode cX1_comingOf 27 = .ok (.getfield 24, 3) := by decide +kernel
theorem dX1_comingOf_30 : decode cX1_comingOf 30 = .ok (.iload 7, 2) := by decide +kernel
theorem dX1_comingOf_32 : decode cX1_comingOf 32 = .ok (.iaload, 1) := by decide +kernel
theorem dX1_comingOf_33 : decode cX1_comingOf 33 = .ok (.aload_n 0, 1) := by decide +kernel
theorem dX1_comingOf_34 : decode cX1_comingOf 34 = .ok (.getfield 24, 3) := by decide +kernel
theorem dX1_comingOf_37 : decode cX1_comingOf 37 = .ok (.iload 5, 2) := by decide +kernel
theorem dX1_comingOf_39 : decode cX1_comingOf 39 = .ok (.iaload, 1) := by decide +kernel
theorem dX1_comingOf_48 : decode cX1_comingOf 48 = .ok (.iadd, 1) := by decide +kernel
theorem dX1_comingOf_49 : decode cX1_comingOf 49 = .ok (.istore 6, 2) := by decide +kernel
theorem dX1_comingOf_51 : decode cX1_comingOf 51 = .ok (.iinc 7 1, 3) := by decide +kernel
theorem dX1_comingOf_54 : decode cX1_comingOf 54 = .ok (.goto (-36), 3) := by decide +kernel
theorem dX1_comingOf_40 : decode cX1_comingOf 40 = .ok (.if_icmp .gt 7, 3) := by decide +kernel
theorem dX1_comingOf_47 : decode cX1_comingOf 47 = .ok (.iconst 0, 1) := by decide +kernel
theorem dX1_comingOf_43 : decode cX1_comingOf 43 = .ok (.iconst 1, 1) := by decide +kernel
theorem dX1_comingOf_44 : decode cX1_comingOf 44 = .ok (.goto 4, 3) := by decide +kernel
theorem tw_249 : (Jvm.Cond.fieldLinkNest "MarshBells$Day" (111 : Nat) "MarshBells$Held" "limits" "[I" "MarshBells") ∈ lw_tbl := tk_2 (List.mem_of_getElem? (i := 9) rfl)
theorem fl_X1_111 : kFN RX1 111 3 12 3 := ⟨RX3, TX3, rfl, by decide, inWX3, tw_249⟩
theorem tw_171 : (Jvm.Cond.fieldLinkNest "MarshBells$Day" (117 : Nat) "MarshBells$Plan" "walk" "I" "MarshBells") ∈ lw_tbl := tk_1 (List.mem_of_getElem? (i := 171) rfl)
theorem fl_X1_117 : kFN RX1 117 7 5 3 := ⟨RX7, TX7, rfl, by decide, inWX7, tw_171⟩
theorem tw_175 : (Jvm.Cond.fieldLinkNest "MarshBells$Day" (131 : Nat) "MarshBells$Plan" "stair" "I" "MarshBells") ∈ lw_tbl := tk_1 (List.mem_of_getElem? (i := 175) rfl)
theorem fl_X1_131 : kFN RX1 131 7 5 4 := ⟨RX7, TX7, rfl, by decide, inWX7, tw_175⟩
theorem dX1_way_0 : decode cX1_way 0 = .ok (.aload_n 0, 1) := by decide +kernel
theorem dX1_way_1 : decode cX1_way 1 = .ok (.getfield 37, 3) := by decide +kernel
theorem dX1_way_4 : decode cX1_way 4 = .ok (.getfield 117, 3) := by decide +kernel
theorem dX1_way_7 : decode cX1_way 7 = .ok (.aload_n 0, 1) := by decide +kernel
theorem dX1_way_8 : decode cX1_way 8 = .ok (.getfield 41, 3) := by decide +kernel
theorem dX1_way_11 : decode cX1_way 11 = .ok (.getfield 120, 3) := by decide +kernel
theorem dX1_way_14 : decode cX1_way 14 = .ok (.iload_n 1, 1) := by decide +kernel
theorem dX1_way_15 : decode cX1_way 15 = .ok (.iaload, 1) := by decide +kernel
theorem dX1_way_16 : decode cX1_way 16 = .ok (.aload_n 0, 1) := by decide +kernel
theorem dX1_way_17 : decode cX1_way 17 = .ok (.getfield 41, 3) := by decide +kernel
theorem dX1_way_20 : decode cX1_way 20 = .ok (.getfield 120, 3) := by decide +kernel
theorem dX1_way_23 : decode cX1_way 23 = .ok (.iload_n 2, 1) := by decide +kernel
theorem dX1_way_24 : decode cX1_way 24 = .ok (.iaload, 1) := by decide +kernel
theorem dX1_way_25 : decode cX1_way 25 = .ok (.isub, 1) := by decide +kernel
theorem tw_620 : (Jvm.Cond.methodLink "MarshBells$Day" (123 : Nat) ({ cls := "java/lang/Math", name := "abs", desc := "(I)I" } : Jvm.MethodName)) ∈ lw_tbl := tk_3 (List.mem_of_getElem? (i := 140) rfl)
theorem tw_621 : (Jvm.Cond.static ({ cls := "java/lang/Math", name := "abs", desc := "(I)I" } : Jvm.MethodName)) ∈ lw_tbl := tk_3 (List.mem_of_getElem? (i := 141) rfl)
theorem tw_18 : (Jvm.Cond.initialized "java/lang/Math") ∈ lw_tbl := tk_1 (List.mem_of_getElem? (i := 18) rfl)
theorem tw_622 : (Jvm.Cond.code ({ cls := "java/lang/Math", name := "abs", desc := "(I)I" } : Jvm.MethodName) prog_21_method_59_code (1 : Nat) (Option.some Jvm.ClassFile.FieldType.int)) ∈ lw_tbl := tk_3 (List.mem_of_getElem? (i := 142) rfl)
theorem lm_X1_123 : kLA RX1 123 Lib.Math.abs.name Lib.Math.abs.code := ⟨tw_620, tw_621, tw_18, tw_622⟩
theorem dX1_way_26 : decode cX1_way 26 = .ok (.invokestatic 123, 3) := by decide +kernel
theorem dX1_way_29 : decode cX1_way 29 = .ok (.imul, 1) := by decide +kernel
theorem dX1_way_30 : decode cX1_way 30 = .ok (.istore_n 3, 1) := by decide +kernel
theorem dX1_way_31 : decode cX1_way 31 = .ok (.aload_n 0, 1) := by decide +kernel
theorem dX1_way_32 : decode cX1_way 32 = .ok (.iload_n 1, 1) := by decide +kernel
theorem tw_623 : (Jvm.Cond.methodLink "MarshBells$Day" (127 : Nat) ({ cls := "MarshBells$Day", name := "isUpstairs", desc := "(I)Z" } : Jvm.MethodName)) ∈ lw_tbl := tk_3 (List.mem_of_getElem? (i := 143) rfl)
theorem tw_626 : (Jvm.Cond.code ({ cls := "MarshBells$Day", name := "isUpstairs", desc := "(I)Z" } : Jvm.MethodName) prog_3_method_7_code (2 : Nat) (Option.some Jvm.ClassFile.FieldType.boolean)) ∈ lw_tbl := tk_3 (List.mem_of_getElem? (i := 146) rfl)
theorem tw_625 : (Jvm.Cond.instanceMethod ({ cls := "MarshBells$Day", name := "isUpstairs", desc := "(I)Z" } : Jvm.MethodName)) ∈ lw_tbl := tk_3 (List.mem_of_getElem? (i := 145) rfl)
theorem se_X1_isUpstairs : Cond.selects RX1 yX1_isUpstairs yX1_isUpstairs ∈ lw_tbl := List.mem_append_left _ (List.mem_of_getElem? (i := 15) rfl)
theorem li_X1_127 : kLV RX1 127 RX1 yX1_isUpstairs cX1_isUpstairs 2 (some .boolean) 1 := ⟨tw_623, tw_625, se_X1_isUpstairs, tw_626, tw_7, by decide +kernel⟩
theorem dX1_way_33 : decode cX1_way 33 = .ok (.invokevirtual 127, 3) := by decide +kernel
theorem dX1_way_36 : decode cX1_way 36 = .ok (.aload_n 0, 1) := by decide +kernel
theorem dX1_way_37 : decode cX1_way 37 = .ok (.iload_n 2, 1) := by decide +kernel
theorem dX1_way_38 : decode cX1_way 38 = .ok (.invokevirtual 127, 3) := by decide +kernel
theorem dX1_way_55 : decode cX1_way 55 = .ok (.iload_n 3, 1) := by decide +kernel
theorem dX1_way_56 : decode cX1_way 56 = .ok (.ireturn, 1) := by decide +kernel
theorem dX1_way_41 : decode cX1_way 41 = .ok (.if_icmp .eq 14, 3) := by decide +kernel
theorem dX1_way_44 : decode cX1_way 44 = .ok (.aload_n 0, 1) := by decide +kernel
theorem dX1_way_45 : decode cX1_way 45 = .ok (.getfield 37, 3) := by decide +kernel
theorem dX1_way_48 : decode cX1_way 48 = .ok (.getfield 131, 3) := by decide +kernel
theorem dX1_way_51 : decode cX1_way 51 = .ok (.iconst 1, 1) := by decide +kernel
theorem dX1_way_52 : decode cX1_way 52 = .ok (.if_icmp .ge 5, 3) := by decide +kernel
theorem dX1_way_57 : decode cX1_way 57 = .ok (.iload_n 3, 1) := by decide +kernel
theorem dX1_way_58 : decode cX1_way 58 = .ok (.aload_n 0, 1) := by decide +kernel
theorem dX1_way_59 : decode cX1_way 59 = .ok (.getfield 37, 3) := by decide +kernel
theorem dX1_way_62 : decode cX1_way 62 = .ok (.getfield 58, 3) := by decide +kernel
theorem dX1_way_65 : decode cX1_way 65 = .ok (.iload_n 1, 1) := by decide +kernel
theorem dX1_way_66 : decode cX1_way 66 = .ok (.aaload, 1) := by decide +kernel
theorem dX1_way_67 : decode cX1_way 67 = .ok (.getfield 134, 3) := by decide +kernel
theorem dX1_way_70 : decode cX1_way 70 = .ok (.aload_n 0, 1) := by decide +kernel
theorem dX1_way_71 : decode cX1_way 71 = .ok (.getfield 37, 3) := by decide +kernel
theorem dX1_way_74 : decode cX1_way 74 = .ok (.getfield 131, 3) := by decide +kernel
theorem dX1_way_77 : decode cX1_way 77 = .ok (.iadd, 1) := by decide +kernel
theorem dX1_way_78 : decode cX1_way 78 = .ok (.iconst 1, 1) := by decide +kernel
theorem dX1_way_79 : decode cX1_way 79 = .ok (.isub, 1) := by decide +kernel
theorem dX1_way_80 : decode cX1_way 80 = .ok (.aload_n 0, 1) := by decide +kernel
theorem dX1_way_81 : decode cX1_way 81 = .ok (.getfield 37, 3) := by decide +kernel
theorem dX1_way_84 : decode cX1_way 84 = .ok (.getfield 131, 3) := by decide +kernel
theorem dX1_way_87 : decode cX1_way 87 = .ok (.idiv, 1) := by decide +kernel
theorem dX1_way_88 : decode cX1_way 88 = .ok (.iadd, 1) := by decide +kernel
theorem dX1_way_89 : decode cX1_way 89 = .ok (.ireturn, 1) := by decide +kernel
theorem tw_242 : (Jvm.Cond.fieldLinkNest "MarshBells$Day" (96 : Nat) "MarshBells$Held" "gaps" "[I" "MarshBells") ∈ lw_tbl := tk_2 (List.mem_of_getElem? (i := 2) rfl)
theorem fl_X1_96 : kFN RX1 96 3 12 1 := ⟨RX3, TX3, rfl, by decide, inWX3, tw_242⟩
theorem dX1_firstComingAt_0 : decode cX1_firstComingAt 0 = .ok (.iconst 0, 1) := by decide +kernel
theorem dX1_firstComingAt_1 : decode cX1_firstComingAt 1 = .ok (.istore_n 3, 1) := by decide +kernel
theorem dX1_firstComingAt_2 : decode cX1_firstComingAt 2 = .ok (.iload_n 3, 1) := by decide +kernel
theorem dX1_firstComingAt_3 : decode cX1_firstComingAt 3 = .ok (.aload_n 2, 1) := by decide +kernel
theorem dX1_firstComingAt_4 : decode cX1_firstComingAt 4 = .ok (.getfield 87, 3) := by decide +kernel
theorem dX1_firstComingAt_7 : decode cX1_firstComingAt 7 = .ok (.if_icmp .ge 26, 3) := by decide +kernel
theorem dX1_firstComingAt_33 : decode cX1_firstComingAt 33 = .ok (.iconst (-1), 1) := by decide +kernel
theorem dX1_firstComingAt_34 : decode cX1_firstComingAt 34 = .ok (.ireturn, 1) := by decide +kernel
theorem dX1_firstComingAt_10 : decode cX1_firstComingAt 10 = .ok (.aload_n 0, 1) := by decide +kernel
theorem dX1_firstComingAt_11 : decode cX1_firstComingAt 11 = .ok (.getfield 24, 3) := by decide +kernel
theorem dX1_firstComingAt_14 : decode cX1_firstComingAt 14 = .ok (.iload_n 3, 1) := by decide +kernel
theorem dX1_firstComingAt_15 : decode cX1_firstComingAt 15 = .ok (.iaload, 1) := by decide +kernel
theorem dX1_firstComingAt_16 : decode cX1_firstComingAt 16 = .ok (.iload_n 1, 1) := by decide +kernel
theorem dX1_firstComingAt_17 : decode cX1_firstComingAt 17 = .ok (.if_icmp .ne 10, 3) := by decide +kernel
theorem dX1_firstComingAt_27 : decode cX1_firstComingAt 27 = .ok (.iinc 3 1, 3) := by decide +kernel
theorem dX1_firstComingAt_30 : decode cX1_firstComingAt 30 = .ok (.goto (-28), 3) := by decide +kernel
theorem dX1_firstComingAt_20 : decode cX1_firstComingAt 20 = .ok (.aload_n 2, 1) := by decide +kernel
theorem dX1_firstComingAt_21 : decode cX1_firstComingAt 21 = .ok (.getfield 90, 3) := by decide +kernel
theorem dX1_firstComingAt_24 : decode cX1_firstComingAt 24 = .ok (.iload_n 3, 1) := by decide +kernel
theorem dX1_firstComingAt_25 : decode cX1_firstComingAt 25 = .ok (.iaload, 1) := by decide +kernel
theorem dX1_firstComingAt_26 : decode cX1_firstComingAt 26 = .ok (.ireturn, 1) := by decide +kernel
theorem dX1_begin_0 : decode cX1_begin 0 = .ok (.aload_n 0, 1) := by decide +kernel
theorem dX1_begin_1 : decode cX1_begin 1 = .ok (.getfield 9, 3) := by decide +kernel
theorem dX1_begin_4 : decode cX1_begin 4 = .ok (.iload_n 1, 1) := by decide +kernel
theorem dX1_begin_5 : decode cX1_begin 5 = .ok (.aload_n 2, 1) := by decide +kernel
theorem dX1_begin_6 : decode cX1_begin 6 = .ok (.getfield 84, 3) := by decide +kernel
theorem dX1_begin_9 : decode cX1_begin 9 = .ok (.iastore, 1) := by decide +kernel
theorem dX1_begin_10 : decode cX1_begin 10 = .ok (.aload_n 0, 1) := by decide +kernel
theorem dX1_begin_11 : decode cX1_begin 11 = .ok (.getfield 21, 3) := by decide +kernel
theorem dX1_begin_14 : decode cX1_begin 14 = .ok (.iload_n 1, 1) := by decide +kernel
theorem dX1_begin_15 : decode cX1_begin 15 = .ok (.iconst (-1), 1) := by decide +kernel
theorem dX1_begin_16 : decode cX1_begin 16 = .ok (.iastore, 1) := by decide +kernel
theorem dX1_begin_17 : decode cX1_begin 17 = .ok (.aload_n 2, 1) := by decide +kernel
theorem dX1_begin_18 : decode cX1_begin 18 = .ok (.getfield 84, 3) := by decide +kernel
theorem dX1_begin_21 : decode cX1_begin 21 = .ok (.istore_n 3, 1) := by decide +kernel
theorem dX1_begin_22 : decode cX1_begin 22 = .ok (.iconst 0, 1) := by decide +kernel
theorem dX1_begin_23 : decode cX1_begin 23 = .ok (.istore 4, 2) := by decide +kernel
theorem dX1_begin_25 : decode cX1_begin 25 = .ok (.iload 4, 2) := by decide +kernel
theorem dX1_begin_27 : decode cX1_begin 27 = .ok (.aload_n 2, 1) := by decide +kernel
theorem dX1_begin_28 : decode cX1_begin 28 = .ok (.getfield 87, 3) := by decide +kernel
theorem dX1_begin_31 : decode cX1_begin 31 = .ok (.if_icmp .ge 62, 3) := by decide +kernel
theorem dX1_begin_93 : decode cX1_begin 93 = .ok (.aload_n 2, 1) := by decide +kernel
theorem dX1_begin_94 : decode cX1_begin 94 = .ok (.getfield 101, 3) := by decide +kernel
theorem dX1_begin_97 : decode cX1_begin 97 = .ok (.iconst 1, 1) := by decide +kernel
theorem dX1_begin_115 : decode cX1_begin 115 = .ok (.iload_n 3, 1) := by decide +kernel
theorem dX1_begin_116 : decode cX1_begin 116 = .ok (.aload_n 2, 1) := by decide +kernel
theorem dX1_begin_117 : decode cX1_begin 117 = .ok (.getfield 84, 3) := by decide +kernel
theorem dX1_begin_120 : decode cX1_begin 120 = .ok (.if_icmp .gt 4, 3) := by decide +kernel
theorem dX1_begin_124 : decode cX1_begin 124 = .ok (.aload_n 2, 1) := by decide +kernel
theorem dX1_begin_125 : decode cX1_begin 125 = .ok (.getfield 84, 3) := by decide +kernel
theorem dX1_begin_128 : decode cX1_begin 128 = .ok (.aload_n 0, 1) := by decide +kernel
theorem dX1_begin_129 : decode cX1_begin 129 = .ok (.getfield 41, 3) := by decide +kernel
theorem dX1_begin_132 : decode cX1_begin 132 = .ok (.getfield 111, 3) := by decide +kernel
theorem dX1_begin_135 : decode cX1_begin 135 = .ok (.iload_n 1, 1) := by decide +kernel
theorem dX1_begin_136 : decode cX1_begin 136 = .ok (.iaload, 1) := by decide +kernel
theorem dX1_begin_137 : decode cX1_begin 137 = .ok (.iadd, 1) := by decide +kernel
theorem dX1_begin_138 : decode cX1_begin 138 = .ok (.istore 4, 2) := by decide +kernel
theorem dX1_begin_140 : decode cX1_begin 140 = .ok (.iload_n 3, 1) := by decide +kernel
theorem dX1_begin_141 : decode cX1_begin 141 = .ok (.iload 4, 2) := by decide +kernel
theorem dX1_begin_143 : decode cX1_begin 143 = .ok (.if_icmp .le 12, 3) := by decide +kernel
theorem dX1_begin_155 : decode cX1_begin 155 = .ok (.aload_n 0, 1) := by decide +kernel
theorem dX1_begin_156 : decode cX1_begin 156 = .ok (.getfield 9, 3) := by decide +kernel
theorem dX1_begin_159 : decode cX1_begin 159 = .ok (.iload_n 1, 1) := by decide +kernel
theorem dX1_begin_160 : decode cX1_begin 160 = .ok (.iload_n 3, 1) := by decide +kernel
theorem dX1_begin_161 : decode cX1_begin 161 = .ok (.iastore, 1) := by decide +kernel
theorem dX1_begin_162 : decode cX1_begin 162 = .ok (.aload_n 0, 1) := by decide +kernel
theorem dX1_begin_163 : decode cX1_begin 163 = .ok (.getfield 21, 3) := by decide +kernel
theorem dX1_begin_166 : decode cX1_begin 166 = .ok (.iload_n 1, 1) := by decide +kernel
theorem dX1_begin_167 : decode cX1_begin 167 = .ok (.aload_n 0, 1) := by decide +kernel
theorem dX1_begin_168 : decode cX1_begin 168 = .ok (.iload_n 3, 1) := by decide +kernel
theorem dX1_begin_169 : decode cX1_begin 169 = .ok (.aload_n 2, 1) := by decide +kernel
theorem tw_634 : (Jvm.Cond.methodLink "MarshBells$Day" (114 : Nat) ({ cls := "MarshBells$Day", name := "firstComingAt", desc := "(ILMarshBells$Lesson;)I" } : Jvm.MethodName)) ∈ lw_tbl := tk_3 (List.mem_of_getElem? (i := 154) rfl)
theorem tw_637 : (Jvm.Cond.code ({ cls := "MarshBells$Day", name := "firstComingAt", desc := "(ILMarshBells$Lesson;)I" } : Jvm.MethodName) prog_3_method_9_code (4 : Nat) (Option.some Jvm.ClassFile.FieldType.int)) ∈ lw_tbl := tk_3 (List.mem_of_getElem? (i := 157) rfl)
theorem tw_636 : (Jvm.Cond.instanceMethod ({ cls := "MarshBells$Day", name := "firstComingAt", desc := "(ILMarshBells$Lesson;)I" } : Jvm.MethodName)) ∈ lw_tbl := tk_3 (List.mem_of_getElem? (i := 156) rfl)
theorem se_X1_firstComingAt : Cond.selects RX1 yX1_firstComingAt yX1_firstComingAt ∈ lw_tbl := List.mem_append_left _ (List.mem_of_getElem? (i := 17) rfl)
theorem li_X1_114 : kLV RX1 114 RX1 yX1_firstComingAt cX1_firstComingAt 4 (some .int) 2 := ⟨tw_634, tw_636, se_X1_firstComingAt, tw_637, tw_7, by decide +kernel⟩
theorem dX1_begin_170 : decode cX1_begin 170 = .ok (.invokevirtual 114, 3) := by decide +kernel
theorem dX1_begin_173 : decode cX1_begin 173 = .ok (.iastore, 1) := by decide +kernel
theorem dX1_begin_174 : decode cX1_begin 174 = .ok (.return_, 1) := by decide +kernel
theorem dX1_begin_146 : decode cX1_begin 146 = .ok (.aload_n 0, 1) := by decide +kernel
theorem dX1_begin_147 : decode cX1_begin 147 = .ok (.getfield 9, 3) := by decide +kernel
theorem dX1_begin_150 : decode cX1_begin 150 = .ok (.iload_n 1, 1) := by decide +kernel
theorem dX1_begin_151 : decode cX1_begin 151 = .ok (.iload 4, 2) := by decide +kernel
theorem dX1_begin_153 : decode cX1_begin 153 = .ok (.iastore, 1) := by decide +kernel
theorem dX1_begin_154 : decode cX1_begin 154 = .ok (.return_, 1) := by decide +kernel
theorem dX1_begin_123 : decode cX1_begin 123 = .ok (.return_, 1) := by decide +kernel
theorem dX1_begin_98 : decode cX1_begin 98 = .ok (.if_icmp .ne 17, 3) := by decide +kernel
theorem dX1_begin_101 : decode cX1_begin 101 = .ok (.aload_n 0, 1) := by decide +kernel
theorem dX1_begin_102 : decode cX1_begin 102 = .ok (.aload_n 2, 1) := by decide +kernel
theorem dX1_begin_103 : decode cX1_begin 103 = .ok (.getfield 104, 3) := by decide +kernel
theorem dX1_begin_106 : decode cX1_begin 106 = .ok (.aload_n 2, 1) := by decide +kernel
theorem dX1_begin_107 : decode cX1_begin 107 = .ok (.getfield 87, 3) := by decide +kernel
theorem dX1_begin_110 : decode cX1_begin 110 = .ok (.iload_n 3, 1) := by decide +kernel
theorem tw_630 : (Jvm.Cond.methodLink "MarshBells$Day" (107 : Nat) ({ cls := "MarshBells$Day", name := "comingOf", desc := "(III)I" } : Jvm.MethodName)) ∈ lw_tbl := tk_3 (List.mem_of_getElem? (i := 150) rfl)
theorem tw_633 : (Jvm.Cond.code ({ cls := "MarshBells$Day", name := "comingOf", desc := "(III)I" } : Jvm.MethodName) prog_3_method_8_code (8 : Nat) (Option.some Jvm.ClassFile.FieldType.int)) ∈ lw_tbl := tk_3 (List.mem_of_getElem? (i := 153) rfl)
theorem tw_632 : (Jvm.Cond.instanceMethod ({ cls := "MarshBells$Day", name := "comingOf", desc := "(III)I" } : Jvm.MethodName)) ∈ lw_tbl := tk_3 (List.mem_of_getElem? (i := 152) rfl)
theorem se_X1_comingOf : Cond.selects RX1 yX1_comingOf yX1_comingOf ∈ lw_tbl := List.mem_append_left _ (List.mem_of_getElem? (i := 16) rfl)
theorem li_X1_107 : kLV RX1 107 RX1 yX1_comingOf cX1_comingOf 8 (some .int) 3 := ⟨tw_630, tw_632, se_X1_comingOf, tw_633, tw_7, by decide +kernel⟩
theorem dX1_begin_111 : decode cX1_begin 111 = .ok (.invokevirtual 107, 3) := by decide +kernel
theorem dX1_begin_114 : decode cX1_begin 114 = .ok (.istore_n 3, 1) := by decide +kernel
theorem dX1_begin_34 : decode cX1_begin 34 = .ok (.aload_n 2, 1) := by decide +kernel
theorem dX1_begin_35 : decode cX1_begin 35 = .ok (.getfield 90, 3) := by decide +kernel
theorem dX1_begin_38 : decode cX1_begin 38 = .ok (.iload 4, 2) := by decide +kernel
theorem dX1_begin_40 : decode cX1_begin 40 = .ok (.iaload, 1) := by decide +kernel
theorem dX1_begin_41 : decode cX1_begin 41 = .ok (.istore 5, 2) := by decide +kernel
theorem dX1_begin_43 : decode cX1_begin 43 = .ok (.aload_n 0, 1) := by decide +kernel
theorem dX1_begin_44 : decode cX1_begin 44 = .ok (.getfield 24, 3) := by decide +kernel
theorem dX1_begin_47 : decode cX1_begin 47 = .ok (.iload 4, 2) := by decide +kernel
theorem dX1_begin_49 : decode cX1_begin 49 = .ok (.aload_n 0, 1) := by decide +kernel
theorem dX1_begin_50 : decode cX1_begin 50 = .ok (.getfield 15, 3) := by decide +kernel
theorem dX1_begin_53 : decode cX1_begin 53 = .ok (.iload 5, 2) := by decide +kernel
theorem dX1_begin_55 : decode cX1_begin 55 = .ok (.iaload, 1) := by decide +kernel
theorem dX1_begin_56 : decode cX1_begin 56 = .ok (.aload_n 0, 1) := by decide +kernel
theorem dX1_begin_57 : decode cX1_begin 57 = .ok (.iload 5, 2) := by decide +kernel
theorem dX1_begin_59 : decode cX1_begin 59 = .ok (.iload_n 1, 1) := by decide +kernel
theorem tw_616 : (Jvm.Cond.methodLink "MarshBells$Day" (93 : Nat) ({ cls := "MarshBells$Day", name := "way", desc := "(II)I" } : Jvm.MethodName)) ∈ lw_tbl := tk_3 (List.mem_of_getElem? (i := 136) rfl)
theorem tw_619 : (Jvm.Cond.code ({ cls := "MarshBells$Day", name := "way", desc := "(II)I" } : Jvm.MethodName) prog_3_method_6_code (4 : Nat) (Option.some Jvm.ClassFile.FieldType.int)) ∈ lw_tbl := tk_3 (List.mem_of_getElem? (i := 139) rfl)
theorem tw_618 : (Jvm.Cond.instanceMethod ({ cls := "MarshBells$Day", name := "way", desc := "(II)I" } : Jvm.MethodName)) ∈ lw_tbl := tk_3 (List.mem_of_getElem? (i := 138) rfl)
theorem se_X1_way : Cond.selects RX1 yX1_way yX1_way ∈ lw_tbl := List.mem_append_left _ (List.mem_of_getElem? (i := 14) rfl)
theorem li_X1_93 : kLV RX1 93 RX1 yX1_way cX1_way 4 (some .int) 2 := ⟨tw_616, tw_618, se_X1_way, tw_619, tw_7, by decide +kernel⟩
theorem dX1_begin_60 : decode cX1_begin 60 = .ok (.invokevirtual 93, 3) := by decide +kernel
theorem dX1_begin_63 : decode cX1_begin 63 = .ok (.iadd, 1) := by decide +kernel
theorem dX1_begin_64 : decode cX1_begin 64 = .ok (.aload_n 0, 1) := by decide +kernel
theorem dX1_begin_65 : decode cX1_begin 65 = .ok (.getfield 41, 3) := by decide +kernel
theorem dX1_begin_68 : decode cX1_begin 68 = .ok (.getfield 96, 3) := by decide +kernel
theorem dX1_begin_71 : decode cX1_begin 71 = .ok (.iload_n 1, 1) := by decide +kernel
theorem dX1_begin_72 : decode cX1_begin 72 = .ok (.iaload, 1) := by decide +kernel
theorem dX1_begin_73 : decode cX1_begin 73 = .ok (.isub, 1) := by decide +kernel
theorem dX1_begin_74 : decode cX1_begin 74 = .ok (.iastore, 1) := by decide +kernel
theorem dX1_begin_75 : decode cX1_begin 75 = .ok (.iload_n 3, 1) := by decide +kernel
theorem dX1_begin_76 : decode cX1_begin 76 = .ok (.aload_n 0, 1) := by decide +kernel
theorem dX1_begin_77 : decode cX1_begin 77 = .ok (.getfield 24, 3) := by decide +kernel
theorem dX1_begin_80 : decode cX1_begin 80 = .ok (.iload 4, 2) := by decide +kernel
theorem dX1_begin_82 : decode cX1_begin 82 = .ok (.iaload, 1) := by decide +kernel
theorem tw_627 : (Jvm.Cond.methodLink "MarshBells$Day" (78 : Nat) ({ cls := "java/lang/Math", name := "max", desc := "(II)I" } : Jvm.MethodName)) ∈ lw_tbl := tk_3 (List.mem_of_getElem? (i := 147) rfl)
theorem tw_628 : (Jvm.Cond.static ({ cls := "java/lang/Math", name := "max", desc := "(II)I" } : Jvm.MethodName)) ∈ lw_tbl := tk_3 (List.mem_of_getElem? (i := 148) rfl)
theorem tw_629 : (Jvm.Cond.code ({ cls := "java/lang/Math", name := "max", desc := "(II)I" } : Jvm.MethodName) prog_21_method_65_code (2 : Nat) (Option.some Jvm.ClassFile.FieldType.int)) ∈ lw_tbl := tk_3 (List.mem_of_getElem? (i := 149) rfl)
theorem lm_X1_78 : kLM RX1 78 Lib.Math.max.name Lib.Math.max.code := ⟨tw_627, tw_628, tw_18, tw_629⟩
theorem dX1_begin_83 : decode cX1_begin 83 = .ok (.invokestatic 78, 3) := by decide +kernel
theorem dX1_begin_86 : decode cX1_begin 86 = .ok (.istore_n 3, 1) := by decide +kernel
theorem dX1_begin_87 : decode cX1_begin 87 = .ok (.iinc 4 1, 3) := by decide +kernel
theorem dX1_begin_90 : decode cX1_begin 90 = .ok (.goto (-65), 3) := by decide +kernel
theorem tw_308 : (Jvm.Cond.fieldLink "MarshBells$Day" (18 : Nat) "MarshBells$Day" "runsOver" "[I") ∈ lw_tbl := tk_2 (List.mem_of_getElem? (i := 68) rfl)
theorem fl_X1_18 : kFL RX1 18 1 10 3 := ⟨RX1, TX1, rfl, by decide, inWX1, tw_308⟩
theorem tw_320 : (Jvm.Cond.fieldLink "MarshBells$Day" (30 : Nat) "MarshBells$Day" "running" "I") ∈ lw_tbl := tk_2 (List.mem_of_getElem? (i := 80) rfl)
theorem fl_X1_30 : kFL RX1 30 1 10 8 := ⟨RX1, TX1, rfl, by decide, inWX1, tw_320⟩
theorem tw_322 : (Jvm.Cond.fieldLink "MarshBells$Day" (34 : Nat) "MarshBells$Day" "wide" "I") ∈ lw_tbl := tk_2 (List.mem_of_getElem? (i := 82) rfl)
theorem fl_X1_34 : kFL RX1 34 1 10 9 := ⟨RX1, TX1, rfl, by decide, inWX1, tw_322⟩
theorem tw_239 : (Jvm.Cond.fieldLinkNest "MarshBells$Day" (137 : Nat) "MarshBells$Held" "overs" "[I" "MarshBells") ∈ lw_tbl := tk_1 (List.mem_of_getElem? (i := 239) rfl)
theorem fl_X1_137 : kFN RX1 137 3 12 0 := ⟨RX3, TX3, rfl, by decide, inWX3, tw_239⟩
theorem tw_265 : (Jvm.Cond.fieldLinkNest "MarshBells$Day" (140 : Nat) "MarshBells$Held" "rule" "I" "MarshBells") ∈ lw_tbl := tk_2 (List.mem_of_getElem? (i := 25) rfl)
theorem fl_X1_140 : kFN RX1 140 3 12 11 := ⟨RX3, TX3, rfl, by decide, inWX3, tw_265⟩
theorem tw_313 : (Jvm.Cond.fieldLink "MarshBells$Day" (27 : Nat) "MarshBells$Day" "values" "[I") ∈ lw_tbl := tk_2 (List.mem_of_getElem? (i := 73) rfl)
theorem fl_X1_27 : kFL RX1 27 1 10 6 := ⟨RX1, TX1, rfl, by decide, inWX1, tw_313⟩
theorem tw_158 : (Jvm.Cond.fieldLinkNest "MarshBells$Day" (143 : Nat) "MarshBells$Plan" "rules" "LMarshBells$Rules;" "MarshBells") ∈ lw_tbl := tk_1 (List.mem_of_getElem? (i := 158) rfl)
theorem fl_X1_143 : kFN RX1 143 7 5 1 := ⟨RX7, TX7, rfl, by decide, inWX7, tw_158⟩
theorem tw_49 : (Jvm.Cond.fieldLink "MarshBells$Rules" (15 : Nat) "MarshBells$Rules" "bounds" "[I") ∈ lw_tbl := tk_1 (List.mem_of_getElem? (i := 49) rfl)
theorem fl_X8_15 : kFL RX8 15 8 5 1 := ⟨RX8, TX8, rfl, by decide, inWX8, tw_49⟩
theorem tw_48 : (Jvm.Cond.fieldLink "MarshBells$Rules" (9 : Nat) "MarshBells$Rules" "steps" "[I") ∈ lw_tbl := tk_1 (List.mem_of_getElem? (i := 48) rfl)
theorem fl_X8_9 : kFL RX8 9 8 5 0 := ⟨RX8, TX8, rfl, by decide, inWX8, tw_48⟩
theorem tw_50 : (Jvm.Cond.fieldLink "MarshBells$Rules" (18 : Nat) "MarshBells$Rules" "stack" "[I") ∈ lw_tbl := tk_1 (List.mem_of_getElem? (i := 50) rfl)
theorem fl_X8_18 : kFL RX8 18 8 5 2 := ⟨RX8, TX8, rfl, by decide, inWX8, tw_50⟩
theorem dX8_joined_0 : decode cX8_joined 0 = .ok (.iload_n 0, 1) := by decide +kernel
theorem dX8_joined_1 : decode cX8_joined 1 = .ok (.tableswitch 103 (-13) (-7) #[89, 78, 67, 55, 51, 47, 43], 43) := by decide +kernel
theorem dX8_joined_90 : decode cX8_joined 90 = .ok (.iload_n 1, 1) := by decide +kernel
theorem dX8_joined_103 : decode cX8_joined 103 = .ok (.ireturn, 1) := by decide +kernel
theorem dX8_joined_102 : decode cX8_joined 102 = .ok (.iconst 0, 1) := by decide +kernel
theorem dX8_joined_91 : decode cX8_joined 91 = .ok (.ifCond .eq 11, 3) := by decide +kernel
theorem dX8_joined_94 : decode cX8_joined 94 = .ok (.iload_n 2, 1) := by decide +kernel
theorem dX8_joined_95 : decode cX8_joined 95 = .ok (.ifCond .eq 7, 3) := by decide +kernel
theorem dX8_joined_98 : decode cX8_joined 98 = .ok (.iconst 1, 1) := by decide +kernel
theorem dX8_joined_99 : decode cX8_joined 99 = .ok (.goto 4, 3) := by decide +kernel
theorem dX8_joined_79 : decode cX8_joined 79 = .ok (.iload_n 1, 1) := by decide +kernel
theorem dX8_joined_80 : decode cX8_joined 80 = .ok (.iload_n 2, 1) := by decide +kernel
theorem dX8_joined_89 : decode cX8_joined 89 = .ok (.ireturn, 1) := by decide +kernel
theorem dX8_joined_81 : decode cX8_joined 81 = .ok (.if_icmp .ne 7, 3) := by decide +kernel
theorem dX8_joined_88 : decode cX8_joined 88 = .ok (.iconst 0, 1) := by decide +kernel
theorem dX8_joined_84 : decode cX8_joined 84 = .ok (.iconst 1, 1) := by decide +kernel
theorem dX8_joined_85 : decode cX8_joined 85 = .ok (.goto 4, 3) := by decide +kernel
theorem dX8_joined_68 : decode cX8_joined 68 = .ok (.iload_n 1, 1) := by decide +kernel
theorem dX8_joined_69 : decode cX8_joined 69 = .ok (.iload_n 2, 1) := by decide +kernel
theorem dX8_joined_78 : decode cX8_joined 78 = .ok (.ireturn, 1) := by decide +kernel
theorem dX8_joined_70 : decode cX8_joined 70 = .ok (.if_icmp .ge 7, 3) := by decide +kernel
theorem dX8_joined_77 : decode cX8_joined 77 = .ok (.iconst 0, 1) := by decide +kernel
theorem dX8_joined_73 : decode cX8_joined 73 = .ok (.iconst 1, 1) := by decide +kernel
theorem dX8_joined_74 : decode cX8_joined 74 = .ok (.goto 4, 3) := by decide +kernel
theorem dX8_joined_56 : decode cX8_joined 56 = .ok (.iload_n 2, 1) := by decide +kernel
theorem dX8_joined_67 : decode cX8_joined 67 = .ok (.ireturn, 1) := by decide +kernel
theorem dX8_joined_57 : decode cX8_joined 57 = .ok (.ifCond .ne 7, 3) := by decide +kernel
theorem dX8_joined_64 : decode cX8_joined 64 = .ok (.iload_n 1, 1) := by decide +kernel
theorem dX8_joined_65 : decode cX8_joined 65 = .ok (.iload_n 2, 1) := by decide +kernel
theorem dX8_joined_66 : decode cX8_joined 66 = .ok (.idiv, 1) := by decide +kernel
theorem dX8_joined_60 : decode cX8_joined 60 = .ok (.iconst 0, 1) := by decide +kernel
theorem dX8_joined_61 : decode cX8_joined 61 = .ok (.goto 6, 3) := by decide +kernel
theorem dX8_joined_52 : decode cX8_joined 52 = .ok (.iload_n 1, 1) := by decide +kernel
theorem dX8_joined_53 : decode cX8_joined 53 = .ok (.iload_n 2, 1) := by decide +kernel
theorem dX8_joined_54 : decode cX8_joined 54 = .ok (.imul, 1) := by decide +kernel
theorem dX8_joined_55 : decode cX8_joined 55 = .ok (.ireturn, 1) := by decide +kernel
theorem dX8_joined_48 : decode cX8_joined 48 = .ok (.iload_n 1, 1) := by decide +kernel
theorem dX8_joined_49 : decode cX8_joined 49 = .ok (.iload_n 2, 1) := by decide +kernel
theorem dX8_joined_50 : decode cX8_joined 50 = .ok (.isub, 1) := by decide +kernel
theorem dX8_joined_51 : decode cX8_joined 51 = .ok (.ireturn, 1) := by decide +kernel
theorem dX8_joined_44 : decode cX8_joined 44 = .ok (.iload_n 1, 1) := by decide +kernel
theorem dX8_joined_45 : decode cX8_joined 45 = .ok (.iload_n 2, 1) := by decide +kernel
theorem dX8_joined_46 : decode cX8_joined 46 = .ok (.iadd, 1) := by decide +kernel
theorem dX8_joined_47 : decode cX8_joined 47 = .ok (.ireturn, 1) := by decide +kernel
theorem dX8_joined_104 : decode cX8_joined 104 = .ok (.iload_n 1, 1) := by decide +kernel
theorem dX8_joined_117 : decode cX8_joined 117 = .ok (.ireturn, 1) := by decide +kernel
theorem dX8_joined_112 : decode cX8_joined 112 = .ok (.iconst 1, 1) := by decide +kernel
theorem dX8_joined_113 : decode cX8_joined 113 = .ok (.goto 4, 3) := by decide +kernel
theorem dX8_joined_105 : decode cX8_joined 105 = .ok (.ifCond .ne 7, 3) := by decide +kernel
theorem dX8_joined_108 : decode cX8_joined 108 = .ok (.iload_n 2, 1) := by decide +kernel
theorem dX8_joined_109 : decode cX8_joined 109 = .ok (.ifCond .eq 7, 3) := by decide +kernel
theorem dX8_joined_116 : decode cX8_joined 116 = .ok (.iconst 0, 1) := by decide +kernel
theorem dX8_value_0 : decode cX8_value 0 = .ok (.iload_n 1, 1) := by decide +kernel
theorem dX8_value_12 : decode cX8_value 12 = .ok (.iconst 0, 1) := by decide +kernel
theorem dX8_value_13 : decode cX8_value 13 = .ok (.ireturn, 1) := by decide +kernel
theorem dX8_value_1 : decode cX8_value 1 = .ok (.ifCond .lt 11, 3) := by decide +kernel
theorem dX8_value_4 : decode cX8_value 4 = .ok (.iload_n 1, 1) := by decide +kernel
theorem dX8_value_5 : decode cX8_value 5 = .ok (.aload_n 0, 1) := by decide +kernel
theorem dX8_value_6 : decode cX8_value 6 = .ok (.getfield 21, 3) := by decide +kernel
theorem dX8_value_9 : decode cX8_value 9 = .ok (.if_icmp .lt 5, 3) := by decide +kernel
theorem dX8_value_14 : decode cX8_value 14 = .ok (.iconst 0, 1) := by decide +kernel
theorem dX8_value_15 : decode cX8_value 15 = .ok (.istore_n 3, 1) := by decide +kernel
theorem dX8_value_16 : decode cX8_value 16 = .ok (.aload_n 0, 1) := by decide +kernel
theorem dX8_value_17 : decode cX8_value 17 = .ok (.getfield 15, 3) := by decide +kernel
theorem dX8_value_20 : decode cX8_value 20 = .ok (.iload_n 1, 1) := by decide +kernel
theorem dX8_value_21 : decode cX8_value 21 = .ok (.iaload, 1) := by decide +kernel
theorem dX8_value_22 : decode cX8_value 22 = .ok (.istore 4, 2) := by decide +kernel
theorem dX8_value_24 : decode cX8_value 24 = .ok (.iload 4, 2) := by decide +kernel
theorem dX8_value_26 : decode cX8_value 26 = .ok (.aload_n 0, 1) := by decide +kernel
theorem dX8_value_27 : decode cX8_value 27 = .ok (.getfield 15, 3) := by decide +kernel
theorem dX8_value_30 : decode cX8_value 30 = .ok (.iload_n 1, 1) := by decide +kernel
theorem dX8_value_31 : decode cX8_value 31 = .ok (.iconst 1, 1) := by decide +kernel
theorem dX8_value_32 : decode cX8_value 32 = .ok (.iadd, 1) := by decide +kernel
theorem dX8_value_33 : decode cX8_value 33 = .ok (.iaload, 1) := by decide +kernel
theorem dX8_value_34 : decode cX8_value 34 = .ok (.if_icmp .ge 139, 3) := by decide +kernel
theorem dX8_value_173 : decode cX8_value 173 = .ok (.iload_n 3, 1) := by decide +kernel
theorem dX8_value_174 : decode cX8_value 174 = .ok (.iconst 1, 1) := by decide +kernel
theorem dX8_value_188 : decode cX8_value 188 = .ok (.ireturn, 1) := by decide +kernel
theorem dX8_value_175 : decode cX8_value 175 = .ok (.if_icmp .ne 12, 3) := by decide +kernel
theorem dX8_value_187 : decode cX8_value 187 = .ok (.iconst 0, 1) := by decide +kernel
theorem dX8_value_178 : decode cX8_value 178 = .ok (.aload_n 0, 1) := by decide +kernel
theorem dX8_value_179 : decode cX8_value 179 = .ok (.getfield 18, 3) := by decide +kernel
theorem dX8_value_182 : decode cX8_value 182 = .ok (.iconst 0, 1) := by decide +kernel
theorem dX8_value_183 : decode cX8_value 183 = .ok (.iaload, 1) := by decide +kernel
theorem dX8_value_184 : decode cX8_value 184 = .ok (.goto 4, 3) := by decide +kernel
theorem dX8_value_37 : decode cX8_value 37 = .ok (.aload_n 0, 1) := by decide +kernel
theorem dX8_value_38 : decode cX8_value 38 = .ok (.getfield 9, 3) := by decide +kernel
theorem dX8_value_41 : decode cX8_value 41 = .ok (.iload 4, 2) := by decide +kernel
theorem dX8_value_43 : decode cX8_value 43 = .ok (.iaload, 1) := by decide +kernel
theorem dX8_value_44 : decode cX8_value 44 = .ok (.istore 5, 2) := by decide +kernel
theorem dX8_value_46 : decode cX8_value 46 = .ok (.iload 5, 2) := by decide +kernel
theorem dX8_value_48 : decode cX8_value 48 = .ok (.bipush (-6), 2) := by decide +kernel
theorem dX8_value_167 : decode cX8_value 167 = .ok (.iinc 4 1, 3) := by decide +kernel
theorem dX8_value_170 : decode cX8_value 170 = .ok (.goto (-146), 3) := by decide +kernel
theorem dX8_value_50 : decode cX8_value 50 = .ok (.if_icmp .lt 39, 3) := by decide +kernel
theorem dX8_value_89 : decode cX8_value 89 = .ok (.iload 5, 2) := by decide +kernel
theorem dX8_value_91 : decode cX8_value 91 = .ok (.bipush (-15), 2) := by decide +kernel
theorem dX8_value_93 : decode cX8_value 93 = .ok (.if_icmp .ne 37, 3) := by decide +kernel
theorem dX8_value_130 : decode cX8_value 130 = .ok (.iload_n 3, 1) := by decide +kernel
theorem dX8_value_131 : decode cX8_value 131 = .ok (.iconst 2, 1) := by decide +kernel
theorem dX8_value_132 : decode cX8_value 132 = .ok (.if_icmp .ge 5, 3) := by decide +kernel
theorem dX8_value_137 : decode cX8_value 137 = .ok (.iinc 3 (-1), 3) := by decide +kernel
theorem dX8_value_140 : decode cX8_value 140 = .ok (.aload_n 0, 1) := by decide +kernel
theorem dX8_value_141 : decode cX8_value 141 = .ok (.getfield 18, 3) := by decide +kernel
theorem dX8_value_144 : decode cX8_value 144 = .ok (.iload_n 3, 1) := by decide +kernel
theorem dX8_value_145 : decode cX8_value 145 = .ok (.iconst 1, 1) := by decide +kernel
theorem dX8_value_146 : decode cX8_value 146 = .ok (.isub, 1) := by decide +kernel
theorem dX8_value_147 : decode cX8_value 147 = .ok (.iload 5, 2) := by decide +kernel
theorem dX8_value_149 : decode cX8_value 149 = .ok (.aload_n 0, 1) := by decide +kernel
theorem dX8_value_150 : decode cX8_value 150 = .ok (.getfield 18, 3) := by decide +kernel
theorem dX8_value_153 : decode cX8_value 153 = .ok (.iload_n 3, 1) := by decide +kernel
theorem dX8_value_154 : decode cX8_value 154 = .ok (.iconst 1, 1) := by decide +kernel
theorem dX8_value_155 : decode cX8_value 155 = .ok (.isub, 1) := by decide +kernel
theorem dX8_value_156 : decode cX8_value 156 = .ok (.iaload, 1) := by decide +kernel
theorem dX8_value_157 : decode cX8_value 157 = .ok (.aload_n 0, 1) := by decide +kernel
theorem dX8_value_158 : decode cX8_value 158 = .ok (.getfield 18, 3) := by decide +kernel
theorem dX8_value_161 : decode cX8_value 161 = .ok (.iload_n 3, 1) := by decide +kernel
theorem dX8_value_162 : decode cX8_value 162 = .ok (.iaload, 1) := by decide +kernel
theorem tw_646 : (Jvm.Cond.methodLink "MarshBells$Rules" (28 : Nat) ({ cls := "MarshBells$Rules", name := "joined", desc := "(III)I" } : Jvm.MethodName)) ∈ lw_tbl := tk_3 (List.mem_of_getElem? (i := 166) rfl)
theorem tw_648 : (Jvm.Cond.code ({ cls := "MarshBells$Rules", name := "joined", desc := "(III)I" } : Jvm.MethodName) prog_10_method_6_code (3 : Nat) (Option.some Jvm.ClassFile.FieldType.int)) ∈ lw_tbl := tk_3 (List.mem_of_getElem? (i := 168) rfl)
theorem tw_647 : (Jvm.Cond.static ({ cls := "MarshBells$Rules", name := "joined", desc := "(III)I" } : Jvm.MethodName)) ∈ lw_tbl := tk_3 (List.mem_of_getElem? (i := 167) rfl)
theorem li_X8_28 : kLS RX8 28 yX8_joined cX8_joined 3 (some .int) 3 := ⟨tw_646, tw_647, tw_648, tw_3, by decide +kernel⟩
theorem dX8_value_163 : decode cX8_value 163 = .ok (.invokestatic 28, 3) := by decide +kernel
theorem dX8_value_166 : decode cX8_value 166 = .ok (.iastore, 1) := by decide +kernel
theorem dX8_value_135 : decode cX8_value 135 = .ok (.iconst 0, 1) := by decide +kernel
theorem dX8_value_136 : decode cX8_value 136 = .ok (.ireturn, 1) := by decide +kernel
theorem dX8_value_96 : decode cX8_value 96 = .ok (.iload_n 3, 1) := by decide +kernel
theorem dX8_value_97 : decode cX8_value 97 = .ok (.iconst 1, 1) := by decide +kernel
theorem dX8_value_98 : decode cX8_value 98 = .ok (.if_icmp .ge 5, 3) := by decide +kernel
theorem dX8_value_103 : decode cX8_value 103 = .ok (.aload_n 0, 1) := by decide +kernel
theorem dX8_value_104 : decode cX8_value 104 = .ok (.getfield 18, 3) := by decide +kernel
theorem dX8_value_107 : decode cX8_value 107 = .ok (.iload_n 3, 1) := by decide +kernel
theorem dX8_value_108 : decode cX8_value 108 = .ok (.iconst 1, 1) := by decide +kernel
theorem dX8_value_109 : decode cX8_value 109 = .ok (.isub, 1) := by decide +kernel
theorem dX8_value_110 : decode cX8_value 110 = .ok (.aload_n 0, 1) := by decide +kernel
theorem dX8_value_111 : decode cX8_value 111 = .ok (.getfield 18, 3) := by decide +kernel
theorem dX8_value_114 : decode cX8_value 114 = .ok (.iload_n 3, 1) := by decide +kernel
theorem dX8_value_115 : decode cX8_value 115 = .ok (.iconst 1, 1) := by decide +kernel
theorem dX8_value_116 : decode cX8_value 116 = .ok (.isub, 1) := by decide +kernel
theorem dX8_value_117 : decode cX8_value 117 = .ok (.iaload, 1) := by decide +kernel
theorem dX8_value_126 : decode cX8_value 126 = .ok (.iastore, 1) := by decide +kernel
theorem dX8_value_127 : decode cX8_value 127 = .ok (.goto 40, 3) := by decide +kernel
theorem dX8_value_118 : decode cX8_value 118 = .ok (.ifCond .ne 7, 3) := by decide +kernel
theorem dX8_value_125 : decode cX8_value 125 = .ok (.iconst 0, 1) := by decide +kernel
theorem dX8_value_121 : decode cX8_value 121 = .ok (.iconst 1, 1) := by decide +kernel
theorem dX8_value_122 : decode cX8_value 122 = .ok (.goto 4, 3) := by decide +kernel
theorem dX8_value_101 : decode cX8_value 101 = .ok (.iconst 0, 1) := by decide +kernel
theorem dX8_value_102 : decode cX8_value 102 = .ok (.ireturn, 1) := by decide +kernel
theorem dX8_value_53 : decode cX8_value 53 = .ok (.iload_n 3, 1) := by decide +kernel
theorem dX8_value_54 : decode cX8_value 54 = .ok (.bipush 64, 2) := by decide +kernel
theorem dX8_value_56 : decode cX8_value 56 = .ok (.if_icmp .lt 5, 3) := by decide +kernel
theorem dX8_value_61 : decode cX8_value 61 = .ok (.aload_n 0, 1) := by decide +kernel
theorem dX8_value_62 : decode cX8_value 62 = .ok (.getfield 18, 3) := by decide +kernel
theorem dX8_value_65 : decode cX8_value 65 = .ok (.iload_n 3, 1) := by decide +kernel
theorem dX8_value_66 : decode cX8_value 66 = .ok (.iload 5, 2) := by decide +kernel
theorem dX8_value_82 : decode cX8_value 82 = .ok (.iastore, 1) := by decide +kernel
theorem dX8_value_83 : decode cX8_value 83 = .ok (.iinc 3 1, 3) := by decide +kernel
theorem dX8_value_86 : decode cX8_value 86 = .ok (.goto 81, 3) := by decide +kernel
theorem dX8_value_68 : decode cX8_value 68 = .ok (.ifCond .lt 8, 3) := by decide +kernel
theorem dX8_value_76 : decode cX8_value 76 = .ok (.aload_n 2, 1) := by decide +kernel
theorem dX8_value_77 : decode cX8_value 77 = .ok (.iconst (-1), 1) := by decide +kernel
theorem dX8_value_78 : decode cX8_value 78 = .ok (.iload 5, 2) := by decide +kernel
theorem dX8_value_80 : decode cX8_value 80 = .ok (.isub, 1) := by decide +kernel
theorem dX8_value_81 : decode cX8_value 81 = .ok (.iaload, 1) := by decide +kernel
theorem dX8_value_71 : decode cX8_value 71 = .ok (.iload 5, 2) := by decide +kernel
theorem dX8_value_73 : decode cX8_value 73 = .ok (.goto 9, 3) := by decide +kernel
theorem dX8_value_59 : decode cX8_value 59 = .ok (.iconst 0, 1) := by decide +kernel
theorem dX8_value_60 : decode cX8_value 60 = .ok (.ireturn, 1) := by decide +kernel
theorem dX1_overrun_0 : decode cX1_overrun 0 = .ok (.aload_n 0, 1) := by decide +kernel
theorem dX1_overrun_1 : decode cX1_overrun 1 = .ok (.getfield 30, 3) := by decide +kernel
theorem dX1_overrun_4 : decode cX1_overrun 4 = .ok (.iload_n 1, 1) := by decide +kernel
theorem dX1_overrun_5 : decode cX1_overrun 5 = .ok (.ishr, 1) := by decide +kernel
theorem dX1_overrun_6 : decode cX1_overrun 6 = .ok (.iconst 1, 1) := by decide +kernel
theorem dX1_overrun_7 : decode cX1_overrun 7 = .ok (.iand, 1) := by decide +kernel
theorem dX1_overrun_8 : decode cX1_overrun 8 = .ok (.ifCond .ne 5, 3) := by decide +kernel
theorem dX1_overrun_13 : decode cX1_overrun 13 = .ok (.iload_n 1, 1) := by decide +kernel
theorem dX1_overrun_14 : decode cX1_overrun 14 = .ok (.aload_n 0, 1) := by decide +kernel
theorem dX1_overrun_15 : decode cX1_overrun 15 = .ok (.getfield 34, 3) := by decide +kernel
theorem dX1_overrun_29 : decode cX1_overrun 29 = .ok (.istore_n 3, 1) := by decide +kernel
theorem dX1_overrun_30 : decode cX1_overrun 30 = .ok (.aload_n 0, 1) := by decide +kernel
theorem dX1_overrun_31 : decode cX1_overrun 31 = .ok (.getfield 41, 3) := by decide +kernel
theorem dX1_overrun_34 : decode cX1_overrun 34 = .ok (.getfield 137, 3) := by decide +kernel
theorem dX1_overrun_37 : decode cX1_overrun 37 = .ok (.iload_n 1, 1) := by decide +kernel
theorem dX1_overrun_38 : decode cX1_overrun 38 = .ok (.iaload, 1) := by decide +kernel
theorem dX1_overrun_39 : decode cX1_overrun 39 = .ok (.istore 4, 2) := by decide +kernel
theorem dX1_overrun_41 : decode cX1_overrun 41 = .ok (.aload_n 0, 1) := by decide +kernel
theorem dX1_overrun_42 : decode cX1_overrun 42 = .ok (.getfield 41, 3) := by decide +kernel
theorem dX1_overrun_45 : decode cX1_overrun 45 = .ok (.getfield 140, 3) := by decide +kernel
theorem dX1_overrun_48 : decode cX1_overrun 48 = .ok (.iconst (-1), 1) := by decide +kernel
theorem dX1_overrun_151 : decode cX1_overrun 151 = .ok (.iconst 0, 1) := by decide +kernel
theorem dX1_overrun_152 : decode cX1_overrun 152 = .ok (.iload_n 3, 1) := by decide +kernel
theorem dX1_overrun_153 : decode cX1_overrun 153 = .ok (.iload 4, 2) := by decide +kernel
theorem tw_649 : (Jvm.Cond.methodLink "MarshBells$Day" (153 : Nat) ({ cls := "java/lang/Math", name := "min", desc := "(II)I" } : Jvm.MethodName)) ∈ lw_tbl := tk_3 (List.mem_of_getElem? (i := 169) rfl)
theorem tw_650 : (Jvm.Cond.static ({ cls := "java/lang/Math", name := "min", desc := "(II)I" } : Jvm.MethodName)) ∈ lw_tbl := tk_3 (List.mem_of_getElem? (i := 170) rfl)
theorem tw_651 : (Jvm.Cond.code ({ cls := "java/lang/Math", name := "min", desc := "(II)I" } : Jvm.MethodName) prog_21_method_69_code (2 : Nat) (Option.some Jvm.ClassFile.FieldType.int)) ∈ lw_tbl := tk_3 (List.mem_of_getElem? (i := 171) rfl)
theorem lm_X1_153 : kLM RX1 153 Lib.Math.min.name Lib.Math.min.code := ⟨tw_649, tw_650, tw_18, tw_651⟩
theorem dX1_overrun_155 : decode cX1_overrun 155 = .ok (.invokestatic 153, 3) := by decide +kernel
theorem dX1_overrun_158 : decode cX1_overrun 158 = .ok (.invokestatic 78, 3) := by decide +kernel
theorem dX1_overrun_161 : decode cX1_overrun 161 = .ok (.ireturn, 1) := by decide +kernel
theorem dX1_overrun_49 : decode cX1_overrun 49 = .ok (.if_icmp .eq 102, 3) := by decide +kernel
theorem dX1_overrun_52 : decode cX1_overrun 52 = .ok (.aload_n 0, 1) := by decide +kernel
theorem dX1_overrun_53 : decode cX1_overrun 53 = .ok (.getfield 27, 3) := by decide +kernel
theorem dX1_overrun_56 : decode cX1_overrun 56 = .ok (.iconst 0, 1) := by decide +kernel
theorem dX1_overrun_57 : decode cX1_overrun 57 = .ok (.aload_n 0, 1) := by decide +kernel
theorem dX1_overrun_58 : decode cX1_overrun 58 = .ok (.getfield 41, 3) := by decide +kernel
theorem dX1_overrun_61 : decode cX1_overrun 61 = .ok (.getfield 137, 3) := by decide +kernel
theorem dX1_overrun_64 : decode cX1_overrun 64 = .ok (.iload_n 1, 1) := by decide +kernel
theorem dX1_overrun_65 : decode cX1_overrun 65 = .ok (.iaload, 1) := by decide +kernel
theorem dX1_overrun_66 : decode cX1_overrun 66 = .ok (.iastore, 1) := by decide +kernel
theorem dX1_overrun_67 : decode cX1_overrun 67 = .ok (.aload_n 0, 1) := by decide +kernel
theorem dX1_overrun_68 : decode cX1_overrun 68 = .ok (.getfield 27, 3) := by decide +kernel
theorem dX1_overrun_71 : decode cX1_overrun 71 = .ok (.iconst 1, 1) := by decide +kernel
theorem dX1_overrun_72 : decode cX1_overrun 72 = .ok (.aload_n 0, 1) := by decide +kernel
theorem dX1_overrun_73 : decode cX1_overrun 73 = .ok (.getfield 9, 3) := by decide +kernel
theorem dX1_overrun_76 : decode cX1_overrun 76 = .ok (.iload_n 1, 1) := by decide +kernel
theorem dX1_overrun_77 : decode cX1_overrun 77 = .ok (.iaload, 1) := by decide +kernel
theorem dX1_overrun_78 : decode cX1_overrun 78 = .ok (.aload_n 2, 1) := by decide +kernel
theorem dX1_overrun_79 : decode cX1_overrun 79 = .ok (.getfield 84, 3) := by decide +kernel
theorem dX1_overrun_82 : decode cX1_overrun 82 = .ok (.isub, 1) := by decide +kernel
theorem dX1_overrun_83 : decode cX1_overrun 83 = .ok (.iastore, 1) := by decide +kernel
theorem dX1_overrun_84 : decode cX1_overrun 84 = .ok (.aload_n 0, 1) := by decide +kernel
theorem dX1_overrun_85 : decode cX1_overrun 85 = .ok (.getfield 27, 3) := by decide +kernel
theorem dX1_overrun_88 : decode cX1_overrun 88 = .ok (.iconst 2, 1) := by decide +kernel
theorem dX1_overrun_89 : decode cX1_overrun 89 = .ok (.aload_n 0, 1) := by decide +kernel
theorem dX1_overrun_90 : decode cX1_overrun 90 = .ok (.getfield 9, 3) := by decide +kernel
theorem dX1_overrun_93 : decode cX1_overrun 93 = .ok (.iload_n 1, 1) := by decide +kernel
theorem dX1_overrun_94 : decode cX1_overrun 94 = .ok (.iaload, 1) := by decide +kernel
theorem dX1_overrun_95 : decode cX1_overrun 95 = .ok (.iastore, 1) := by decide +kernel
theorem dX1_overrun_96 : decode cX1_overrun 96 = .ok (.aload_n 0, 1) := by decide +kernel
theorem dX1_overrun_97 : decode cX1_overrun 97 = .ok (.getfield 27, 3) := by decide +kernel
theorem dX1_overrun_100 : decode cX1_overrun 100 = .ok (.iconst 3, 1) := by decide +kernel
theorem dX1_overrun_101 : decode cX1_overrun 101 = .ok (.aload_n 0, 1) := by decide +kernel
theorem dX1_overrun_102 : decode cX1_overrun 102 = .ok (.getfield 41, 3) := by decide +kernel
theorem dX1_overrun_105 : decode cX1_overrun 105 = .ok (.getfield 120, 3) := by decide +kernel
theorem dX1_overrun_108 : decode cX1_overrun 108 = .ok (.iload_n 1, 1) := by decide +kernel
theorem dX1_overrun_109 : decode cX1_overrun 109 = .ok (.iaload, 1) := by decide +kernel
theorem dX1_overrun_110 : decode cX1_overrun 110 = .ok (.iastore, 1) := by decide +kernel
theorem dX1_overrun_111 : decode cX1_overrun 111 = .ok (.aload_n 0, 1) := by decide +kernel
theorem dX1_overrun_112 : decode cX1_overrun 112 = .ok (.getfield 27, 3) := by decide +kernel
theorem dX1_overrun_115 : decode cX1_overrun 115 = .ok (.iconst 4, 1) := by decide +kernel
theorem dX1_overrun_116 : decode cX1_overrun 116 = .ok (.aload_n 2, 1) := by decide +kernel
theorem dX1_overrun_117 : decode cX1_overrun 117 = .ok (.getfield 134, 3) := by decide +kernel
theorem dX1_overrun_120 : decode cX1_overrun 120 = .ok (.iastore, 1) := by decide +kernel
theorem dX1_overrun_121 : decode cX1_overrun 121 = .ok (.aload_n 0, 1) := by decide +kernel
theorem dX1_overrun_122 : decode cX1_overrun 122 = .ok (.getfield 27, 3) := by decide +kernel
theorem dX1_overrun_125 : decode cX1_overrun 125 = .ok (.iconst 5, 1) := by decide +kernel
theorem dX1_overrun_126 : decode cX1_overrun 126 = .ok (.iload_n 1, 1) := by decide +kernel
theorem dX1_overrun_127 : decode cX1_overrun 127 = .ok (.iastore, 1) := by decide +kernel
theorem dX1_overrun_128 : decode cX1_overrun 128 = .ok (.aload_n 0, 1) := by decide +kernel
theorem dX1_overrun_129 : decode cX1_overrun 129 = .ok (.getfield 37, 3) := by decide +kernel
theorem dX1_overrun_132 : decode cX1_overrun 132 = .ok (.getfield 143, 3) := by decide +kernel
theorem dX1_overrun_135 : decode cX1_overrun 135 = .ok (.aload_n 0, 1) := by decide +kernel
theorem dX1_overrun_136 : decode cX1_overrun 136 = .ok (.getfield 41, 3) := by decide +kernel
theorem dX1_overrun_139 : decode cX1_overrun 139 = .ok (.getfield 140, 3) := by decide +kernel
theorem dX1_overrun_142 : decode cX1_overrun 142 = .ok (.aload_n 0, 1) := by decide +kernel
theorem dX1_overrun_143 : decode cX1_overrun 143 = .ok (.getfield 27, 3) := by decide +kernel
theorem tw_642 : (Jvm.Cond.methodLinkNest "MarshBells$Day" (147 : Nat) ({ cls := "MarshBells$Rules", name := "value", desc := "(I[I)I" } : Jvm.MethodName) "MarshBells") ∈ lw_tbl := tk_3 (List.mem_of_getElem? (i := 162) rfl)
theorem tw_645 : (Jvm.Cond.code ({ cls := "MarshBells$Rules", name := "value", desc := "(I[I)I" } : Jvm.MethodName) prog_10_method_5_code (6 : Nat) (Option.some Jvm.ClassFile.FieldType.int)) ∈ lw_tbl := tk_3 (List.mem_of_getElem? (i := 165) rfl)
theorem tw_644 : (Jvm.Cond.instanceMethod ({ cls := "MarshBells$Rules", name := "value", desc := "(I[I)I" } : Jvm.MethodName)) ∈ lw_tbl := tk_3 (List.mem_of_getElem? (i := 164) rfl)
theorem se_X8_value : Cond.selects RX8 yX8_value yX8_value ∈ lw_tbl := List.mem_append_left _ (List.mem_of_getElem? (i := 19) rfl)
theorem li_X1_147 : kLN RX1 147 RX8 yX8_value "MarshBells" cX8_value 6 (some .int) 2 := ⟨tw_642, tw_644, se_X8_value, tw_645, tw_3, by decide +kernel⟩
theorem dX1_overrun_146 : decode cX1_overrun 146 = .ok (.invokevirtual 147, 3) := by decide +kernel
theorem dX1_overrun_149 : decode cX1_overrun 149 = .ok (.istore 4, 2) := by decide +kernel
theorem dX1_overrun_18 : decode cX1_overrun 18 = .ok (.if_icmp .ne 9, 3) := by decide +kernel
theorem dX1_overrun_27 : decode cX1_overrun 27 = .ok (.bipush 60, 2) := by decide +kernel
theorem dX1_overrun_21 : decode cX1_overrun 21 = .ok (.sipush 180, 3) := by decide +kernel
theorem dX1_overrun_24 : decode cX1_overrun 24 = .ok (.goto 5, 3) := by decide +kernel
theorem dX1_overrun_11 : decode cX1_overrun 11 = .ok (.iconst 0, 1) := by decide +kernel
theorem dX1_overrun_12 : decode cX1_overrun 12 = .ok (.ireturn, 1) := by decide +kernel
theorem tw_92 : (Jvm.Cond.fieldLinkNest "MarshBells$Day" (75 : Nat) "MarshBells$Lesson" "least" "I" "MarshBells") ∈ lw_tbl := tk_1 (List.mem_of_getElem? (i := 92) rfl)
theorem fl_X1_75 : kFN RX1 75 5 14 5 := ⟨RX5, TX5, rfl, by decide, inWX5, tw_92⟩
theorem dX1_runOne_0 : decode cX1_runOne 0 = .ok (.aload_n 0, 1) := by decide +kernel
theorem dX1_runOne_1 : decode cX1_runOne 1 = .ok (.getfield 37, 3) := by decide +kernel
theorem dX1_runOne_4 : decode cX1_runOne 4 = .ok (.getfield 58, 3) := by decide +kernel
theorem dX1_runOne_7 : decode cX1_runOne 7 = .ok (.iload_n 1, 1) := by decide +kernel
theorem dX1_runOne_8 : decode cX1_runOne 8 = .ok (.aaload, 1) := by decide +kernel
theorem dX1_runOne_9 : decode cX1_runOne 9 = .ok (.astore_n 2, 1) := by decide +kernel
theorem dX1_runOne_10 : decode cX1_runOne 10 = .ok (.aload_n 0, 1) := by decide +kernel
theorem dX1_runOne_11 : decode cX1_runOne 11 = .ok (.iload_n 1, 1) := by decide +kernel
theorem dX1_runOne_12 : decode cX1_runOne 12 = .ok (.aload_n 2, 1) := by decide +kernel
theorem tw_612 : (Jvm.Cond.methodLink "MarshBells$Day" (62 : Nat) ({ cls := "MarshBells$Day", name := "begin", desc := "(ILMarshBells$Lesson;)V" } : Jvm.MethodName)) ∈ lw_tbl := tk_3 (List.mem_of_getElem? (i := 132) rfl)
theorem tw_615 : (Jvm.Cond.code ({ cls := "MarshBells$Day", name := "begin", desc := "(ILMarshBells$Lesson;)V" } : Jvm.MethodName) prog_3_method_5_code (6 : Nat) (Option.none : Option Jvm.ClassFile.FieldType)) ∈ lw_tbl := tk_3 (List.mem_of_getElem? (i := 135) rfl)
theorem tw_614 : (Jvm.Cond.instanceMethod ({ cls := "MarshBells$Day", name := "begin", desc := "(ILMarshBells$Lesson;)V" } : Jvm.MethodName)) ∈ lw_tbl := tk_3 (List.mem_of_getElem? (i := 134) rfl)
theorem se_X1_begin : Cond.selects RX1 yX1_begin yX1_begin ∈ lw_tbl := List.mem_append_left _ (List.mem_of_getElem? (i := 13) rfl)
theorem li_X1_62 : kLV RX1 62 RX1 yX1_begin cX1_begin 6 none 2 := ⟨tw_612, tw_614, se_X1_begin, tw_615, tw_7, by decide +kernel⟩
theorem dX1_runOne_13 : decode cX1_runOne 13 = .ok (.invokevirtual 62, 3) := by decide +kernel
theorem dX1_runOne_16 : decode cX1_runOne 16 = .ok (.aload_n 0, 1) := by decide +kernel
theorem dX1_runOne_17 : decode cX1_runOne 17 = .ok (.getfield 18, 3) := by decide +kernel
theorem dX1_runOne_20 : decode cX1_runOne 20 = .ok (.iload_n 1, 1) := by decide +kernel
theorem dX1_runOne_21 : decode cX1_runOne 21 = .ok (.aload_n 0, 1) := by decide +kernel
theorem dX1_runOne_22 : decode cX1_runOne 22 = .ok (.iload_n 1, 1) := by decide +kernel
theorem dX1_runOne_23 : decode cX1_runOne 23 = .ok (.aload_n 2, 1) := by decide +kernel
theorem tw_638 : (Jvm.Cond.methodLink "MarshBells$Day" (66 : Nat) ({ cls := "MarshBells$Day", name := "overrun", desc := "(ILMarshBells$Lesson;)I" } : Jvm.MethodName)) ∈ lw_tbl := tk_3 (List.mem_of_getElem? (i := 158) rfl)
theorem tw_641 : (Jvm.Cond.code ({ cls := "MarshBells$Day", name := "overrun", desc := "(ILMarshBells$Lesson;)I" } : Jvm.MethodName) prog_3_method_10_code (5 : Nat) (Option.some Jvm.ClassFile.FieldType.int)) ∈ lw_tbl := tk_3 (List.mem_of_getElem? (i := 161) rfl)
theorem tw_640 : (Jvm.Cond.instanceMethod ({ cls := "MarshBells$Day", name := "overrun", desc := "(ILMarshBells$Lesson;)I" } : Jvm.MethodName)) ∈ lw_tbl := tk_3 (List.mem_of_getElem? (i := 160) rfl)
theorem se_X1_overrun : Cond.selects RX1 yX1_overrun yX1_overrun ∈ lw_tbl := List.mem_append_left _ (List.mem_of_getElem? (i := 18) rfl)
theorem li_X1_66 : kLV RX1 66 RX1 yX1_overrun cX1_overrun 5 (some .int) 2 := ⟨tw_638, tw_640, se_X1_overrun, tw_641, tw_7, by decide +kernel⟩
theorem dX1_runOne_24 : decode cX1_runOne 24 = .ok (.invokevirtual 66, 3) := by decide +kernel
theorem dX1_runOne_27 : decode cX1_runOne 27 = .ok (.iastore, 1) := by decide +kernel
theorem dX1_runOne_28 : decode cX1_runOne 28 = .ok (.aload_n 0, 1) := by decide +kernel
theorem dX1_runOne_29 : decode cX1_runOne 29 = .ok (.getfield 15, 3) := by decide +kernel
theorem dX1_runOne_32 : decode cX1_runOne 32 = .ok (.iload_n 1, 1) := by decide +kernel
theorem dX1_runOne_33 : decode cX1_runOne 33 = .ok (.aload_n 2, 1) := by decide +kernel
theorem dX1_runOne_34 : decode cX1_runOne 34 = .ok (.getfield 70, 3) := by decide +kernel
theorem dX1_runOne_37 : decode cX1_runOne 37 = .ok (.aload_n 0, 1) := by decide +kernel
theorem dX1_runOne_38 : decode cX1_runOne 38 = .ok (.getfield 9, 3) := by decide +kernel
theorem dX1_runOne_41 : decode cX1_runOne 41 = .ok (.iload_n 1, 1) := by decide +kernel
theorem dX1_runOne_42 : decode cX1_runOne 42 = .ok (.iaload, 1) := by decide +kernel
theorem dX1_runOne_43 : decode cX1_runOne 43 = .ok (.aload_n 2, 1) := by decide +kernel
theorem dX1_runOne_44 : decode cX1_runOne 44 = .ok (.getfield 75, 3) := by decide +kernel
theorem dX1_runOne_47 : decode cX1_runOne 47 = .ok (.iadd, 1) := by decide +kernel
theorem dX1_runOne_48 : decode cX1_runOne 48 = .ok (.invokestatic 78, 3) := by decide +kernel
theorem dX1_runOne_51 : decode cX1_runOne 51 = .ok (.aload_n 0, 1) := by decide +kernel
theorem dX1_runOne_52 : decode cX1_runOne 52 = .ok (.getfield 18, 3) := by decide +kernel
theorem dX1_runOne_55 : decode cX1_runOne 55 = .ok (.iload_n 1, 1) := by decide +kernel
theorem dX1_runOne_56 : decode cX1_runOne 56 = .ok (.iaload, 1) := by decide +kernel
theorem dX1_runOne_57 : decode cX1_runOne 57 = .ok (.iadd, 1) := by decide +kernel
theorem dX1_runOne_58 : decode cX1_runOne 58 = .ok (.iastore, 1) := by decide +kernel
theorem dX1_runOne_59 : decode cX1_runOne 59 = .ok (.return_, 1) := by decide +kernel
theorem dX1_runFrom_0 : decode cX1_runFrom 0 = .ok (.iload_n 1, 1) := by decide +kernel
theorem dX1_runFrom_1 : decode cX1_runFrom 1 = .ok (.istore_n 2, 1) := by decide +kernel
theorem dX1_runFrom_2 : decode cX1_runFrom 2 = .ok (.iload_n 2, 1) := by decide +kernel
theorem dX1_runFrom_3 : decode cX1_runFrom 3 = .ok (.aload_n 0, 1) := by decide +kernel
theorem dX1_runFrom_4 : decode cX1_runFrom 4 = .ok (.getfield 37, 3) := by decide +kernel
theorem dX1_runFrom_7 : decode cX1_runFrom 7 = .ok (.getfield 45, 3) := by decide +kernel
theorem dX1_runFrom_10 : decode cX1_runFrom 10 = .ok (.if_icmp .ge 14, 3) := by decide +kernel
theorem dX1_runFrom_24 : decode cX1_runFrom 24 = .ok (.return_, 1) := by decide +kernel
theorem dX1_runFrom_13 : decode cX1_runFrom 13 = .ok (.aload_n 0, 1) := by decide +kernel
theorem dX1_runFrom_14 : decode cX1_runFrom 14 = .ok (.iload_n 2, 1) := by decide +kernel
theorem tw_608 : (Jvm.Cond.methodLink "MarshBells$Day" (50 : Nat) ({ cls := "MarshBells$Day", name := "runOne", desc := "(I)V" } : Jvm.MethodName)) ∈ lw_tbl := tk_3 (List.mem_of_getElem? (i := 128) rfl)
theorem tw_611 : (Jvm.Cond.code ({ cls := "MarshBells$Day", name := "runOne", desc := "(I)V" } : Jvm.MethodName) prog_3_method_4_code (3 : Nat) (Option.none : Option Jvm.ClassFile.FieldType)) ∈ lw_tbl := tk_3 (List.mem_of_getElem? (i := 131) rfl)
theorem tw_610 : (Jvm.Cond.instanceMethod ({ cls := "MarshBells$Day", name := "runOne", desc := "(I)V" } : Jvm.MethodName)) ∈ lw_tbl := tk_3 (List.mem_of_getElem? (i := 130) rfl)
theorem se_X1_runOne : Cond.selects RX1 yX1_runOne yX1_runOne ∈ lw_tbl := List.mem_append_left _ (List.mem_of_getElem? (i := 12) rfl)
theorem li_X1_50 : kLV RX1 50 RX1 yX1_runOne cX1_runOne 3 none 1 := ⟨tw_608, tw_610, se_X1_runOne, tw_611, tw_7, by decide +kernel⟩
theorem dX1_runFrom_15 : decode cX1_runFrom 15 = .ok (.invokevirtual 50, 3) := by decide +kernel
theorem dX1_runFrom_18 : decode cX1_runFrom 18 = .ok (.iinc 2 1, 3) := by decide +kernel
theorem dX1_runFrom_21 : decode cX1_runFrom 21 = .ok (.goto (-19), 3) := by decide +kernel
theorem dX1_lostFrom_0 : decode cX1_lostFrom 0 = .ok (.iload_n 1, 1) := by decide +kernel
theorem dX1_lostFrom_1 : decode cX1_lostFrom 1 = .ok (.istore_n 2, 1) := by decide +kernel
theorem dX1_lostFrom_2 : decode cX1_lostFrom 2 = .ok (.iload_n 2, 1) := by decide +kernel
theorem dX1_lostFrom_3 : decode cX1_lostFrom 3 = .ok (.aload_n 0, 1) := by decide +kernel
theorem dX1_lostFrom_4 : decode cX1_lostFrom 4 = .ok (.getfield 37, 3) := by decide +kernel
theorem dX1_lostFrom_7 : decode cX1_lostFrom 7 = .ok (.getfield 45, 3) := by decide +kernel
theorem dX1_lostFrom_10 : decode cX1_lostFrom 10 = .ok (.if_icmp .ge 14, 3) := by decide +kernel
theorem dX1_lostFrom_24 : decode cX1_lostFrom 24 = .ok (.aload_n 0, 1) := by decide +kernel
theorem tw_652 : (Jvm.Cond.methodLink "MarshBells$Day" (54 : Nat) ({ cls := "MarshBells$Day", name := "lost", desc := "()I" } : Jvm.MethodName)) ∈ lw_tbl := tk_3 (List.mem_of_getElem? (i := 172) rfl)
theorem tw_655 : (Jvm.Cond.code ({ cls := "MarshBells$Day", name := "lost", desc := "()I" } : Jvm.MethodName) prog_3_method_12_code (3 : Nat) (Option.some Jvm.ClassFile.FieldType.int)) ∈ lw_tbl := tk_3 (List.mem_of_getElem? (i := 175) rfl)
theorem tw_654 : (Jvm.Cond.instanceMethod ({ cls := "MarshBells$Day", name := "lost", desc := "()I" } : Jvm.MethodName)) ∈ lw_tbl := tk_3 (List.mem_of_getElem? (i := 174) rfl)
theorem se_X1_lost : Cond.selects RX1 yX1_lost yX1_lost ∈ lw_tbl := List.mem_append_left _ (List.mem_of_getElem? (i := 20) rfl)
theorem li_X1_54 : kLV RX1 54 RX1 yX1_lost cX1_lost 3 (some .int) 0 := ⟨tw_652, tw_654, se_X1_lost, tw_655, tw_7, by decide +kernel⟩
theorem dX1_lostFrom_25 : decode cX1_lostFrom 25 = .ok (.invokevirtual 54, 3) := by decide +kernel
theorem dX1_lostFrom_28 : decode cX1_lostFrom 28 = .ok (.ireturn, 1) := by decide +kernel
theorem dX1_lostFrom_13 : decode cX1_lostFrom 13 = .ok (.aload_n 0, 1) := by decide +kernel
theorem dX1_lostFrom_14 : decode cX1_lostFrom 14 = .ok (.iload_n 2, 1) := by decide +kernel
theorem dX1_lostFrom_15 : decode cX1_lostFrom 15 = .ok (.invokevirtual 50, 3) := by decide +kernel
theorem dX1_lostFrom_18 : decode cX1_lostFrom 18 = .ok (.iinc 2 1, 3) := by decide +kernel
theorem dX1_lostFrom_21 : decode cX1_lostFrom 21 = .ok (.goto (-19), 3) := by decide +kernel
theorem dX1_lateOnes_0 : decode cX1_lateOnes 0 = .ok (.iconst 0, 1) := by decide +kernel
theorem dX1_lateOnes_1 : decode cX1_lateOnes 1 = .ok (.istore_n 1, 1) := by decide +kernel
theorem dX1_lateOnes_2 : decode cX1_lateOnes 2 = .ok (.iconst 0, 1) := by decide +kernel
theorem dX1_lateOnes_3 : decode cX1_lateOnes 3 = .ok (.istore_n 2, 1) := by decide +kernel
theorem dX1_lateOnes_4 : decode cX1_lateOnes 4 = .ok (.iload_n 2, 1) := by decide +kernel
theorem dX1_lateOnes_5 : decode cX1_lateOnes 5 = .ok (.aload_n 0, 1) := by decide +kernel
theorem dX1_lateOnes_6 : decode cX1_lateOnes 6 = .ok (.getfield 37, 3) := by decide +kernel
theorem dX1_lateOnes_9 : decode cX1_lateOnes 9 = .ok (.getfield 45, 3) := by decide +kernel
theorem dX1_lateOnes_12 : decode cX1_lateOnes 12 = .ok (.if_icmp .ge 25, 3) := by decide +kernel
theorem dX1_lateOnes_37 : decode cX1_lateOnes 37 = .ok (.iload_n 1, 1) := by decide +kernel
theorem dX1_lateOnes_38 : decode cX1_lateOnes 38 = .ok (.ireturn, 1) := by decide +kernel
theorem dX1_lateOnes_15 : decode cX1_lateOnes 15 = .ok (.iload_n 1, 1) := by decide +kernel
theorem dX1_lateOnes_16 : decode cX1_lateOnes 16 = .ok (.aload_n 0, 1) := by decide +kernel
theorem dX1_lateOnes_17 : decode cX1_lateOnes 17 = .ok (.iload_n 2, 1) := by decide +kernel
theorem dX1_lateOnes_18 : decode cX1_lateOnes 18 = .ok (.invokevirtual 156, 3) := by decide +kernel
theorem dX1_lateOnes_29 : decode cX1_lateOnes 29 = .ok (.iadd, 1) := by decide +kernel
theorem dX1_lateOnes_30 : decode cX1_lateOnes 30 = .ok (.istore_n 1, 1) := by decide +kernel
theorem dX1_lateOnes_31 : decode cX1_lateOnes 31 = .ok (.iinc 2 1, 3) := by decide +kernel
theorem dX1_lateOnes_34 : decode cX1_lateOnes 34 = .ok (.goto (-30), 3) := by decide +kernel
theorem dX1_lateOnes_21 : decode cX1_lateOnes 21 = .ok (.ifCond .le 7, 3) := by decide +kernel
theorem dX1_lateOnes_28 : decode cX1_lateOnes 28 = .ok (.iconst 0, 1) := by decide +kernel
theorem dX1_lateOnes_24 : decode cX1_lateOnes 24 = .ok (.iconst 1, 1) := by decide +kernel
theorem dX1_lateOnes_25 : decode cX1_lateOnes 25 = .ok (.goto 4, 3) := by decide +kernel
theorem dX1_latest_0 : decode cX1_latest 0 = .ok (.iconst 0, 1) := by decide +kernel
theorem dX1_latest_1 : decode cX1_latest 1 = .ok (.istore_n 1, 1) := by decide +kernel
theorem dX1_latest_2 : decode cX1_latest 2 = .ok (.iconst 0, 1) := by decide +kernel
theorem dX1_latest_3 : decode cX1_latest 3 = .ok (.istore_n 2, 1) := by decide +kernel
theorem dX1_latest_4 : decode cX1_latest 4 = .ok (.iload_n 2, 1) := by decide +kernel
theorem dX1_latest_5 : decode cX1_latest 5 = .ok (.aload_n 0, 1) := by decide +kernel
theorem dX1_latest_6 : decode cX1_latest 6 = .ok (.getfield 37, 3) := by decide +kernel
theorem dX1_latest_9 : decode cX1_latest 9 = .ok (.getfield 45, 3) := by decide +kernel
theorem dX1_latest_12 : decode cX1_latest 12 = .ok (.if_icmp .ge 19, 3) := by decide +kernel
theorem dX1_latest_31 : decode cX1_latest 31 = .ok (.iload_n 1, 1) := by decide +kernel
theorem dX1_latest_32 : decode cX1_latest 32 = .ok (.ireturn, 1) := by decide +kernel
theorem dX1_latest_15 : decode cX1_latest 15 = .ok (.iload_n 1, 1) := by decide +kernel
theorem dX1_latest_16 : decode cX1_latest 16 = .ok (.aload_n 0, 1) := by decide +kernel
theorem dX1_latest_17 : decode cX1_latest 17 = .ok (.iload_n 2, 1) := by decide +kernel
theorem dX1_latest_18 : decode cX1_latest 18 = .ok (.invokevirtual 156, 3) := by decide +kernel
theorem dX1_latest_21 : decode cX1_latest 21 = .ok (.invokestatic 78, 3) := by decide +kernel
theorem dX1_latest_24 : decode cX1_latest 24 = .ok (.istore_n 1, 1) := by decide +kernel
theorem dX1_latest_25 : decode cX1_latest 25 = .ok (.iinc 2 1, 3) := by decide +kernel
theorem dX1_latest_28 : decode cX1_latest 28 = .ok (.goto (-24), 3) := by decide +kernel
theorem dX1_begunLater_0 : decode cX1_begunLater 0 = .ok (.iconst 0, 1) := by decide +kernel
theorem dX1_begunLater_1 : decode cX1_begunLater 1 = .ok (.istore_n 1, 1) := by decide +kernel
theorem dX1_begunLater_2 : decode cX1_begunLater 2 = .ok (.iconst 0, 1) := by decide +kernel
theorem dX1_begunLater_3 : decode cX1_begunLater 3 = .ok (.istore_n 2, 1) := by decide +kernel
theorem dX1_begunLater_4 : decode cX1_begunLater 4 = .ok (.iload_n 2, 1) := by decide +kernel
theorem dX1_begunLater_5 : decode cX1_begunLater 5 = .ok (.aload_n 0, 1) := by decide +kernel
theorem dX1_begunLater_6 : decode cX1_begunLater 6 = .ok (.getfield 37, 3) := by decide +kernel
theorem dX1_begunLater_9 : decode cX1_begunLater 9 = .ok (.getfield 45, 3) := by decide +kernel
theorem dX1_begunLater_12 : decode cX1_begunLater 12 = .ok (.if_icmp .ge 38, 3) := by decide +kernel
theorem dX1_begunLater_50 : decode cX1_begunLater 50 = .ok (.iload_n 1, 1) := by decide +kernel
theorem dX1_begunLater_51 : decode cX1_begunLater 51 = .ok (.ireturn, 1) := by decide +kernel
theorem dX1_begunLater_15 : decode cX1_begunLater 15 = .ok (.iload_n 1, 1) := by decide +kernel
theorem dX1_begunLater_16 : decode cX1_begunLater 16 = .ok (.aload_n 0, 1) := by decide +kernel
theorem dX1_begunLater_17 : decode cX1_begunLater 17 = .ok (.getfield 9, 3) := by decide +kernel
theorem dX1_begunLater_20 : decode cX1_begunLater 20 = .ok (.iload_n 2, 1) := by decide +kernel
theorem dX1_begunLater_21 : decode cX1_begunLater 21 = .ok (.iaload, 1) := by decide +kernel
theorem dX1_begunLater_22 : decode cX1_begunLater 22 = .ok (.aload_n 0, 1) := by decide +kernel
theorem dX1_begunLater_23 : decode cX1_begunLater 23 = .ok (.getfield 37, 3) := by decide +kernel
theorem dX1_begunLater_26 : decode cX1_begunLater 26 = .ok (.getfield 58, 3) := by decide +kernel
theorem dX1_begunLater_29 : decode cX1_begunLater 29 = .ok (.iload_n 2, 1) := by decide +kernel
theorem dX1_begunLater_30 : decode cX1_begunLater 30 = .ok (.aaload, 1) := by decide +kernel
theorem dX1_begunLater_31 : decode cX1_begunLater 31 = .ok (.getfield 84, 3) := by decide +kernel
theorem dX1_begunLater_42 : decode cX1_begunLater 42 = .ok (.iadd, 1) := by decide +kernel
theorem dX1_begunLater_43 : decode cX1_begunLater 43 = .ok (.istore_n 1, 1) := by decide +kernel
theorem dX1_begunLater_44 : decode cX1_begunLater 44 = .ok (.iinc 2 1, 3) := by decide +kernel
theorem dX1_begunLater_47 : decode cX1_begunLater 47 = .ok (.goto (-43), 3) := by decide +kernel
theorem dX1_begunLater_34 : decode cX1_begunLater 34 = .ok (.if_icmp .le 7, 3) := by decide +kernel
theorem dX1_begunLater_41 : decode cX1_begunLater 41 = .ok (.iconst 0, 1) := by decide +kernel
theorem dX1_begunLater_37 : decode cX1_begunLater 37 = .ok (.iconst 1, 1) := by decide +kernel
theorem dX1_begunLater_38 : decode cX1_begunLater 38 = .ok (.goto 4, 3) := by decide +kernel
theorem dX1_onBits_0 : decode cX1_onBits 0 = .ok (.iconst 0, 1) := by decide +kernel
theorem dX1_onBits_1 : decode cX1_onBits 1 = .ok (.istore_n 2, 1) := by decide +kernel
theorem dX1_onBits_2 : decode cX1_onBits 2 = .ok (.iconst 0, 1) := by decide +kernel
theorem dX1_onBits_3 : decode cX1_onBits 3 = .ok (.istore_n 3, 1) := by decide +kernel
theorem dX1_onBits_4 : decode cX1_onBits 4 = .ok (.iload_n 3, 1) := by decide +kernel
theorem dX1_onBits_5 : decode cX1_onBits 5 = .ok (.aload_n 0, 1) := by decide +kernel
theorem dX1_onBits_6 : decode cX1_onBits 6 = .ok (.getfield 37, 3) := by decide +kernel
theorem dX1_onBits_9 : decode cX1_onBits 9 = .ok (.getfield 45, 3) := by decide +kernel
theorem dX1_onBits_12 : decode cX1_onBits 12 = .ok (.if_icmp .ge 35, 3) := by decide +kernel
theorem dX1_onBits_47 : decode cX1_onBits 47 = .ok (.iload_n 2, 1) := by decide +kernel
theorem dX1_onBits_48 : decode cX1_onBits 48 = .ok (.ireturn, 1) := by decide +kernel
theorem dX1_onBits_15 : decode cX1_onBits 15 = .ok (.aload_n 0, 1) := by decide +kernel
theorem dX1_onBits_16 : decode cX1_onBits 16 = .ok (.getfield 9, 3) := by decide +kernel
theorem dX1_onBits_19 : decode cX1_onBits 19 = .ok (.iload_n 3, 1) := by decide +kernel
theorem dX1_onBits_20 : decode cX1_onBits 20 = .ok (.iaload, 1) := by decide +kernel
theorem dX1_onBits_21 : decode cX1_onBits 21 = .ok (.iload_n 1, 1) := by decide +kernel
theorem dX1_onBits_41 : decode cX1_onBits 41 = .ok (.iinc 3 1, 3) := by decide +kernel
theorem dX1_onBits_44 : decode cX1_onBits 44 = .ok (.goto (-40), 3) := by decide +kernel
theorem dX1_onBits_22 : decode cX1_onBits 22 = .ok (.if_icmp .gt 19, 3) := by decide +kernel
theorem dX1_onBits_25 : decode cX1_onBits 25 = .ok (.aload_n 0, 1) := by decide +kernel
theorem dX1_onBits_26 : decode cX1_onBits 26 = .ok (.getfield 15, 3) := by decide +kernel
theorem dX1_onBits_29 : decode cX1_onBits 29 = .ok (.iload_n 3, 1) := by decide +kernel
theorem dX1_onBits_30 : decode cX1_onBits 30 = .ok (.iaload, 1) := by decide +kernel
theorem dX1_onBits_31 : decode cX1_onBits 31 = .ok (.iload_n 1, 1) := by decide +kernel
theorem dX1_onBits_32 : decode cX1_onBits 32 = .ok (.if_icmp .le 9, 3) := by decide +kernel
theorem dX1_onBits_35 : decode cX1_onBits 35 = .ok (.iload_n 2, 1) := by decide +kernel
theorem dX1_onBits_36 : decode cX1_onBits 36 = .ok (.iconst 1, 1) := by decide +kernel
theorem dX1_onBits_37 : decode cX1_onBits 37 = .ok (.iload_n 3, 1) := by decide +kernel
theorem dX1_onBits_38 : decode cX1_onBits 38 = .ok (.ishl, 1) := by decide +kernel
theorem dX1_onBits_39 : decode cX1_onBits 39 = .ok (.ior, 1) := by decide +kernel
theorem dX1_onBits_40 : decode cX1_onBits 40 = .ok (.istore_n 2, 1) := by decide +kernel
theorem dX1_clashOf_0 : decode cX1_clashOf 0 = .ok (.aload_n 0, 1) := by decide +kernel
theorem dX1_clashOf_1 : decode cX1_clashOf 1 = .ok (.getfield 9, 3) := by decide +kernel
theorem dX1_clashOf_4 : decode cX1_clashOf 4 = .ok (.iload_n 1, 1) := by decide +kernel
theorem dX1_clashOf_5 : decode cX1_clashOf 5 = .ok (.iaload, 1) := by decide +kernel
theorem dX1_clashOf_6 : decode cX1_clashOf 6 = .ok (.aload_n 0, 1) := by decide +kernel
theorem dX1_clashOf_7 : decode cX1_clashOf 7 = .ok (.getfield 9, 3) := by decide +kernel
theorem dX1_clashOf_10 : decode cX1_clashOf 10 = .ok (.iload_n 2, 1) := by decide +kernel
theorem dX1_clashOf_11 : decode cX1_clashOf 11 = .ok (.iaload, 1) := by decide +kernel
theorem dX1_clashOf_12 : decode cX1_clashOf 12 = .ok (.invokestatic 78, 3) := by decide +kernel
theorem dX1_clashOf_15 : decode cX1_clashOf 15 = .ok (.istore_n 3, 1) := by decide +kernel
theorem dX1_clashOf_16 : decode cX1_clashOf 16 = .ok (.iload_n 3, 1) := by decide +kernel
theorem dX1_clashOf_17 : decode cX1_clashOf 17 = .ok (.aload_n 0, 1) := by decide +kernel
theorem dX1_clashOf_18 : decode cX1_clashOf 18 = .ok (.getfield 15, 3) := by decide +kernel
theorem dX1_clashOf_21 : decode cX1_clashOf 21 = .ok (.iload_n 1, 1) := by decide +kernel
theorem dX1_clashOf_22 : decode cX1_clashOf 22 = .ok (.iaload, 1) := by decide +kernel
theorem dX1_clashOf_23 : decode cX1_clashOf 23 = .ok (.aload_n 0, 1) := by decide +kernel
theorem dX1_clashOf_24 : decode cX1_clashOf 24 = .ok (.getfield 15, 3) := by decide +kernel
theorem dX1_clashOf_27 : decode cX1_clashOf 27 = .ok (.iload_n 2, 1) := by decide +kernel
theorem dX1_clashOf_28 : decode cX1_clashOf 28 = .ok (.iaload, 1) := by decide +kernel
theorem dX1_clashOf_29 : decode cX1_clashOf 29 = .ok (.invokestatic 153, 3) := by decide +kernel
theorem dX1_clashOf_40 : decode cX1_clashOf 40 = .ok (.istore 4, 2) := by decide +kernel
theorem dX1_clashOf_42 : decode cX1_clashOf 42 = .ok (.iload 4, 2) := by decide +kernel
theorem dX1_clashOf_73 : decode cX1_clashOf 73 = .ok (.ireturn, 1) := by decide +kernel
theorem dX1_clashOf_72 : decode cX1_clashOf 72 = .ok (.iconst (-1), 1) := by decide +kernel
theorem dX1_clashOf_44 : decode cX1_clashOf 44 = .ok (.ifCond .eq 28, 3) := by decide +kernel
theorem dX1_clashOf_47 : decode cX1_clashOf 47 = .ok (.aload_n 0, 1) := by decide +kernel
theorem dX1_clashOf_48 : decode cX1_clashOf 48 = .ok (.getfield 41, 3) := by decide +kernel
theorem dX1_clashOf_51 : decode cX1_clashOf 51 = .ok (.getfield 120, 3) := by decide +kernel
theorem dX1_clashOf_54 : decode cX1_clashOf 54 = .ok (.iload_n 1, 1) := by decide +kernel
theorem dX1_clashOf_55 : decode cX1_clashOf 55 = .ok (.iaload, 1) := by decide +kernel
theorem dX1_clashOf_56 : decode cX1_clashOf 56 = .ok (.aload_n 0, 1) := by decide +kernel
theorem dX1_clashOf_57 : decode cX1_clashOf 57 = .ok (.getfield 41, 3) := by decide +kernel
theorem dX1_clashOf_60 : decode cX1_clashOf 60 = .ok (.getfield 120, 3) := by decide +kernel
theorem dX1_clashOf_63 : decode cX1_clashOf 63 = .ok (.iload_n 2, 1) := by decide +kernel
theorem dX1_clashOf_64 : decode cX1_clashOf 64 = .ok (.iaload, 1) := by decide +kernel
theorem dX1_clashOf_65 : decode cX1_clashOf 65 = .ok (.if_icmp .ne 7, 3) := by decide +kernel
theorem dX1_clashOf_68 : decode cX1_clashOf 68 = .ok (.iload_n 3, 1) := by decide +kernel
theorem dX1_clashOf_69 : decode cX1_clashOf 69 = .ok (.goto 4, 3) := by decide +kernel
theorem dX1_clashOf_32 : decode cX1_clashOf 32 = .ok (.if_icmp .ge 7, 3) := by decide +kernel
theorem dX1_clashOf_39 : decode cX1_clashOf 39 = .ok (.iconst 0, 1) := by decide +kernel
theorem dX1_clashOf_35 : decode cX1_clashOf 35 = .ok (.iconst 1, 1) := by decide +kernel
theorem dX1_clashOf_36 : decode cX1_clashOf 36 = .ok (.goto 4, 3) := by decide +kernel
theorem dX1_clashes_0 : decode cX1_clashes 0 = .ok (.iconst 0, 1) := by decide +kernel
theorem dX1_clashes_1 : decode cX1_clashes 1 = .ok (.istore_n 1, 1) := by decide +kernel
theorem dX1_clashes_2 : decode cX1_clashes 2 = .ok (.iconst 0, 1) := by decide +kernel
theorem dX1_clashes_3 : decode cX1_clashes 3 = .ok (.istore_n 2, 1) := by decide +kernel
theorem dX1_clashes_4 : decode cX1_clashes 4 = .ok (.iload_n 2, 1) := by decide +kernel
theorem dX1_clashes_5 : decode cX1_clashes 5 = .ok (.aload_n 0, 1) := by decide +kernel
theorem dX1_clashes_6 : decode cX1_clashes 6 = .ok (.getfield 37, 3) := by decide +kernel
theorem dX1_clashes_9 : decode cX1_clashes 9 = .ok (.getfield 45, 3) := by decide +kernel
theorem dX1_clashes_12 : decode cX1_clashes 12 = .ok (.if_icmp .ge 48, 3) := by decide +kernel
theorem dX1_clashes_60 : decode cX1_clashes 60 = .ok (.iload_n 1, 1) := by decide +kernel
theorem dX1_clashes_61 : decode cX1_clashes 61 = .ok (.ireturn, 1) := by decide +kernel
theorem dX1_clashes_15 : decode cX1_clashes 15 = .ok (.iload_n 2, 1) := by decide +kernel
theorem dX1_clashes_16 : decode cX1_clashes 16 = .ok (.iconst 1, 1) := by decide +kernel
theorem dX1_clashes_17 : decode cX1_clashes 17 = .ok (.iadd, 1) := by decide +kernel
theorem dX1_clashes_18 : decode cX1_clashes 18 = .ok (.istore_n 3, 1) := by decide +kernel
theorem dX1_clashes_19 : decode cX1_clashes 19 = .ok (.iload_n 3, 1) := by decide +kernel
theorem dX1_clashes_20 : decode cX1_clashes 20 = .ok (.aload_n 0, 1) := by decide +kernel
theorem dX1_clashes_21 : decode cX1_clashes 21 = .ok (.getfield 37, 3) := by decide +kernel
theorem dX1_clashes_24 : decode cX1_clashes 24 = .ok (.getfield 45, 3) := by decide +kernel
theorem dX1_clashes_27 : decode cX1_clashes 27 = .ok (.if_icmp .ge 27, 3) := by decide +kernel
theorem dX1_clashes_54 : decode cX1_clashes 54 = .ok (.iinc 2 1, 3) := by decide +kernel
theorem dX1_clashes_57 : decode cX1_clashes 57 = .ok (.goto (-53), 3) := by decide +kernel
theorem dX1_clashes_30 : decode cX1_clashes 30 = .ok (.iload_n 1, 1) := by decide +kernel
theorem dX1_clashes_31 : decode cX1_clashes 31 = .ok (.aload_n 0, 1) := by decide +kernel
theorem dX1_clashes_32 : decode cX1_clashes 32 = .ok (.iload_n 2, 1) := by decide +kernel
theorem dX1_clashes_33 : decode cX1_clashes 33 = .ok (.iload_n 3, 1) := by decide +kernel
theorem tw_1349 : (Jvm.Cond.methodLink "MarshBells$Day" (159 : Nat) ({ cls := "MarshBells$Day", name := "clashOf", desc := "(II)I" } : Jvm.MethodName)) ∈ lw_tbl := tk_6 (List.mem_of_getElem? (i := 149) rfl)
theorem tw_1352 : (Jvm.Cond.code ({ cls := "MarshBells$Day", name := "clashOf", desc := "(II)I" } : Jvm.MethodName) prog_3_method_17_code (5 : Nat) (Option.some Jvm.ClassFile.FieldType.int)) ∈ lw_tbl := tk_6 (List.mem_of_getElem? (i := 152) rfl)
theorem tw_1351 : (Jvm.Cond.instanceMethod ({ cls := "MarshBells$Day", name := "clashOf", desc := "(II)I" } : Jvm.MethodName)) ∈ lw_tbl := tk_6 (List.mem_of_getElem? (i := 151) rfl)
theorem se_X1_clashOf : Cond.selects RX1 yX1_clashOf yX1_clashOf ∈ lw_tbl := List.mem_append_left _ (List.mem_of_getElem? (i := 100) rfl)
theorem li_X1_159 : kLV RX1 159 RX1 yX1_clashOf cX1_clashOf 5 (some .int) 2 := ⟨tw_1349, tw_1351, se_X1_clashOf, tw_1352, tw_7, by decide +kernel⟩
theorem dX1_clashes_34 : decode cX1_clashes 34 = .ok (.invokevirtual 159, 3) := by decide +kernel
theorem dX1_clashes_37 : decode cX1_clashes 37 = .ok (.iconst (-1), 1) := by decide +kernel
theorem dX1_clashes_46 : decode cX1_clashes 46 = .ok (.iadd, 1) := by decide +kernel
theorem dX1_clashes_47 : decode cX1_clashes 47 = .ok (.istore_n 1, 1) := by decide +kernel
theorem dX1_clashes_48 : decode cX1_clashes 48 = .ok (.iinc 3 1, 3) := by decide +kernel
theorem dX1_clashes_51 : decode cX1_clashes 51 = .ok (.goto (-32), 3) := by decide +kernel
theorem dX1_clashes_38 : decode cX1_clashes 38 = .ok (.if_icmp .eq 7, 3) := by decide +kernel
theorem dX1_clashes_45 : decode cX1_clashes 45 = .ok (.iconst 0, 1) := by decide +kernel
theorem dX1_clashes_41 : decode cX1_clashes 41 = .ok (.iconst 1, 1) := by decide +kernel
theorem dX1_clashes_42 : decode cX1_clashes 42 = .ok (.goto 4, 3) := by decide +kernel
theorem dX1_firstClash_0 : decode cX1_firstClash 0 = .ok (.iconst (-1), 1) := by decide +kernel
theorem dX1_firstClash_1 : decode cX1_firstClash 1 = .ok (.istore_n 1, 1) := by decide +kernel
theorem dX1_firstClash_2 : decode cX1_firstClash 2 = .ok (.iconst 0, 1) := by decide +kernel
theorem dX1_firstClash_3 : decode cX1_firstClash 3 = .ok (.istore_n 2, 1) := by decide +kernel
theorem dX1_firstClash_4 : decode cX1_firstClash 4 = .ok (.iload_n 2, 1) := by decide +kernel
theorem dX1_firstClash_5 : decode cX1_firstClash 5 = .ok (.aload_n 0, 1) := by decide +kernel
theorem dX1_firstClash_6 : decode cX1_firstClash 6 = .ok (.getfield 37, 3) := by decide +kernel
theorem dX1_firstClash_9 : decode cX1_firstClash 9 = .ok (.getfield 45, 3) := by decide +kernel
theorem dX1_firstClash_12 : decode cX1_firstClash 12 = .ok (.if_icmp .ge 58, 3) := by decide +kernel
theorem dX1_firstClash_70 : decode cX1_firstClash 70 = .ok (.iload_n 1, 1) := by decide +kernel
theorem dX1_firstClash_71 : decode cX1_firstClash 71 = .ok (.ireturn, 1) := by decide +kernel
theorem dX1_firstClash_15 : decode cX1_firstClash 15 = .ok (.iload_n 2, 1) := by decide +kernel
theorem dX1_firstClash_16 : decode cX1_firstClash 16 = .ok (.iconst 1, 1) := by decide +kernel
theorem dX1_firstClash_17 : decode cX1_firstClash 17 = .ok (.iadd, 1) := by decide +kernel
theorem dX1_firstClash_18 : decode cX1_firstClash 18 = .ok (.istore_n 3, 1) := by decide +kernel
theorem dX1_firstClash_19 : decode cX1_firstClash 19 = .ok (.iload_n 3, 1) := by decide +kernel
theorem dX1_firstClash_20 : decode cX1_firstClash 20 = .ok (.aload_n 0, 1) := by decide +kernel
theorem dX1_firstClash_21 : decode cX1_firstClash 21 = .ok (.getfield 37, 3) := by decide +kernel
theorem dX1_firstClash_24 : decode cX1_firstClash 24 = .ok (.getfield 45, 3) := by decide +kernel
theorem dX1_firstClash_27 : decode cX1_firstClash 27 = .ok (.if_icmp .ge 37, 3) := by decide +kernel
theorem dX1_firstClash_64 : decode cX1_firstClash 64 = .ok (.iinc 2 1, 3) := by decide +kernel
theorem dX1_firstClash_67 : decode cX1_firstClash 67 = .ok (.goto (-63), 3) := by decide +kernel
theorem dX1_firstClash_30 : decode cX1_firstClash 30 = .ok (.aload_n 0, 1) := by decide +kernel
theorem dX1_firstClash_31 : decode cX1_firstClash 31 = .ok (.iload_n 2, 1) := by decide +kernel
theorem dX1_firstClash_32 : decode cX1_firstClash 32 = .ok (.iload_n 3, 1) := by decide +kernel
theorem dX1_firstClash_33 : decode cX1_firstClash 33 = .ok (.invokevirtual 159, 3) := by decide +kernel
theorem dX1_firstClash_36 : decode cX1_firstClash 36 = .ok (.istore 4, 2) := by decide +kernel
theorem dX1_firstClash_38 : decode cX1_firstClash 38 = .ok (.iload 4, 2) := by decide +kernel
theorem dX1_firstClash_40 : decode cX1_firstClash 40 = .ok (.iconst (-1), 1) := by decide +kernel
theorem dX1_firstClash_58 : decode cX1_firstClash 58 = .ok (.iinc 3 1, 3) := by decide +kernel
theorem dX1_firstClash_61 : decode cX1_firstClash 61 = .ok (.goto (-42), 3) := by decide +kernel
theorem dX1_firstClash_41 : decode cX1_firstClash 41 = .ok (.if_icmp .eq 17, 3) := by decide +kernel
theorem dX1_firstClash_44 : decode cX1_firstClash 44 = .ok (.iload_n 1, 1) := by decide +kernel
theorem dX1_firstClash_45 : decode cX1_firstClash 45 = .ok (.iconst (-1), 1) := by decide +kernel
theorem dX1_firstClash_55 : decode cX1_firstClash 55 = .ok (.iload 4, 2) := by decide +kernel
theorem dX1_firstClash_57 : decode cX1_firstClash 57 = .ok (.istore_n 1, 1) := by decide +kernel
theorem dX1_firstClash_46 : decode cX1_firstClash 46 = .ok (.if_icmp .eq 9, 3) := by decide +kernel
theorem dX1_firstClash_49 : decode cX1_firstClash 49 = .ok (.iload 4, 2) := by decide +kernel
theorem dX1_firstClash_51 : decode cX1_firstClash 51 = .ok (.iload_n 1, 1) := by decide +kernel
theorem dX1_firstClash_52 : decode cX1_firstClash 52 = .ok (.if_icmp .ge 6, 3) := by decide +kernel
theorem dX1_idleMinutes_0 : decode cX1_idleMinutes 0 = .ok (.iconst 0, 1) := by decide +kernel
theorem dX1_idleMinutes_1 : decode cX1_idleMinutes 1 = .ok (.istore_n 1, 1) := by decide +kernel
theorem dX1_idleMinutes_2 : decode cX1_idleMinutes 2 = .ok (.iconst 0, 1) := by decide +kernel
theorem dX1_idleMinutes_3 : decode cX1_idleMinutes 3 = .ok (.istore_n 2, 1) := by decide +kernel
theorem dX1_idleMinutes_4 : decode cX1_idleMinutes 4 = .ok (.iload_n 2, 1) := by decide +kernel
theorem dX1_idleMinutes_5 : decode cX1_idleMinutes 5 = .ok (.aload_n 0, 1) := by decide +kernel
theorem dX1_idleMinutes_6 : decode cX1_idleMinutes 6 = .ok (.getfield 37, 3) := by decide +kernel
theorem dX1_idleMinutes_9 : decode cX1_idleMinutes 9 = .ok (.getfield 45, 3) := by decide +kernel
theorem dX1_idleMinutes_12 : decode cX1_idleMinutes 12 = .ok (.if_icmp .ge 103, 3) := by decide +kernel
theorem dX1_idleMinutes_115 : decode cX1_idleMinutes 115 = .ok (.iload_n 1, 1) := by decide +kernel
theorem dX1_idleMinutes_116 : decode cX1_idleMinutes 116 = .ok (.ireturn, 1) := by decide +kernel
theorem dX1_idleMinutes_15 : decode cX1_idleMinutes 15 = .ok (.aload_n 0, 1) := by decide +kernel
theorem dX1_idleMinutes_16 : decode cX1_idleMinutes 16 = .ok (.getfield 37, 3) := by decide +kernel
theorem dX1_idleMinutes_19 : decode cX1_idleMinutes 19 = .ok (.getfield 58, 3) := by decide +kernel
theorem dX1_idleMinutes_22 : decode cX1_idleMinutes 22 = .ok (.iload_n 2, 1) := by decide +kernel
theorem dX1_idleMinutes_23 : decode cX1_idleMinutes 23 = .ok (.aaload, 1) := by decide +kernel
theorem dX1_idleMinutes_24 : decode cX1_idleMinutes 24 = .ok (.astore_n 3, 1) := by decide +kernel
theorem dX1_idleMinutes_25 : decode cX1_idleMinutes 25 = .ok (.iconst 0, 1) := by decide +kernel
theorem dX1_idleMinutes_26 : decode cX1_idleMinutes 26 = .ok (.istore 4, 2) := by decide +kernel
theorem dX1_idleMinutes_28 : decode cX1_idleMinutes 28 = .ok (.iload 4, 2) := by decide +kernel
theorem dX1_idleMinutes_30 : decode cX1_idleMinutes 30 = .ok (.aload_n 3, 1) := by decide +kernel
theorem dX1_idleMinutes_31 : decode cX1_idleMinutes 31 = .ok (.getfield 87, 3) := by decide +kernel
theorem dX1_idleMinutes_34 : decode cX1_idleMinutes 34 = .ok (.if_icmp .ge 75, 3) := by decide +kernel
theorem dX1_idleMinutes_109 : decode cX1_idleMinutes 109 = .ok (.iinc 2 1, 3) := by decide +kernel
theorem dX1_idleMinutes_112 : decode cX1_idleMinutes 112 = .ok (.goto (-108), 3) := by decide +kernel
theorem dX1_idleMinutes_37 : decode cX1_idleMinutes 37 = .ok (.aload_n 3, 1) := by decide +kernel
theorem dX1_idleMinutes_38 : decode cX1_idleMinutes 38 = .ok (.getfield 90, 3) := by decide +kernel
theorem dX1_idleMinutes_41 : decode cX1_idleMinutes 41 = .ok (.iload 4, 2) := by decide +kernel
theorem dX1_idleMinutes_43 : decode cX1_idleMinutes 43 = .ok (.iaload, 1) := by decide +kernel
theorem dX1_idleMinutes_44 : decode cX1_idleMinutes 44 = .ok (.istore 5, 2) := by decide +kernel
theorem dX1_idleMinutes_46 : decode cX1_idleMinutes 46 = .ok (.aload_n 0, 1) := by decide +kernel
theorem dX1_idleMinutes_47 : decode cX1_idleMinutes 47 = .ok (.getfield 15, 3) := by decide +kernel
theorem dX1_idleMinutes_50 : decode cX1_idleMinutes 50 = .ok (.iload 5, 2) := by decide +kernel
theorem dX1_idleMinutes_52 : decode cX1_idleMinutes 52 = .ok (.iaload, 1) := by decide +kernel
theorem dX1_idleMinutes_53 : decode cX1_idleMinutes 53 = .ok (.aload_n 0, 1) := by decide +kernel
theorem dX1_idleMinutes_54 : decode cX1_idleMinutes 54 = .ok (.iload 5, 2) := by decide +kernel
theorem dX1_idleMinutes_56 : decode cX1_idleMinutes 56 = .ok (.iload_n 2, 1) := by decide +kernel
theorem dX1_idleMinutes_57 : decode cX1_idleMinutes 57 = .ok (.invokevirtual 93, 3) := by decide +kernel
theorem dX1_idleMinutes_60 : decode cX1_idleMinutes 60 = .ok (.iadd, 1) := by decide +kernel
theorem dX1_idleMinutes_61 : decode cX1_idleMinutes 61 = .ok (.aload_n 0, 1) := by decide +kernel
theorem dX1_idleMinutes_62 : decode cX1_idleMinutes 62 = .ok (.getfield 41, 3) := by decide +kernel
theorem dX1_idleMinutes_65 : decode cX1_idleMinutes 65 = .ok (.getfield 96, 3) := by decide +kernel
theorem dX1_idleMinutes_68 : decode cX1_idleMinutes 68 = .ok (.iload_n 2, 1) := by decide +kernel
theorem dX1_idleMinutes_69 : decode cX1_idleMinutes 69 = .ok (.iaload, 1) := by decide +kernel
theorem dX1_idleMinutes_70 : decode cX1_idleMinutes 70 = .ok (.isub, 1) := by decide +kernel
theorem dX1_idleMinutes_71 : decode cX1_idleMinutes 71 = .ok (.istore 6, 2) := by decide +kernel
theorem dX1_idleMinutes_73 : decode cX1_idleMinutes 73 = .ok (.iload_n 1, 1) := by decide +kernel
theorem dX1_idleMinutes_74 : decode cX1_idleMinutes 74 = .ok (.aload_n 0, 1) := by decide +kernel
theorem dX1_idleMinutes_75 : decode cX1_idleMinutes 75 = .ok (.getfield 37, 3) := by decide +kernel
theorem dX1_idleMinutes_78 : decode cX1_idleMinutes 78 = .ok (.getfield 58, 3) := by decide +kernel
theorem dX1_idleMinutes_81 : decode cX1_idleMinutes 81 = .ok (.iload 5, 2) := by decide +kernel
theorem dX1_idleMinutes_83 : decode cX1_idleMinutes 83 = .ok (.aaload, 1) := by decide +kernel
theorem dX1_idleMinutes_84 : decode cX1_idleMinutes 84 = .ok (.getfield 134, 3) := by decide +kernel
theorem dX1_idleMinutes_87 : decode cX1_idleMinutes 87 = .ok (.iconst 0, 1) := by decide +kernel
theorem dX1_idleMinutes_88 : decode cX1_idleMinutes 88 = .ok (.aload_n 0, 1) := by decide +kernel
theorem dX1_idleMinutes_89 : decode cX1_idleMinutes 89 = .ok (.getfield 9, 3) := by decide +kernel
theorem dX1_idleMinutes_92 : decode cX1_idleMinutes 92 = .ok (.iload_n 2, 1) := by decide +kernel
theorem dX1_idleMinutes_93 : decode cX1_idleMinutes 93 = .ok (.iaload, 1) := by decide +kernel
theorem dX1_idleMinutes_94 : decode cX1_idleMinutes 94 = .ok (.iload 6, 2) := by decide +kernel
theorem dX1_idleMinutes_96 : decode cX1_idleMinutes 96 = .ok (.isub, 1) := by decide +kernel
theorem dX1_idleMinutes_97 : decode cX1_idleMinutes 97 = .ok (.invokestatic 78, 3) := by decide +kernel
theorem dX1_idleMinutes_100 : decode cX1_idleMinutes 100 = .ok (.imul, 1) := by decide +kernel
theorem dX1_idleMinutes_101 : decode cX1_idleMinutes 101 = .ok (.iadd, 1) := by decide +kernel
theorem dX1_idleMinutes_102 : decode cX1_idleMinutes 102 = .ok (.istore_n 1, 1) := by decide +kernel
theorem dX1_idleMinutes_103 : decode cX1_idleMinutes 103 = .ok (.iinc 4 1, 3) := by decide +kernel
theorem dX1_idleMinutes_106 : decode cX1_idleMinutes 106 = .ok (.goto (-78), 3) := by decide +kernel
def fX8_clear_3 (fu : Nat) (g : Nat → Nat → Int32) (L : Nat → Nat → Int64) : Option ((Unit) × zS) :=
  sti g 3 3 0 (fun g1 =>
  sti g1 3 4 0 (fun g2 =>
  some ((), (g2, L))))
set_option maxHeartbeats 4000000 in
set_option maxRecDepth 100000 in
theorem rX8_clear_3 (l : Launch) (G : kG) (sz : Nat) (b : Nat) (a : Nat → Nat) (fu : Nat) (g : Nat → Nat → Int32) (L : Nat → Nat → Int64) (res : Unit) (s9 : zS) (h : fX8_clear_3 fu g L = some (res, s9)) : kM l yX8_clear cX8_clear 1 none { frames := 6, cells := 0, slots := 0, locals := 110 } G [.ref (a 3)] (zw G (XS b) 105 a g L) sz (kQv G (S := Unit) (fun _ => True) (fun _ => zw G (XS b) 105 a s9.1 s9.2)) := by
  refine kM.of (by decide) (Nat.le_of_ble_eq_true rfl) ?_
  intro p e s m below meth c A ls H C hr hlk hnm hP hD hS hl
  have C : kC G p s m c cX8_clear 1 RX8 A := C
  have hx := C.1
  have hb := C.2.1
  have hl : lv_has ls 1 [(0, .ref (a 3))] := hl
  obtain ⟨locs, hlocs⟩ : ∃ q : List Loc, q = [] := ⟨_, rfl⟩
  rw [← hlocs] at hS
  rw [← hlocs]
  unfold fX8_clear_3 at h
  refine lv_aload_n hx hb dX8_clear_0 rfl (lv_at hl 0 rfl) ?_
  refine lv_iconst (v := 0) hx hb dX8_clear_1 (by decide) ?_
  refine y_puti (Or.inl fl_X8_21) ft_X8_3 C hP hD hS (by decide) xs_3 rfl rfl rfl dX8_clear_2 h (fun g1 H locs h hP hD hS => ?_)
  refine lv_aload_n hx hb dX8_clear_5 rfl (lv_at hl 0 rfl) ?_
  refine lv_iconst (v := 0) hx hb dX8_clear_6 (by decide) ?_
  refine y_puti (Or.inl fl_X8_25) ft_X8_4 C hP hD hS (by decide) xs_3 rfl rfl rfl dX8_clear_7 h (fun g2 H locs h hP hD hS => ?_)
  exact y_vret C hr hlk hP hD hS h (Nat.le_of_ble_eq_true rfl) (Nat.le_of_ble_eq_true rfl) dX8_clear_10
def fX8_clear_4 (fu : Nat) (g : Nat → Nat → Int32) (L : Nat → Nat → Int64) : Option ((Unit) × zS) :=
  sti g 4 3 0 (fun g1 =>
  sti g1 4 4 0 (fun g2 =>
  some ((), (g2, L))))
set_option maxHeartbeats 4000000 in
set_option maxRecDepth 100000 in
theorem rX8_clear_4 (l : Launch) (G : kG) (sz : Nat) (b : Nat) (a : Nat → Nat) (fu : Nat) (g : Nat → Nat → Int32) (L : Nat → Nat → Int64) (res : Unit) (s9 : zS) (h : fX8_clear_4 fu g L = some (res, s9)) : kM l yX8_clear cX8_clear 1 none { frames := 6, cells := 0, slots := 0, locals := 110 } G [.ref (a 4)] (zw G (XS b) 105 a g L) sz (kQv G (S := Unit) (fun _ => True) (fun _ => zw G (XS b) 105 a s9.1 s9.2)) := by
  refine kM.of (by decide) (Nat.le_of_ble_eq_true rfl) ?_
  intro p e s m below meth c A ls H C hr hlk hnm hP hD hS hl
  have C : kC G p s m c cX8_clear 1 RX8 A := C
  have hx := C.1
  have hb := C.2.1
  have hl : lv_has ls 1 [(0, .ref (a 4))] := hl
  obtain ⟨locs, hlocs⟩ : ∃ q : List Loc, q = [] := ⟨_, rfl⟩
  rw [← hlocs] at hS
  rw [← hlocs]
  unfold fX8_clear_4 at h
  refine lv_aload_n hx hb dX8_clear_0 rfl (lv_at hl 0 rfl) ?_
  refine lv_iconst (v := 0) hx hb dX8_clear_1 (by decide) ?_
  refine y_puti (Or.inl fl_X8_21) ft_X8_3 C hP hD hS (by decide) xs_4 rfl rfl rfl dX8_clear_2 h (fun g1 H locs h hP hD hS => ?_)
  refine lv_aload_n hx hb dX8_clear_5 rfl (lv_at hl 0 rfl) ?_
  refine lv_iconst (v := 0) hx hb dX8_clear_6 (by decide) ?_
  refine y_puti (Or.inl fl_X8_25) ft_X8_4 C hP hD hS (by decide) xs_4 rfl rfl rfl dX8_clear_7 h (fun g2 H locs h hP hD hS => ?_)
  exact y_vret C hr hlk hP hD hS h (Nat.le_of_ble_eq_true rfl) (Nat.le_of_ble_eq_true rfl) dX8_clear_10
def fX7_clear_2 (fu : Nat) (g : Nat → Nat → Int32) (L : Nat → Nat → Int64) : Option ((Unit) × zS) :=
  cb (fX8_clear_4 fu g L) (fun x1 g2 L3 =>
  sti g2 2 2 0 (fun g5 =>
  sti g5 2 3 1 (fun g6 =>
  sti g6 2 4 99 (fun g7 =>
  some ((), (g7, L3))))))
set_option maxHeartbeats 4000000 in
set_option maxRecDepth 100000 in
theorem rX7_clear_2 (l : Launch) (G : kG) (sz : Nat) (b : Nat) (a : Nat → Nat) (fu : Nat) (g : Nat → Nat → Int32) (L : Nat → Nat → Int64) (res : Unit) (s9 : zS) (h : fX7_clear_2 fu g L = some (res, s9)) : kM l yX7_clear cX7_clear 1 none { frames := 7, cells := 0, slots := 0, locals := 130 } G [.ref (a 2)] (zw G (XS b) 105 a g L) sz (kQv G (S := Unit) (fun _ => True) (fun _ => zw G (XS b) 105 a s9.1 s9.2)) := by
  refine kM.of (by decide) (Nat.le_of_ble_eq_true rfl) ?_
  intro p e s m below meth c A ls H C hr hlk hnm hP hD hS hl
  have C : kC G p s m c cX7_clear 1 RX7 A := C
  have hx := C.1
  have hb := C.2.1
  have hl : lv_has ls 1 [(0, .ref (a 2))] := hl
  obtain ⟨locs, hlocs⟩ : ∃ q : List Loc, q = [] := ⟨_, rfl⟩
  rw [← hlocs] at hS
  rw [← hlocs]
  unfold fX7_clear_2 at h
  refine lv_aload_n hx hb dX7_clear_0 rfl (lv_at hl 0 rfl) ?_
  refine x_getr (Or.inl fl_X7_20) C hP (by decide) xs_2 rfl dX7_clear_1 ?_
  obtain ⟨z_, g2, L3, hf4, h⟩ := cb_some h
  refine x_callNv (rest := []) li_X7_32 C (rX8_clear_4 l G H.size b a fu g L z_ (g2, L3) hf4) (kR rfl) hP hD hS 4 8 rfl (zat (by decide) xs_4) rfl hl.1 rfl (Nat.le_of_ble_eq_true rfl) dX7_clear_4 (fun u_ H locs e_ hP hD hS => ?_)
  have hP : va_P G.1 vwCl (zw G (XS b) 105 a g2 L3) H := hP
  have hD : va_D A (zw G (XS b) 105 a g2 L3) := hD
  refine lv_aload_n hx hb dX7_clear_7 rfl (lv_at hl 0 rfl) ?_
  refine lv_iconst (v := 0) hx hb dX7_clear_8 (by decide) ?_
  refine y_puti (Or.inl fl_X7_35) ft_X7_2 C hP hD hS (by decide) xs_2 rfl rfl rfl dX7_clear_9 h (fun g5 H locs h hP hD hS => ?_)
  refine lv_aload_n hx hb dX7_clear_12 rfl (lv_at hl 0 rfl) ?_
  refine lv_iconst (v := 1) hx hb dX7_clear_13 (by decide) ?_
  refine y_puti (Or.inl fl_X7_25) ft_X7_3 C hP hD hS (by decide) xs_2 rfl rfl rfl dX7_clear_14 h (fun g6 H locs h hP hD hS => ?_)
  refine lv_aload_n hx hb dX7_clear_17 rfl (lv_at hl 0 rfl) ?_
  refine lv_bipush (v := 99) hx hb dX7_clear_18 (by decide) ?_
  refine y_puti (Or.inl fl_X7_29) ft_X7_4 C hP hD hS (by decide) xs_2 rfl rfl rfl dX7_clear_20 h (fun g7 H locs h hP hD hS => ?_)
  exact y_vret C hr hlk hP hD hS h (Nat.le_of_ble_eq_true rfl) (Nat.le_of_ble_eq_true rfl) dX7_clear_23
def fX1_isUpstairs_8_p18 (fu : Nat) (t0 : Int32) (g : Nat → Nat → Int32) (L : Nat → Nat → Int64) : Option ((Int32) × zS) :=
  ckb t0 (some (t0, (g, L)))
def fX1_isUpstairs_8 (fu : Nat) (p1 : Int32) (g : Nat → Nat → Int32) (L : Nat → Nat → Int64) : Option ((Int32) × zS) :=
  ck p1 12 (
  if (g 27 (Int32.toNatClampNeg p1)) < 5 then fX1_isUpstairs_8_p18 fu 0 g L
  else fX1_isUpstairs_8_p18 fu 1 g L)
set_option maxHeartbeats 4000000 in
set_option maxRecDepth 100000 in
theorem rX1_isUpstairs_8 (l : Launch) (G : kG) (sz : Nat) (b : Nat) (a : Nat → Nat) (fu : Nat) (g : Nat → Nat → Int32) (L : Nat → Nat → Int64) (p1 : Int32) (res : Int32) (s9 : zS) (h : fX1_isUpstairs_8 fu p1 g L = some (res, s9)) : kM l yX1_isUpstairs cX1_isUpstairs 2 (some .boolean) { frames := 6, cells := 0, slots := 0, locals := 110 } G [.ref (a 8), .int p1] (zw G (XS b) 105 a g L) sz (kQi G (S := Unit) (fun r' _ => r' = res) (fun _ => zw G (XS b) 105 a s9.1 s9.2)) := by
  refine kM.of (by decide) (Nat.le_of_ble_eq_true rfl) ?_
  intro p e s m below meth c A ls H C hr hlk hnm hP hD hS hl
  have C : kC G p s m c cX1_isUpstairs 2 RX1 A := C
  have hx := C.1
  have hb := C.2.1
  have hl : lv_has ls 2 [(0, .ref (a 8)), (1, .int p1)] := hl
  obtain ⟨locs, hlocs⟩ : ∃ q : List Loc, q = [] := ⟨_, rfl⟩
  rw [← hlocs] at hS
  rw [← hlocs]
  unfold fX1_isUpstairs_8 at h
  refine lv_aload_n hx hb dX1_isUpstairs_0 rfl (lv_at hl 0 rfl) ?_
  refine x_getr (Or.inl fl_X1_41) C hP (by decide) xs_8 rfl dX1_isUpstairs_1 ?_
  refine x_getr (Or.inr fl_X1_120) C hP (by decide) xs_6 rfl dX1_isUpstairs_4 ?_
  refine lv_iload_n hx hb dX1_isUpstairs_7 rfl (lv_at hl 1 rfl) ?_
  refine y_ald C hP (by decide) xs_27 dX1_isUpstairs_8 h (fun h => ?_)
  refine lv_iconst (v := 5) hx hb dX1_isUpstairs_9 (by decide) ?_
  have J18 : ∀ (t0 : Int32) (g : Nat → Nat → Int32) (L : Nat → Nat → Int64) (H : Heap) (locs : List Loc) (ls : Array Slot), fX1_isUpstairs_8_p18 fu t0 g L = some (res, s9) → va_P G.1 vwCl (zw G (XS b) 105 a g L) H → va_D A (zw G (XS b) 105 a g L) → va_S A s.heap H locs → lv_has ls 2 [] → W p l e { frames := 6, cells := 0, slots := 0, locals := 110 } s m [.ref (a 8), .int p1].toArray below meth c H locs 0 0 (MQ below ((kQi G (S := Unit) (fun r' _ => r' = res) (fun _ => zw G (XS b) 105 a s9.1 s9.2)) A) [.ref (a 8), .int p1].toArray s 0 0 A) (F0 m 18 ls [.int t0]) := by
    intro t0 g L H locs ls h hP hD hS hl
    unfold fX1_isUpstairs_8_p18 at h
    exact y_zret C hr hlk hP hD hS h (Nat.le_of_ble_eq_true rfl) (Nat.le_of_ble_eq_true rfl) dX1_isUpstairs_18
  refine lv_icmp_lt (x := (g 27 (Int32.toNatClampNeg p1))) (y := 5) (tgt := 17) hx hb dX1_isUpstairs_10 (by decide) (fun c1 => ?_) (fun c1 => ?_)
  ·
    have h := ite_t c1 h
    refine lv_iconst (v := 0) hx hb dX1_isUpstairs_17 (by decide) ?_
    exact J18 0 g L H locs ls h hP hD hS (lv_sub hl [] rfl)
  ·
    have h := ite_e c1 h
    refine lv_iconst (v := 1) hx hb dX1_isUpstairs_13 (by decide) ?_
    refine lv_goto (tgt := 18) hx hb dX1_isUpstairs_14 (by decide) ?_
    exact J18 1 g L H locs ls h hP hD hS (lv_sub hl [] rfl)
def fX1_late_8 (fu : Nat) (p1 : Int32) (g : Nat → Nat → Int32) (L : Nat → Nat → Int64) : Option ((Int32) × zS) :=
  ck p1 12 (
  ck p1 12 (ltn (57 + (Int32.toNatClampNeg p1) % 12) (fun q1 =>
  some (((g 44 (Int32.toNatClampNeg p1)) - (g q1 4)), (g, L)))))
set_option maxHeartbeats 4000000 in
set_option maxRecDepth 100000 in
theorem rX1_late_8 (l : Launch) (G : kG) (sz : Nat) (b : Nat) (a : Nat → Nat) (fu : Nat) (g : Nat → Nat → Int32) (L : Nat → Nat → Int64) (p1 : Int32) (res : Int32) (s9 : zS) (h : fX1_late_8 fu p1 g L = some (res, s9)) : kM l yX1_late cX1_late 2 (some .int) { frames := 6, cells := 0, slots := 0, locals := 110 } G [.ref (a 8), .int p1] (zw G (XS b) 105 a g L) sz (kQi G (S := Unit) (fun r' _ => r' = res) (fun _ => zw G (XS b) 105 a s9.1 s9.2)) := by
  refine kM.of (by decide) (Nat.le_of_ble_eq_true rfl) ?_
  intro p e s m below meth c A ls H C hr hlk hnm hP hD hS hl
  have C : kC G p s m c cX1_late 2 RX1 A := C
  have hx := C.1
  have hb := C.2.1
  have hl : lv_has ls 2 [(0, .ref (a 8)), (1, .int p1)] := hl
  obtain ⟨locs, hlocs⟩ : ∃ q : List Loc, q = [] := ⟨_, rfl⟩
  rw [← hlocs] at hS
  rw [← hlocs]
  unfold fX1_late_8 at h
  refine lv_aload_n hx hb dX1_late_0 rfl (lv_at hl 0 rfl) ?_
  refine x_getr (Or.inl fl_X1_15) C hP (by decide) xs_8 rfl dX1_late_1 ?_
  refine lv_iload_n hx hb dX1_late_4 rfl (lv_at hl 1 rfl) ?_
  refine y_ald C hP (by decide) xs_44 dX1_late_5 h (fun h => ?_)
  refine lv_aload_n hx hb dX1_late_6 rfl (lv_at hl 0 rfl) ?_
  refine x_getr (Or.inl fl_X1_37) C hP (by decide) xs_8 rfl dX1_late_7 ?_
  refine x_getr (Or.inr fl_X1_58) C hP (by decide) xs_1 rfl dX1_late_10 ?_
  refine lv_iload_n hx hb dX1_late_13 rfl (lv_at hl 1 rfl) ?_
  refine y_aald (t := 57) C hP (by decide) xs_17 dX1_late_14 h (fun q1 q1l q1h h => ?_)
  refine x_getv (v := .int (g q1 4)) (Or.inr fl_X1_70) C hP (by omega) (xs_les (by omega) (by omega)) rfl dX1_late_15 ?_
  refine lv_isub hx hb dX1_late_18 ?_
  exact y_iret C hr hlk hP hD hS h (Nat.le_of_ble_eq_true rfl) (Nat.le_of_ble_eq_true rfl) dX1_late_19
def fX1_lost_8_s4 (fu : Nat) (k4 : Int32 × Int32 × (Nat → Nat → Int32) × (Nat → Nat → Int64) → Option ((Int32) × zS)) (v1 : Int32) (v2 : Int32) (g : Nat → Nat → Int32) (L : Nat → Nat → Int64) : Option ((Int32) × zS) :=
  if (g 1 2) ≤ v2 then some (v1, (g, L))
  else ck v2 12 (ltn (57 + (Int32.toNatClampNeg v2) % 12) (fun q2 =>
  cb (fX1_late_8 fu v2 g L) (fun x3 g4 L5 =>
  lti (v1 + ((g q2 8) * x3)) (fun x7 =>
  k4 (x7, (v2 + 1), g4, L5)))))
def fX1_lost_8_l4 (fu : Nat) (v1 : Int32) (v2 : Int32) (g : Nat → Nat → Int32) (L : Nat → Nat → Int64) : Option ((Int32) × zS) :=
  whileK (fun k v => fX1_lost_8_s4 fu k v.1 v.2.1 v.2.2.1 v.2.2.2) fu (v1, v2, g, L)
def fX1_lost_8 (fu : Nat) (g : Nat → Nat → Int32) (L : Nat → Nat → Int64) : Option ((Int32) × zS) :=
  fX1_lost_8_l4 fu 0 0 g L
set_option maxHeartbeats 4000000 in
set_option maxRecDepth 100000 in
theorem rX1_lost_8 (l : Launch) (G : kG) (sz : Nat) (b : Nat) (a : Nat → Nat) (fu : Nat) (g : Nat → Nat → Int32) (L : Nat → Nat → Int64) (res : Int32) (s9 : zS) (h : fX1_lost_8 fu g L = some (res, s9)) : kM l yX1_lost cX1_lost 3 (some .int) { frames := 7, cells := 0, slots := 0, locals := 131 } G [.ref (a 8)] (zw G (XS b) 105 a g L) sz (kQi G (S := Unit) (fun r' _ => r' = res) (fun _ => zw G (XS b) 105 a s9.1 s9.2)) := by
  refine kM.of (by decide) (Nat.le_of_ble_eq_true rfl) ?_
  intro p e s m below meth c A ls H C hr hlk hnm hP hD hS hl
  have C : kC G p s m c cX1_lost 3 RX1 A := C
  have hx := C.1
  have hb := C.2.1
  have hl : lv_has ls 3 [(0, .ref (a 8))] := hl
  obtain ⟨locs, hlocs⟩ : ∃ q : List Loc, q = [] := ⟨_, rfl⟩
  rw [← hlocs] at hS
  rw [← hlocs]
  unfold fX1_lost_8 at h
  refine lv_iconst (v := 0) hx hb dX1_lost_0 (by decide) ?_
  refine lv_istore_n (lv' := [(1, .int 0), (0, .ref (a 8))]) hx hb dX1_lost_1 rfl hl (by decide) rfl (fun ls hl => ?_)
  refine lv_iconst (v := 0) hx hb dX1_lost_2 (by decide) ?_
  refine lv_istore_n (lv' := [(2, .int 0), (1, .int 0), (0, .ref (a 8))]) hx hb dX1_lost_3 rfl hl (by decide) rfl (fun ls hl => ?_)
  have lp4 : ∀ (_ : True), ∀ (n : Nat) (v : Int32 × Int32 × (Nat → Nat → Int32) × (Nat → Nat → Int64)), whileK (fun k v => fX1_lost_8_s4 fu k v.1 v.2.1 v.2.2.1 v.2.2.2) n v = some (res, s9) → ∀ (H : Heap) (locs : List Loc) (ls : Array Slot), va_P G.1 vwCl (zw G (XS b) 105 a (v.2.2.1) (v.2.2.2)) H → va_D A (zw G (XS b) 105 a (v.2.2.1) (v.2.2.2)) → va_S A s.heap H locs → lv_has ls 3 [(0, .ref (a 8)), (1, .int (v.1)), (2, .int (v.2.1))] → W p l e { frames := 7, cells := 0, slots := 0, locals := 131 } s m [.ref (a 8)].toArray below meth c H locs 0 0 (MQ below ((kQi G (S := Unit) (fun r' _ => r' = res) (fun _ => zw G (XS b) 105 a s9.1 s9.2)) A) [.ref (a 8)].toArray s 0 0 A) (F0 m 4 ls []) := by
    intro _
    refine while_ind (fun k4 ih4 v h => ?_)
    obtain ⟨v1, v2, g, L⟩ := v
    intro H locs ls hP hD hS hl
    have h : fX1_lost_8_s4 fu k4 v1 v2 g L = some (res, s9) := h
    have hP : va_P G.1 vwCl (zw G (XS b) 105 a g L) H := hP
    have hD : va_D A (zw G (XS b) 105 a g L) := hD
    have hl : lv_has ls 3 [(0, .ref (a 8)), (1, .int v1), (2, .int v2)] := hl
    show W p l e { frames := 7, cells := 0, slots := 0, locals := 131 } s m [.ref (a 8)].toArray below meth c H locs 0 0 (MQ below ((kQi G (S := Unit) (fun r' _ => r' = res) (fun _ => zw G (XS b) 105 a s9.1 s9.2)) A) [.ref (a 8)].toArray s 0 0 A) (F0 m 4 ls [])
    unfold fX1_lost_8_s4 at h
    refine lv_iload_n hx hb dX1_lost_4 rfl (lv_at hl 2 rfl) ?_
    refine lv_aload_n hx hb dX1_lost_5 rfl (lv_at hl 0 rfl) ?_
    refine x_getr (Or.inl fl_X1_37) C hP (by decide) xs_8 rfl dX1_lost_6 ?_
    refine x_getv (v := .int (g 1 2)) (Or.inr fl_X1_45) C hP (by decide) xs_1 rfl dX1_lost_9 ?_
    refine lv_icmp_ge (x := v2) (y := (g 1 2)) (tgt := 42) hx hb dX1_lost_12 (by decide) (fun c1 => ?_) (fun c1 => ?_)
    ·
      have h := ite_t c1 h
      refine lv_iload_n hx hb dX1_lost_42 rfl (lv_at hl 1 rfl) ?_
      exact y_iret C hr hlk hP hD hS h (Nat.le_of_ble_eq_true rfl) (Nat.le_of_ble_eq_true rfl) dX1_lost_43
    ·
      have h := ite_e c1 h
      refine lv_iload_n hx hb dX1_lost_15 rfl (lv_at hl 1 rfl) ?_
      refine lv_aload_n hx hb dX1_lost_16 rfl (lv_at hl 0 rfl) ?_
      refine x_getr (Or.inl fl_X1_37) C hP (by decide) xs_8 rfl dX1_lost_17 ?_
      refine x_getr (Or.inr fl_X1_58) C hP (by decide) xs_1 rfl dX1_lost_20 ?_
      refine lv_iload_n hx hb dX1_lost_23 rfl (lv_at hl 2 rfl) ?_
      refine y_aald (t := 57) C hP (by decide) xs_17 dX1_lost_24 h (fun q2 q2l q2h h => ?_)
      refine x_getv (v := .int (g q2 8)) (Or.inr fl_X1_134) C hP (by omega) (xs_les (by omega) (by omega)) rfl dX1_lost_25 ?_
      refine lv_aload_n hx hb dX1_lost_28 rfl (lv_at hl 0 rfl) ?_
      refine lv_iload_n hx hb dX1_lost_29 rfl (lv_at hl 2 rfl) ?_
      obtain ⟨z_, g4, L5, hf6, h⟩ := cb_some h
      refine x_callVi (rest := [.int (g q2 8), .int v1]) li_X1_156 C (rX1_late_8 l G H.size b a fu g L v2 z_ (g4, L5) hf6) (kR rfl) hP hD hS 8 1 rfl (zat (by decide) xs_8) rfl hl.1 rfl (Nat.le_of_ble_eq_true rfl) dX1_lost_30 (fun x3 u_ H locs e_ hP hD hS => ?_)
      have e_ : x3 = z_ := e_
      subst e_
      have hP : va_P G.1 vwCl (zw G (XS b) 105 a g4 L5) H := hP
      have hD : va_D A (zw G (XS b) 105 a g4 L5) := hD
      refine lv_imul hx hb dX1_lost_33 ?_
      refine lv_iadd hx hb dX1_lost_34 ?_
      refine y_let h (fun x7 h => ?_)
      refine lv_istore_n (lv' := [(1, .int x7), (0, .ref (a 8)), (2, .int v2)]) hx hb dX1_lost_35 rfl hl (by decide) rfl (fun ls hl => ?_)
      refine lv_iinc (v := (v2 + 1)) (lv' := [(2, .int (v2 + 1)), (1, .int x7), (0, .ref (a 8))]) hx hb dX1_lost_36 hl (k := 2) rfl rfl (by decide) rfl (fun ls hl => ?_)
      refine lv_goto (tgt := 4) hx hb dX1_lost_39 (by decide) ?_
      exact ih4 (x7, (v2 + 1), g4, L5) h H locs ls hP hD hS (lv_sub hl [2, 1, 0] rfl)
  exact lp4 trivial fu (0, 0, g, L) h H locs ls hP hD hS (lv_sub hl [2, 1, 0] rfl)
def fX1_comingOf_8_p84 (fu : Nat) (k6 : Int32 × Int32 × (Nat → Nat → Int32) × (Nat → Nat → Int64) → Option ((Int32) × zS)) (v1 : Int32) (v2 : Int32) (v4 : Int32) (v5 : Int32) (g : Nat → Nat → Int32) (L : Nat → Nat → Int64) : Option ((Int32) × zS) :=
  k6 (v4, (v5 + 1), g, L)
def fX1_comingOf_8_p48 (fu : Nat) (k6 : Int32 × Int32 × (Nat → Nat → Int32) × (Nat → Nat → Int64) → Option ((Int32) × zS)) (k18 : Int32 × Int32 × (Nat → Nat → Int32) × (Nat → Nat → Int64) → Option ((Int32) × zS)) (v1 : Int32) (v2 : Int32) (v4 : Int32) (v5 : Int32) (v7 : Int32) (t0 : Int32) (t1 : Int32) (g : Nat → Nat → Int32) (L : Nat → Nat → Int64) : Option ((Int32) × zS) :=
  lti (t1 + t0) (fun x6 =>
  k18 (x6, (v7 + 1), g, L))
def fX1_comingOf_8_s18 (fu : Nat) (k6 : Int32 × Int32 × (Nat → Nat → Int32) × (Nat → Nat → Int64) → Option ((Int32) × zS)) (v1 : Int32) (v2 : Int32) (v4 : Int32) (v5 : Int32) (k18 : Int32 × Int32 × (Nat → Nat → Int32) × (Nat → Nat → Int64) → Option ((Int32) × zS)) (v6 : Int32) (v7 : Int32) (g : Nat → Nat → Int32) (L : Nat → Nat → Int64) : Option ((Int32) × zS) :=
  if v2 ≤ (v7 : Int32) then (if (v6 : Int32) < v1 then fX1_comingOf_8_p84 fu k6 v1 v2 v4 v5 g L
  else ck v5 6 (
  if v4 ≤ (g 47 (Int32.toNatClampNeg v5)) then fX1_comingOf_8_p84 fu k6 v1 v2 v4 v5 g L
  else ck v5 6 (
  lti (g 47 (Int32.toNatClampNeg v5)) (fun x5 =>
  fX1_comingOf_8_p84 fu k6 v1 v2 x5 v5 g L))))
  else ck v7 6 (
  ck v5 6 (
  if (g 47 (Int32.toNatClampNeg v5)) < (g 47 (Int32.toNatClampNeg v7)) then fX1_comingOf_8_p48 fu k6 k18 v1 v2 v4 v5 v7 0 v6 g L
  else fX1_comingOf_8_p48 fu k6 k18 v1 v2 v4 v5 v7 1 v6 g L))
def fX1_comingOf_8_l18 (fu : Nat) (k6 : Int32 × Int32 × (Nat → Nat → Int32) × (Nat → Nat → Int64) → Option ((Int32) × zS)) (v1 : Int32) (v2 : Int32) (v4 : Int32) (v5 : Int32) (v6 : Int32) (v7 : Int32) (g : Nat → Nat → Int32) (L : Nat → Nat → Int64) : Option ((Int32) × zS) :=
  whileK (fun k v => fX1_comingOf_8_s18 fu k6 v1 v2 v4 v5 k v.1 v.2.1 v.2.2.1 v.2.2.2) fu (v6, v7, g, L)
def fX1_comingOf_8_s6 (fu : Nat) (v1 : Int32) (v2 : Int32) (k6 : Int32 × Int32 × (Nat → Nat → Int32) × (Nat → Nat → Int64) → Option ((Int32) × zS)) (v4 : Int32) (v5 : Int32) (g : Nat → Nat → Int32) (L : Nat → Nat → Int64) : Option ((Int32) × zS) :=
  if v2 ≤ (v5 : Int32) then some (v4, (g, L))
  else fX1_comingOf_8_l18 fu k6 v1 v2 v4 v5 0 0 g L
def fX1_comingOf_8_l6 (fu : Nat) (v1 : Int32) (v2 : Int32) (v4 : Int32) (v5 : Int32) (g : Nat → Nat → Int32) (L : Nat → Nat → Int64) : Option ((Int32) × zS) :=
  whileK (fun k v => fX1_comingOf_8_s6 fu v1 v2 k v.1 v.2.1 v.2.2.1 v.2.2.2) fu (v4, v5, g, L)
def fX1_comingOf_8 (fu : Nat) (p1 : Int32) (p2 : Int32) (p3 : Int32) (g : Nat → Nat → Int32) (L : Nat → Nat → Int64) : Option ((Int32) × zS) :=
  fX1_comingOf_8_l6 fu p1 p2 p3 0 g L
set_option maxHeartbeats 4000000 in
set_option maxRecDepth 100000 in
theorem rX1_comingOf_8 (l : Launch) (G : kG) (sz : Nat) (b : Nat) (a : Nat → Nat) (fu : Nat) (g : Nat → Nat → Int32) (L : Nat → Nat → Int64) (p1 : Int32) (p2 : Int32) (p3 : Int32) (res : Int32) (s9 : zS) (h : fX1_comingOf_8 fu p1 p2 p3 g L = some (res, s9)) : kM l yX1_comingOf cX1_comingOf 8 (some .int) { frames := 6, cells := 0, slots := 0, locals := 110 } G [.ref (a 8), .int p1, .int p2, .int p3] (zw G (XS b) 105 a g L) sz (kQi G (S := Unit) (fun r' _ => r' = res) (fun _ => zw G (XS b) 105 a s9.1 s9.2)) := by
  refine kM.of (by decide) (Nat.le_of_ble_eq_true rfl) ?_
  intro p e s m below meth c A ls H C hr hlk hnm hP hD hS hl
  have C : kC G p s m c cX1_comingOf 8 RX1 A := C
  have hx := C.1
  have hb := C.2.1
  have hl : lv_has ls 8 [(0, .ref (a 8)), (1, .int p1), (2, .int p2), (3, .int p3)] := hl
  obtain ⟨locs, hlocs⟩ : ∃ q : List Loc, q = [] := ⟨_, rfl⟩
  rw [← hlocs] at hS
  rw [← hlocs]
  unfold fX1_comingOf_8 at h
  refine lv_iload_n hx hb dX1_comingOf_0 rfl (lv_at hl 3 rfl) ?_
  refine lv_istore (lv' := [(4, .int p3), (0, .ref (a 8)), (1, .int p1), (2, .int p2), (3, .int p3)]) hx hb dX1_comingOf_1 hl (by decide) rfl (fun ls hl => ?_)
  refine lv_iconst (v := 0) hx hb dX1_comingOf_3 (by decide) ?_
  refine lv_istore (lv' := [(5, .int 0), (4, .int p3), (0, .ref (a 8)), (1, .int p1), (2, .int p2), (3, .int p3)]) hx hb dX1_comingOf_4 hl (by decide) rfl (fun ls hl => ?_)
  have lp6 : ∀ (v1 : Int32) (v2 : Int32), ∀ (n : Nat) (v : Int32 × Int32 × (Nat → Nat → Int32) × (Nat → Nat → Int64)), whileK (fun k v => fX1_comingOf_8_s6 fu v1 v2 k v.1 v.2.1 v.2.2.1 v.2.2.2) n v = some (res, s9) → ∀ (H : Heap) (locs : List Loc) (ls : Array Slot), va_P G.1 vwCl (zw G (XS b) 105 a (v.2.2.1) (v.2.2.2)) H → va_D A (zw G (XS b) 105 a (v.2.2.1) (v.2.2.2)) → va_S A s.heap H locs → lv_has ls 8 [(0, .ref (a 8)), (1, .int v1), (2, .int v2), (4, .int (v.1)), (5, .int (v.2.1))] → W p l e { frames := 6, cells := 0, slots := 0, locals := 110 } s m [.ref (a 8), .int p1, .int p2, .int p3].toArray below meth c H locs 0 0 (MQ below ((kQi G (S := Unit) (fun r' _ => r' = res) (fun _ => zw G (XS b) 105 a s9.1 s9.2)) A) [.ref (a 8), .int p1, .int p2, .int p3].toArray s 0 0 A) (F0 m 6 ls []) := by
    intro v1 v2
    refine while_ind (fun k6 ih6 v h => ?_)
    obtain ⟨v4, v5, g, L⟩ := v
    intro H locs ls hP hD hS hl
    have h : fX1_comingOf_8_s6 fu v1 v2 k6 v4 v5 g L = some (res, s9) := h
    have hP : va_P G.1 vwCl (zw G (XS b) 105 a g L) H := hP
    have hD : va_D A (zw G (XS b) 105 a g L) := hD
    have hl : lv_has ls 8 [(0, .ref (a 8)), (1, .int v1), (2, .int v2), (4, .int v4), (5, .int v5)] := hl
    show W p l e { frames := 6, cells := 0, slots := 0, locals := 110 } s m [.ref (a 8), .int p1, .int p2, .int p3].toArray below meth c H locs 0 0 (MQ below ((kQi G (S := Unit) (fun r' _ => r' = res) (fun _ => zw G (XS b) 105 a s9.1 s9.2)) A) [.ref (a 8), .int p1, .int p2, .int p3].toArray s 0 0 A) (F0 m 6 ls [])
    unfold fX1_comingOf_8_s6 at h
    refine lv_iload hx hb dX1_comingOf_6 (lv_at hl 4 rfl) ?_
    refine lv_iload_n hx hb dX1_comingOf_8 rfl (lv_at hl 2 rfl) ?_
    refine lv_icmp_ge (x := v5) (y := v2) (tgt := 90) hx hb dX1_comingOf_9 (by decide) (fun c1 => ?_) (fun c1 => ?_)
    ·
      have h := ite_t c1 h
      refine lv_iload hx hb dX1_comingOf_90 (lv_at hl 3 rfl) ?_
      exact y_iret C hr hlk hP hD hS h (Nat.le_of_ble_eq_true rfl) (Nat.le_of_ble_eq_true rfl) dX1_comingOf_92
    ·
      have h := ite_e c1 h
      refine lv_iconst (v := 0) hx hb dX1_comingOf_12 (by decide) ?_
      refine lv_istore (lv' := [(6, .int 0), (0, .ref (a 8)), (1, .int v1), (2, .int v2), (4, .int v4), (5, .int v5)]) hx hb dX1_comingOf_13 hl (by decide) rfl (fun ls hl => ?_)
      refine lv_iconst (v := 0) hx hb dX1_comingOf_15 (by decide) ?_
      refine lv_istore (lv' := [(7, .int 0), (6, .int 0), (0, .ref (a 8)), (1, .int v1), (2, .int v2), (4, .int v4), (5, .int v5)]) hx hb dX1_comingOf_16 hl (by decide) rfl (fun ls hl => ?_)
      have lp18 : ∀ (v4 : Int32) (v5 : Int32), ∀ (n : Nat) (v : Int32 × Int32 × (Nat → Nat → Int32) × (Nat → Nat → Int64)), whileK (fun k v => fX1_comingOf_8_s18 fu k6 v1 v2 v4 v5 k v.1 v.2.1 v.2.2.1 v.2.2.2) n v = some (res, s9) → ∀ (H : Heap) (locs : List Loc) (ls : Array Slot), va_P G.1 vwCl (zw G (XS b) 105 a (v.2.2.1) (v.2.2.2)) H → va_D A (zw G (XS b) 105 a (v.2.2.1) (v.2.2.2)) → va_S A s.heap H locs → lv_has ls 8 [(0, .ref (a 8)), (1, .int v1), (2, .int v2), (4, .int v4), (5, .int v5), (6, .int (v.1)), (7, .int (v.2.1))] → W p l e { frames := 6, cells := 0, slots := 0, locals := 110 } s m [.ref (a 8), .int p1, .int p2, .int p3].toArray below meth c H locs 0 0 (MQ below ((kQi G (S := Unit) (fun r' _ => r' = res) (fun _ => zw G (XS b) 105 a s9.1 s9.2)) A) [.ref (a 8), .int p1, .int p2, .int p3].toArray s 0 0 A) (F0 m 18 ls []) := by
        intro v4 v5
        refine while_ind (fun k18 ih18 v h => ?_)
        obtain ⟨v6, v7, g, L⟩ := v
        intro H locs ls hP hD hS hl
        have h : fX1_comingOf_8_s18 fu k6 v1 v2 v4 v5 k18 v6 v7 g L = some (res, s9) := h
        have hP : va_P G.1 vwCl (zw G (XS b) 105 a g L) H := hP
        have hD : va_D A (zw G (XS b) 105 a g L) := hD
        have hl : lv_has ls 8 [(0, .ref (a 8)), (1, .int v1), (2, .int v2), (4, .int v4), (5, .int v5), (6, .int v6), (7, .int v7)] := hl
        show W p l e { frames := 6, cells := 0, slots := 0, locals := 110 } s m [.ref (a 8), .int p1, .int p2, .int p3].toArray below meth c H locs 0 0 (MQ below ((kQi G (S := Unit) (fun r' _ => r' = res) (fun _ => zw G (XS b) 105 a s9.1 s9.2)) A) [.ref (a 8), .int p1, .int p2, .int p3].toArray s 0 0 A) (F0 m 18 ls [])
        unfold fX1_comingOf_8_s18 at h
        refine lv_iload hx hb dX1_comingOf_18 (lv_at hl 6 rfl) ?_
        refine lv_iload_n hx hb dX1_comingOf_20 rfl (lv_at hl 2 rfl) ?_
        refine lv_icmp_ge (x := v7) (y := v2) (tgt := 57) hx hb dX1_comingOf_21 (by decide) (fun c2 => ?_) (fun c2 => ?_)
        ·
          have h := ite_t c2 h
          refine lv_iload hx hb dX1_comingOf_57 (lv_at hl 5 rfl) ?_
          refine lv_iload_n hx hb dX1_comingOf_59 rfl (lv_at hl 1 rfl) ?_
          have J84 : ∀ (v4 : Int32) (v5 : Int32) (g : Nat → Nat → Int32) (L : Nat → Nat → Int64) (H : Heap) (locs : List Loc) (ls : Array Slot), fX1_comingOf_8_p84 fu k6 v1 v2 v4 v5 g L = some (res, s9) → va_P G.1 vwCl (zw G (XS b) 105 a g L) H → va_D A (zw G (XS b) 105 a g L) → va_S A s.heap H locs → lv_has ls 8 [(0, .ref (a 8)), (1, .int v1), (2, .int v2), (4, .int v4), (5, .int v5)] → W p l e { frames := 6, cells := 0, slots := 0, locals := 110 } s m [.ref (a 8), .int p1, .int p2, .int p3].toArray below meth c H locs 0 0 (MQ below ((kQi G (S := Unit) (fun r' _ => r' = res) (fun _ => zw G (XS b) 105 a s9.1 s9.2)) A) [.ref (a 8), .int p1, .int p2, .int p3].toArray s 0 0 A) (F0 m 84 ls []) := by
            intro v4 v5 g L H locs ls h hP hD hS hl
            unfold fX1_comingOf_8_p84 at h
            refine lv_iinc (v := (v5 + 1)) (lv' := [(5, .int (v5 + 1)), (0, .ref (a 8)), (1, .int v1), (2, .int v2), (4, .int v4)]) hx hb dX1_comingOf_84 hl (k := 4) rfl rfl (by decide) rfl (fun ls hl => ?_)
            refine lv_goto (tgt := 6) hx hb dX1_comingOf_87 (by decide) ?_
            exact ih6 (v4, (v5 + 1), g, L) h H locs ls hP hD hS (lv_sub hl [1, 2, 3, 4, 0] rfl)
          refine lv_icmp_lt (x := v6) (y := v1) (tgt := 84) hx hb dX1_comingOf_60 (by decide) (fun c3 => ?_) (fun c3 => ?_)
          ·
            have h := ite_t c3 h
            exact J84 v4 v5 g L H locs ls h hP hD hS (lv_sub hl [0, 1, 2, 3, 4] rfl)
          ·
            have h := ite_e c3 h
            refine lv_aload_n hx hb dX1_comingOf_63 rfl (lv_at hl 0 rfl) ?_
            refine x_getr (Or.inl fl_X1_24) C hP (by decide) xs_8 rfl dX1_comingOf_64 ?_
            refine lv_iload hx hb dX1_comingOf_67 (lv_at hl 4 rfl) ?_
            refine y_ald C hP (by decide) xs_47 dX1_comingOf_69 h (fun h => ?_)
            refine lv_iload hx hb dX1_comingOf_70 (lv_at hl 3 rfl) ?_
            refine lv_icmp_ge (x := (g 47 (Int32.toNatClampNeg v5))) (y := v4) (tgt := 84) hx hb dX1_comingOf_72 (by decide) (fun c4 => ?_) (fun c4 => ?_)
            ·
              have h := ite_t c4 h
              exact J84 v4 v5 g L H locs ls h hP hD hS (lv_sub hl [0, 1, 2, 3, 4] rfl)
            ·
              have h := ite_e c4 h
              refine lv_aload_n hx hb dX1_comingOf_75 rfl (lv_at hl 0 rfl) ?_
              refine x_getr (Or.inl fl_X1_24) C hP (by decide) xs_8 rfl dX1_comingOf_76 ?_
              refine lv_iload hx hb dX1_comingOf_79 (lv_at hl 4 rfl) ?_
              refine y_ald C hP (by decide) xs_47 dX1_comingOf_81 h (fun h => ?_)
              refine y_let h (fun x5 h => ?_)
              refine lv_istore (lv' := [(4, .int x5), (0, .ref (a 8)), (1, .int v1), (2, .int v2), (5, .int v5), (6, .int v6), (7, .int v7)]) hx hb dX1_comingOf_82 hl (by decide) rfl (fun ls hl => ?_)
              exact J84 x5 v5 g L H locs ls h hP hD hS (lv_sub hl [1, 2, 3, 0, 4] rfl)
        ·
          have h := ite_e c2 h
          refine lv_iload hx hb dX1_comingOf_24 (lv_at hl 5 rfl) ?_
          refine lv_aload_n hx hb dX1_comingOf_26 rfl (lv_at hl 0 rfl) ?_
          refine x_getr (Or.inl fl_X1_24) C hP (by decide) xs_8 rfl dX1_comingOf_27 ?_
          refine lv_iload hx hb dX1_comingOf_30 (lv_at hl 6 rfl) ?_
          refine y_ald C hP (by decide) xs_47 dX1_comingOf_32 h (fun h => ?_)
          refine lv_aload_n hx hb dX1_comingOf_33 rfl (lv_at hl 0 rfl) ?_
          refine x_getr (Or.inl fl_X1_24) C hP (by decide) xs_8 rfl dX1_comingOf_34 ?_
          refine lv_iload hx hb dX1_comingOf_37 (lv_at hl 4 rfl) ?_
          refine y_ald C hP (by decide) xs_47 dX1_comingOf_39 h (fun h => ?_)
          have J48 : ∀ (v7 : Int32) (t0 : Int32) (t1 : Int32) (g : Nat → Nat → Int32) (L : Nat → Nat → Int64) (H : Heap) (locs : List Loc) (ls : Array Slot), fX1_comingOf_8_p48 fu k6 k18 v1 v2 v4 v5 v7 t0 t1 g L = some (res, s9) → va_P G.1 vwCl (zw G (XS b) 105 a g L) H → va_D A (zw G (XS b) 105 a g L) → va_S A s.heap H locs → lv_has ls 8 [(0, .ref (a 8)), (1, .int v1), (2, .int v2), (4, .int v4), (5, .int v5), (7, .int v7)] → W p l e { frames := 6, cells := 0, slots := 0, locals := 110 } s m [.ref (a 8), .int p1, .int p2, .int p3].toArray below meth c H locs 0 0 (MQ below ((kQi G (S := Unit) (fun r' _ => r' = res) (fun _ => zw G (XS b) 105 a s9.1 s9.2)) A) [.ref (a 8), .int p1, .int p2, .int p3].toArray s 0 0 A) (F0 m 48 ls [.int t0, .int t1]) := by
            intro v7 t0 t1 g L H locs ls h hP hD hS hl
            unfold fX1_comingOf_8_p48 at h
            refine lv_iadd hx hb dX1_comingOf_48 ?_
            refine y_let h (fun x6 h => ?_)
            refine lv_istore (lv' := [(6, .int x6), (0, .ref (a 8)), (1, .int v1), (2, .int v2), (4, .int v4), (5, .int v5), (7, .int v7)]) hx hb dX1_comingOf_49 hl (by decide) rfl (fun ls hl => ?_)
            refine lv_iinc (v := (v7 + 1)) (lv' := [(7, .int (v7 + 1)), (6, .int x6), (0, .ref (a 8)), (1, .int v1), (2, .int v2), (4, .int v4), (5, .int v5)]) hx hb dX1_comingOf_51 hl (k := 6) rfl rfl (by decide) rfl (fun ls hl => ?_)
            refine lv_goto (tgt := 18) hx hb dX1_comingOf_54 (by decide) ?_
            exact ih18 (x6, (v7 + 1), g, L) h H locs ls hP hD hS (lv_sub hl [2, 3, 4, 5, 6, 1, 0] rfl)
          refine lv_icmp_gt (x := (g 47 (Int32.toNatClampNeg v7))) (y := (g 47 (Int32.toNatClampNeg v5))) (tgt := 47) hx hb dX1_comingOf_40 (by decide) (fun c7 => ?_) (fun c7 => ?_)
          ·
            have h := ite_t c7 h
            refine lv_iconst (v := 0) hx hb dX1_comingOf_47 (by decide) ?_
            exact J48 v7 0 v6 g L H locs ls h hP hD hS (lv_sub hl [0, 1, 2, 3, 4, 6] rfl)
          ·
            have h := ite_e c7 h
            refine lv_iconst (v := 1) hx hb dX1_comingOf_43 (by decide) ?_
            refine lv_goto (tgt := 48) hx hb dX1_comingOf_44 (by decide) ?_
            exact J48 v7 1 v6 g L H locs ls h hP hD hS (lv_sub hl [0, 1, 2, 3, 4, 6] rfl)
      exact lp18 v4 v5 fu (0, 0, g, L) h H locs ls hP hD hS (lv_sub hl [2, 3, 4, 5, 6, 1, 0] rfl)
  exact lp6 p1 p2 fu (p3, 0, g, L) h H locs ls hP hD hS (lv_sub hl [2, 3, 4, 1, 0] rfl)
def fX1_way_8_p55 (fu : Nat) (v3 : Int32) (g : Nat → Nat → Int32) (L : Nat → Nat → Int64) : Option ((Int32) × zS) :=
  some (v3, (g, L))
def fX1_way_8 (fu : Nat) (p1 : Int32) (p2 : Int32) (g : Nat → Nat → Int32) (L : Nat → Nat → Int64) : Option ((Int32) × zS) :=
  ck p1 12 (
  ck p2 12 (
  lti ((g 1 3) * (if 0 ≤ ((g 27 (Int32.toNatClampNeg p1)) - (g 27 (Int32.toNatClampNeg p2))) then ((g 27 (Int32.toNatClampNeg p1)) - (g 27 (Int32.toNatClampNeg p2))) else 0 - ((g 27 (Int32.toNatClampNeg p1)) - (g 27 (Int32.toNatClampNeg p2))))) (fun x1 =>
  cb (fX1_isUpstairs_8 fu p1 g L) (fun x2 g3 L4 =>
  cb (fX1_isUpstairs_8 fu p2 g3 L4) (fun x6 g7 L8 =>
  if (x2 : Int32) = x6 then fX1_way_8_p55 fu x1 g7 L8
  else if 1 ≤ (g7 1 4) then ck p1 12 (ltn (57 + (Int32.toNatClampNeg p1) % 12) (fun q12 =>
  cnz (g7 1 4) (
  some ((x1 + ((((g7 q12 8) + (g7 1 4)) - 1) / (g7 1 4))), (g7, L8)))))
  else fX1_way_8_p55 fu x1 g7 L8)))))
set_option maxHeartbeats 4000000 in
set_option maxRecDepth 100000 in
theorem rX1_way_8 (l : Launch) (G : kG) (sz : Nat) (b : Nat) (a : Nat → Nat) (fu : Nat) (g : Nat → Nat → Int32) (L : Nat → Nat → Int64) (p1 : Int32) (p2 : Int32) (res : Int32) (s9 : zS) (h : fX1_way_8 fu p1 p2 g L = some (res, s9)) : kM l yX1_way cX1_way 4 (some .int) { frames := 7, cells := 0, slots := 0, locals := 131 } G [.ref (a 8), .int p1, .int p2] (zw G (XS b) 105 a g L) sz (kQi G (S := Unit) (fun r' _ => r' = res) (fun _ => zw G (XS b) 105 a s9.1 s9.2)) := by
  refine kM.of (by decide) (Nat.le_of_ble_eq_true rfl) ?_
  intro p e s m below meth c A ls H C hr hlk hnm hP hD hS hl
  have C : kC G p s m c cX1_way 4 RX1 A := C
  have hx := C.1
  have hb := C.2.1
  have hl : lv_has ls 4 [(0, .ref (a 8)), (1, .int p1), (2, .int p2)] := hl
  obtain ⟨locs, hlocs⟩ : ∃ q : List Loc, q = [] := ⟨_, rfl⟩
  rw [← hlocs] at hS
  rw [← hlocs]
  unfold fX1_way_8 at h
  refine lv_aload_n hx hb dX1_way_0 rfl (lv_at hl 0 rfl) ?_
  refine x_getr (Or.inl fl_X1_37) C hP (by decide) xs_8 rfl dX1_way_1 ?_
  refine x_getv (v := .int (g 1 3)) (Or.inr fl_X1_117) C hP (by decide) xs_1 rfl dX1_way_4 ?_
  refine lv_aload_n hx hb dX1_way_7 rfl (lv_at hl 0 rfl) ?_
  refine x_getr (Or.inl fl_X1_41) C hP (by decide) xs_8 rfl dX1_way_8 ?_
  refine x_getr (Or.inr fl_X1_120) C hP (by decide) xs_6 rfl dX1_way_11 ?_
  refine lv_iload_n hx hb dX1_way_14 rfl (lv_at hl 1 rfl) ?_
  refine y_ald C hP (by decide) xs_27 dX1_way_15 h (fun h => ?_)
  refine lv_aload_n hx hb dX1_way_16 rfl (lv_at hl 0 rfl) ?_
  refine x_getr (Or.inl fl_X1_41) C hP (by decide) xs_8 rfl dX1_way_17 ?_
  refine x_getr (Or.inr fl_X1_120) C hP (by decide) xs_6 rfl dX1_way_20 ?_
  refine lv_iload_n hx hb dX1_way_23 rfl (lv_at hl 2 rfl) ?_
  refine y_ald C hP (by decide) xs_27 dX1_way_24 h (fun h => ?_)
  refine lv_isub hx hb dX1_way_25 ?_
  refine k_abs lm_X1_123 C hl.1 (Nat.le_of_ble_eq_true rfl) (Nat.le_of_ble_eq_true rfl) (Nat.le_of_ble_eq_true rfl) (Nat.le_of_ble_eq_true rfl) dX1_way_26 ?_
  refine lv_imul hx hb dX1_way_29 ?_
  refine y_let h (fun x1 h => ?_)
  refine lv_istore_n (lv' := [(3, .int x1), (0, .ref (a 8)), (1, .int p1), (2, .int p2)]) hx hb dX1_way_30 rfl hl (by decide) rfl (fun ls hl => ?_)
  refine lv_aload_n hx hb dX1_way_31 rfl (lv_at hl 1 rfl) ?_
  refine lv_iload_n hx hb dX1_way_32 rfl (lv_at hl 2 rfl) ?_
  obtain ⟨z_, g3, L4, hf5, h⟩ := cb_some h
  refine x_callVi (rest := []) li_X1_127 C (rX1_isUpstairs_8 l G H.size b a fu g L p1 z_ (g3, L4) hf5) (kR rfl) hP hD hS 8 1 rfl (zat (by decide) xs_8) rfl hl.1 rfl (Nat.le_of_ble_eq_true rfl) dX1_way_33 (fun x2 u_ H locs e_ hP hD hS => ?_)
  have e_ : x2 = z_ := e_
  subst e_
  have hP : va_P G.1 vwCl (zw G (XS b) 105 a g3 L4) H := hP
  have hD : va_D A (zw G (XS b) 105 a g3 L4) := hD
  refine lv_aload_n hx hb dX1_way_36 rfl (lv_at hl 1 rfl) ?_
  refine lv_iload_n hx hb dX1_way_37 rfl (lv_at hl 3 rfl) ?_
  obtain ⟨z_, g7, L8, hf9, h⟩ := cb_some h
  refine x_callVi (rest := [.int x2]) li_X1_127 C (rX1_isUpstairs_8 l G H.size b a fu g3 L4 p2 z_ (g7, L8) hf9) (kR rfl) hP hD hS 8 1 rfl (zat (by decide) xs_8) rfl hl.1 rfl (Nat.le_of_ble_eq_true rfl) dX1_way_38 (fun x6 u_ H locs e_ hP hD hS => ?_)
  have e_ : x6 = z_ := e_
  subst e_
  have hP : va_P G.1 vwCl (zw G (XS b) 105 a g7 L8) H := hP
  have hD : va_D A (zw G (XS b) 105 a g7 L8) := hD
  have J55 : ∀ (v3 : Int32) (g : Nat → Nat → Int32) (L : Nat → Nat → Int64) (H : Heap) (locs : List Loc) (ls : Array Slot), fX1_way_8_p55 fu v3 g L = some (res, s9) → va_P G.1 vwCl (zw G (XS b) 105 a g L) H → va_D A (zw G (XS b) 105 a g L) → va_S A s.heap H locs → lv_has ls 4 [(3, .int v3)] → W p l e { frames := 7, cells := 0, slots := 0, locals := 131 } s m [.ref (a 8), .int p1, .int p2].toArray below meth c H locs 0 0 (MQ below ((kQi G (S := Unit) (fun r' _ => r' = res) (fun _ => zw G (XS b) 105 a s9.1 s9.2)) A) [.ref (a 8), .int p1, .int p2].toArray s 0 0 A) (F0 m 55 ls []) := by
    intro v3 g L H locs ls h hP hD hS hl
    unfold fX1_way_8_p55 at h
    refine lv_iload_n hx hb dX1_way_55 rfl (lv_at hl 0 rfl) ?_
    exact y_iret C hr hlk hP hD hS h (Nat.le_of_ble_eq_true rfl) (Nat.le_of_ble_eq_true rfl) dX1_way_56
  refine lv_icmp_eq (x := x2) (y := x6) (tgt := 55) hx hb dX1_way_41 (by decide) (fun c10 => ?_) (fun c10 => ?_)
  ·
    have h := ite_t c10 h
    exact J55 x1 g7 L8 H locs ls h hP hD hS (lv_sub hl [0] rfl)
  ·
    have h := ite_e c10 h
    refine lv_aload_n hx hb dX1_way_44 rfl (lv_at hl 1 rfl) ?_
    refine x_getr (Or.inl fl_X1_37) C hP (by decide) xs_8 rfl dX1_way_45 ?_
    refine x_getv (v := .int (g7 1 4)) (Or.inr fl_X1_131) C hP (by decide) xs_1 rfl dX1_way_48 ?_
    refine lv_iconst (v := 1) hx hb dX1_way_51 (by decide) ?_
    refine lv_icmp_ge (x := (g7 1 4)) (y := 1) (tgt := 57) hx hb dX1_way_52 (by decide) (fun c11 => ?_) (fun c11 => ?_)
    ·
      have h := ite_t c11 h
      refine lv_iload_n hx hb dX1_way_57 rfl (lv_at hl 0 rfl) ?_
      refine lv_aload_n hx hb dX1_way_58 rfl (lv_at hl 1 rfl) ?_
      refine x_getr (Or.inl fl_X1_37) C hP (by decide) xs_8 rfl dX1_way_59 ?_
      refine x_getr (Or.inr fl_X1_58) C hP (by decide) xs_1 rfl dX1_way_62 ?_
      refine lv_iload_n hx hb dX1_way_65 rfl (lv_at hl 2 rfl) ?_
      refine y_aald (t := 57) C hP (by decide) xs_17 dX1_way_66 h (fun q12 q12l q12h h => ?_)
      refine x_getv (v := .int (g7 q12 8)) (Or.inr fl_X1_134) C hP (by omega) (xs_les (by omega) (by omega)) rfl dX1_way_67 ?_
      refine lv_aload_n hx hb dX1_way_70 rfl (lv_at hl 1 rfl) ?_
      refine x_getr (Or.inl fl_X1_37) C hP (by decide) xs_8 rfl dX1_way_71 ?_
      refine x_getv (v := .int (g7 1 4)) (Or.inr fl_X1_131) C hP (by decide) xs_1 rfl dX1_way_74 ?_
      refine lv_iadd hx hb dX1_way_77 ?_
      refine lv_iconst (v := 1) hx hb dX1_way_78 (by decide) ?_
      refine lv_isub hx hb dX1_way_79 ?_
      refine lv_aload_n hx hb dX1_way_80 rfl (lv_at hl 1 rfl) ?_
      refine x_getr (Or.inl fl_X1_37) C hP (by decide) xs_8 rfl dX1_way_81 ?_
      refine x_getv (v := .int (g7 1 4)) (Or.inr fl_X1_131) C hP (by decide) xs_1 rfl dX1_way_84 ?_
      obtain ⟨nz, h⟩ := cnz_some h
      refine lv_idiv hx hb dX1_way_87 nz ?_
      refine lv_iadd hx hb dX1_way_88 ?_
      exact y_iret C hr hlk hP hD hS h (Nat.le_of_ble_eq_true rfl) (Nat.le_of_ble_eq_true rfl) dX1_way_89
    ·
      have h := ite_e c11 h
      exact J55 x1 g7 L8 H locs ls h hP hD hS (lv_sub hl [0] rfl)
def fX1_firstComingAt_8_les_s2 (fu : Nat) (v1 : Int32) (q2_ : Nat) (k2 : Int32 × (Nat → Nat → Int32) × (Nat → Nat → Int64) → Option ((Int32) × zS)) (v3 : Int32) (g : Nat → Nat → Int32) (L : Nat → Nat → Int64) : Option ((Int32) × zS) :=
  if (g q2_ 1) ≤ v3 then some ((-1), (g, L))
  else ck v3 6 (
  if (g 47 (Int32.toNatClampNeg v3)) = v1 then ck v3 6 (
  some ((g (q2_ + 24) (Int32.toNatClampNeg v3)), (g, L)))
  else k2 ((v3 + 1), g, L))
def fX1_firstComingAt_8_les_l2 (fu : Nat) (v1 : Int32) (q2_ : Nat) (v3 : Int32) (g : Nat → Nat → Int32) (L : Nat → Nat → Int64) : Option ((Int32) × zS) :=
  whileK (fun k v => fX1_firstComingAt_8_les_s2 fu v1 q2_ k v.1 v.2.1 v.2.2) fu (v3, g, L)
def fX1_firstComingAt_8_les (fu : Nat) (p1 : Int32) (q1_ : Nat) (g : Nat → Nat → Int32) (L : Nat → Nat → Int64) : Option ((Int32) × zS) :=
  fX1_firstComingAt_8_les_l2 fu p1 q1_ 0 g L
set_option maxHeartbeats 4000000 in
set_option maxRecDepth 100000 in
theorem rX1_firstComingAt_8_les (l : Launch) (G : kG) (sz : Nat) (b : Nat) (a : Nat → Nat) (fu : Nat) (g : Nat → Nat → Int32) (L : Nat → Nat → Int64) (p1 : Int32) (q1_ : Nat) (q1_l : 57 ≤ q1_) (q1_h : q1_ < 81) (res : Int32) (s9 : zS) (h : fX1_firstComingAt_8_les fu p1 q1_ g L = some (res, s9)) : kM l yX1_firstComingAt cX1_firstComingAt 4 (some .int) { frames := 6, cells := 0, slots := 0, locals := 110 } G [.ref (a 8), .int p1, .ref (a q1_)] (zw G (XS b) 105 a g L) sz (kQi G (S := Unit) (fun r' _ => r' = res) (fun _ => zw G (XS b) 105 a s9.1 s9.2)) := by
  refine kM.of (by decide) (Nat.le_of_ble_eq_true rfl) ?_
  intro p e s m below meth c A ls H C hr hlk hnm hP hD hS hl
  have C : kC G p s m c cX1_firstComingAt 4 RX1 A := C
  have hx := C.1
  have hb := C.2.1
  have hl : lv_has ls 4 [(0, .ref (a 8)), (1, .int p1), (2, .ref (a q1_))] := hl
  obtain ⟨locs, hlocs⟩ : ∃ q : List Loc, q = [] := ⟨_, rfl⟩
  rw [← hlocs] at hS
  rw [← hlocs]
  unfold fX1_firstComingAt_8_les at h
  refine lv_iconst (v := 0) hx hb dX1_firstComingAt_0 (by decide) ?_
  refine lv_istore_n (lv' := [(3, .int 0), (0, .ref (a 8)), (1, .int p1), (2, .ref (a q1_))]) hx hb dX1_firstComingAt_1 rfl hl (by decide) rfl (fun ls hl => ?_)
  have lp2 : ∀ (v1 : Int32) (q2_ : Nat), 57 ≤ q2_ → q2_ < 81 → ∀ (n : Nat) (v : Int32 × (Nat → Nat → Int32) × (Nat → Nat → Int64)), whileK (fun k v => fX1_firstComingAt_8_les_s2 fu v1 q2_ k v.1 v.2.1 v.2.2) n v = some (res, s9) → ∀ (H : Heap) (locs : List Loc) (ls : Array Slot), va_P G.1 vwCl (zw G (XS b) 105 a (v.2.1) (v.2.2)) H → va_D A (zw G (XS b) 105 a (v.2.1) (v.2.2)) → va_S A s.heap H locs → lv_has ls 4 [(0, .ref (a 8)), (1, .int v1), (2, .ref (a q2_)), (3, .int (v.1))] → W p l e { frames := 6, cells := 0, slots := 0, locals := 110 } s m [.ref (a 8), .int p1, .ref (a q1_)].toArray below meth c H locs 0 0 (MQ below ((kQi G (S := Unit) (fun r' _ => r' = res) (fun _ => zw G (XS b) 105 a s9.1 s9.2)) A) [.ref (a 8), .int p1, .ref (a q1_)].toArray s 0 0 A) (F0 m 2 ls []) := by
    intro v1 q2_ q2_l q2_h
    refine while_ind (fun k2 ih2 v h => ?_)
    obtain ⟨v3, g, L⟩ := v
    intro H locs ls hP hD hS hl
    have h : fX1_firstComingAt_8_les_s2 fu v1 q2_ k2 v3 g L = some (res, s9) := h
    have hP : va_P G.1 vwCl (zw G (XS b) 105 a g L) H := hP
    have hD : va_D A (zw G (XS b) 105 a g L) := hD
    have hl : lv_has ls 4 [(0, .ref (a 8)), (1, .int v1), (2, .ref (a q2_)), (3, .int v3)] := hl
    show W p l e { frames := 6, cells := 0, slots := 0, locals := 110 } s m [.ref (a 8), .int p1, .ref (a q1_)].toArray below meth c H locs 0 0 (MQ below ((kQi G (S := Unit) (fun r' _ => r' = res) (fun _ => zw G (XS b) 105 a s9.1 s9.2)) A) [.ref (a 8), .int p1, .ref (a q1_)].toArray s 0 0 A) (F0 m 2 ls [])
    unfold fX1_firstComingAt_8_les_s2 at h
    refine lv_iload_n hx hb dX1_firstComingAt_2 rfl (lv_at hl 3 rfl) ?_
    refine lv_aload_n hx hb dX1_firstComingAt_3 rfl (lv_at hl 2 rfl) ?_
    refine x_getv (v := .int (g q2_ 1)) (Or.inr fl_X1_87) C hP (by omega) (xs_les (by omega) (by omega)) rfl dX1_firstComingAt_4 ?_
    refine lv_icmp_ge (x := v3) (y := (g q2_ 1)) (tgt := 33) hx hb dX1_firstComingAt_7 (by decide) (fun c1 => ?_) (fun c1 => ?_)
    ·
      have h := ite_t c1 h
      refine lv_iconst (v := -1) hx hb dX1_firstComingAt_33 (by decide) ?_
      exact y_iret C hr hlk hP hD hS h (Nat.le_of_ble_eq_true rfl) (Nat.le_of_ble_eq_true rfl) dX1_firstComingAt_34
    ·
      have h := ite_e c1 h
      refine lv_aload_n hx hb dX1_firstComingAt_10 rfl (lv_at hl 0 rfl) ?_
      refine x_getr (Or.inl fl_X1_24) C hP (by decide) xs_8 rfl dX1_firstComingAt_11 ?_
      refine lv_iload_n hx hb dX1_firstComingAt_14 rfl (lv_at hl 3 rfl) ?_
      refine y_ald C hP (by decide) xs_47 dX1_firstComingAt_15 h (fun h => ?_)
      refine lv_iload_n hx hb dX1_firstComingAt_16 rfl (lv_at hl 1 rfl) ?_
      refine lv_icmp_ne (x := (g 47 (Int32.toNatClampNeg v3))) (y := v1) (tgt := 27) hx hb dX1_firstComingAt_17 (by decide) (fun c2 => ?_) (fun c2 => ?_)
      ·
        have h := ite_e c2 h
        refine lv_iinc (v := (v3 + 1)) (lv' := [(3, .int (v3 + 1)), (0, .ref (a 8)), (1, .int v1), (2, .ref (a q2_))]) hx hb dX1_firstComingAt_27 hl (k := 3) rfl rfl (by decide) rfl (fun ls hl => ?_)
        refine lv_goto (tgt := 2) hx hb dX1_firstComingAt_30 (by decide) ?_
        exact ih2 ((v3 + 1), g, L) h H locs ls hP hD hS (lv_sub hl [1, 2, 3, 0] rfl)
      ·
        have h := ite_t c2 h
        refine lv_aload_n hx hb dX1_firstComingAt_20 rfl (lv_at hl 2 rfl) ?_
        refine x_getr (Or.inr fl_X1_90) C hP (by omega) (xs_les (by omega) (by omega)) rfl dX1_firstComingAt_21 ?_
        refine lv_iload_n hx hb dX1_firstComingAt_24 rfl (lv_at hl 3 rfl) ?_
        refine y_ald C hP (by omega) (xs_wai (by omega)) dX1_firstComingAt_25 h (fun h => ?_)
        exact y_iret C hr hlk hP hD hS h (Nat.le_of_ble_eq_true rfl) (Nat.le_of_ble_eq_true rfl) dX1_firstComingAt_26
  exact lp2 p1 q1_ (by omega) (by omega) fu (0, g, L) h H locs ls hP hD hS (lv_sub hl [1, 2, 3, 0] rfl)
def fX1_begin_8_les_p115 (fu : Nat) (v1 : Int32) (q2_ : Nat) (v3 : Int32) (g : Nat → Nat → Int32) (L : Nat → Nat → Int64) : Option ((Unit) × zS) :=
  if (g q2_ 3) < v3 then ck v1 12 (
  lti ((g q2_ 3) + (g 28 (Int32.toNatClampNeg v1))) (fun x6 =>
  if (v3 : Int32) ≤ x6 then ck v1 12 (sti g 43 (Int32.toNatClampNeg v1) v3 (fun g8 =>
  cb (fX1_firstComingAt_8_les fu v3 q2_ g8 L) (fun x9 g10 L11 =>
  ck v1 12 (sti g10 46 (Int32.toNatClampNeg v1) x9 (fun g13 =>
  some ((), (g13, L11)))))))
  else ck v1 12 (sti g 43 (Int32.toNatClampNeg v1) x6 (fun g14 =>
  some ((), (g14, L))))))
  else some ((), (g, L))
def fX1_begin_8_les_s25 (fu : Nat) (v1 : Int32) (q2_ : Nat) (k25 : Int32 × Int32 × (Nat → Nat → Int32) × (Nat → Nat → Int64) → Option ((Unit) × zS)) (v3 : Int32) (v4 : Int32) (g : Nat → Nat → Int32) (L : Nat → Nat → Int64) : Option ((Unit) × zS) :=
  if (g q2_ 1) ≤ v4 then (if (g q2_ 9) = 1 then cb (fX1_comingOf_8 fu (g q2_ 10) (g q2_ 1) v3 g L) (fun x16 g17 L18 =>
  fX1_begin_8_les_p115 fu v1 q2_ x16 g17 L18)
  else fX1_begin_8_les_p115 fu v1 q2_ v3 g L)
  else ck v4 6 (
  lti (g (q2_ + 24) (Int32.toNatClampNeg v4)) (fun x20 =>
  ck x20 12 (
  cb (fX1_way_8 fu x20 v1 g L) (fun x21 g22 L23 =>
  ck v1 12 (
  ck v4 6 (sti g22 47 (Int32.toNatClampNeg v4) (((g 44 (Int32.toNatClampNeg x20)) + x21) - (g22 26 (Int32.toNatClampNeg v1))) (fun g25 =>
  ck v4 6 (
  lti (if v3 < (g25 47 (Int32.toNatClampNeg v4)) then (g25 47 (Int32.toNatClampNeg v4)) else v3) (fun x26 =>
  k25 (x26, (v4 + 1), g25, L23))))))))))
def fX1_begin_8_les_l25 (fu : Nat) (v1 : Int32) (q2_ : Nat) (v3 : Int32) (v4 : Int32) (g : Nat → Nat → Int32) (L : Nat → Nat → Int64) : Option ((Unit) × zS) :=
  whileK (fun k v => fX1_begin_8_les_s25 fu v1 q2_ k v.1 v.2.1 v.2.2.1 v.2.2.2) fu (v3, v4, g, L)
def fX1_begin_8_les (fu : Nat) (p1 : Int32) (q1_ : Nat) (g : Nat → Nat → Int32) (L : Nat → Nat → Int64) : Option ((Unit) × zS) :=
  ck p1 12 (sti g 43 (Int32.toNatClampNeg p1) (g q1_ 3) (fun g1 =>
  ck p1 12 (sti g1 46 (Int32.toNatClampNeg p1) (-1) (fun g2 =>
  lti (g2 q1_ 3) (fun x3 =>
  fX1_begin_8_les_l25 fu p1 q1_ x3 0 g2 L)))))
set_option maxHeartbeats 4000000 in
set_option maxRecDepth 100000 in
theorem rX1_begin_8_les (l : Launch) (G : kG) (sz : Nat) (b : Nat) (a : Nat → Nat) (fu : Nat) (g : Nat → Nat → Int32) (L : Nat → Nat → Int64) (p1 : Int32) (q1_ : Nat) (q1_l : 57 ≤ q1_) (q1_h : q1_ < 81) (res : Unit) (s9 : zS) (h : fX1_begin_8_les fu p1 q1_ g L = some (res, s9)) : kM l yX1_begin cX1_begin 6 none { frames := 8, cells := 0, slots := 0, locals := 154 } G [.ref (a 8), .int p1, .ref (a q1_)] (zw G (XS b) 105 a g L) sz (kQv G (S := Unit) (fun _ => True) (fun _ => zw G (XS b) 105 a s9.1 s9.2)) := by
  refine kM.of (by decide) (Nat.le_of_ble_eq_true rfl) ?_
  intro p e s m below meth c A ls H C hr hlk hnm hP hD hS hl
  have C : kC G p s m c cX1_begin 6 RX1 A := C
  have hx := C.1
  have hb := C.2.1
  have hl : lv_has ls 6 [(0, .ref (a 8)), (1, .int p1), (2, .ref (a q1_))] := hl
  obtain ⟨locs, hlocs⟩ : ∃ q : List Loc, q = [] := ⟨_, rfl⟩
  rw [← hlocs] at hS
  rw [← hlocs]
  unfold fX1_begin_8_les at h
  refine lv_aload_n hx hb dX1_begin_0 rfl (lv_at hl 0 rfl) ?_
  refine x_getr (Or.inl fl_X1_9) C hP (by decide) xs_8 rfl dX1_begin_1 ?_
  refine lv_iload_n hx hb dX1_begin_4 rfl (lv_at hl 1 rfl) ?_
  refine lv_aload_n hx hb dX1_begin_5 rfl (lv_at hl 2 rfl) ?_
  refine x_getv (v := .int (g q1_ 3)) (Or.inr fl_X1_84) C hP (by omega) (xs_les (by omega) (by omega)) rfl dX1_begin_6 ?_
  refine y_ast C hP hD hS (by decide) xs_43 dX1_begin_9 h (fun g1 H locs h hP hD hS => ?_)
  refine lv_aload_n hx hb dX1_begin_10 rfl (lv_at hl 0 rfl) ?_
  refine x_getr (Or.inl fl_X1_21) C hP (by decide) xs_8 rfl dX1_begin_11 ?_
  refine lv_iload_n hx hb dX1_begin_14 rfl (lv_at hl 1 rfl) ?_
  refine lv_iconst (v := -1) hx hb dX1_begin_15 (by decide) ?_
  refine y_ast C hP hD hS (by decide) xs_46 dX1_begin_16 h (fun g2 H locs h hP hD hS => ?_)
  refine lv_aload_n hx hb dX1_begin_17 rfl (lv_at hl 2 rfl) ?_
  refine x_getv (v := .int (g2 q1_ 3)) (Or.inr fl_X1_84) C hP (by omega) (xs_les (by omega) (by omega)) rfl dX1_begin_18 ?_
  refine y_let h (fun x3 h => ?_)
  refine lv_istore_n (lv' := [(3, .int x3), (0, .ref (a 8)), (1, .int p1), (2, .ref (a q1_))]) hx hb dX1_begin_21 rfl hl (by decide) rfl (fun ls hl => ?_)
  refine lv_iconst (v := 0) hx hb dX1_begin_22 (by decide) ?_
  refine lv_istore (lv' := [(4, .int 0), (3, .int x3), (0, .ref (a 8)), (1, .int p1), (2, .ref (a q1_))]) hx hb dX1_begin_23 hl (by decide) rfl (fun ls hl => ?_)
  have lp25 : ∀ (v1 : Int32) (q2_ : Nat), 57 ≤ q2_ → q2_ < 81 → ∀ (n : Nat) (v : Int32 × Int32 × (Nat → Nat → Int32) × (Nat → Nat → Int64)), whileK (fun k v => fX1_begin_8_les_s25 fu v1 q2_ k v.1 v.2.1 v.2.2.1 v.2.2.2) n v = some (res, s9) → ∀ (H : Heap) (locs : List Loc) (ls : Array Slot), va_P G.1 vwCl (zw G (XS b) 105 a (v.2.2.1) (v.2.2.2)) H → va_D A (zw G (XS b) 105 a (v.2.2.1) (v.2.2.2)) → va_S A s.heap H locs → lv_has ls 6 [(0, .ref (a 8)), (1, .int v1), (2, .ref (a q2_)), (3, .int (v.1)), (4, .int (v.2.1))] → W p l e { frames := 8, cells := 0, slots := 0, locals := 154 } s m [.ref (a 8), .int p1, .ref (a q1_)].toArray below meth c H locs 0 0 (MQ below ((kQv G (S := Unit) (fun _ => True) (fun _ => zw G (XS b) 105 a s9.1 s9.2)) A) [.ref (a 8), .int p1, .ref (a q1_)].toArray s 0 0 A) (F0 m 25 ls []) := by
    intro v1 q2_ q2_l q2_h
    refine while_ind (fun k25 ih25 v h => ?_)
    obtain ⟨v3, v4, g, L⟩ := v
    intro H locs ls hP hD hS hl
    have h : fX1_begin_8_les_s25 fu v1 q2_ k25 v3 v4 g L = some (res, s9) := h
    have hP : va_P G.1 vwCl (zw G (XS b) 105 a g L) H := hP
    have hD : va_D A (zw G (XS b) 105 a g L) := hD
    have hl : lv_has ls 6 [(0, .ref (a 8)), (1, .int v1), (2, .ref (a q2_)), (3, .int v3), (4, .int v4)] := hl
    show W p l e { frames := 8, cells := 0, slots := 0, locals := 154 } s m [.ref (a 8), .int p1, .ref (a q1_)].toArray below meth c H locs 0 0 (MQ below ((kQv G (S := Unit) (fun _ => True) (fun _ => zw G (XS b) 105 a s9.1 s9.2)) A) [.ref (a 8), .int p1, .ref (a q1_)].toArray s 0 0 A) (F0 m 25 ls [])
    unfold fX1_begin_8_les_s25 at h
    refine lv_iload hx hb dX1_begin_25 (lv_at hl 4 rfl) ?_
    refine lv_aload_n hx hb dX1_begin_27 rfl (lv_at hl 2 rfl) ?_
    refine x_getv (v := .int (g q2_ 1)) (Or.inr fl_X1_87) C hP (by omega) (xs_les (by omega) (by omega)) rfl dX1_begin_28 ?_
    refine lv_icmp_ge (x := v4) (y := (g q2_ 1)) (tgt := 93) hx hb dX1_begin_31 (by decide) (fun c4 => ?_) (fun c4 => ?_)
    ·
      have h := ite_t c4 h
      refine lv_aload_n hx hb dX1_begin_93 rfl (lv_at hl 2 rfl) ?_
      refine x_getv (v := .int (g q2_ 9)) (Or.inr fl_X1_101) C hP (by omega) (xs_les (by omega) (by omega)) rfl dX1_begin_94 ?_
      refine lv_iconst (v := 1) hx hb dX1_begin_97 (by decide) ?_
      have J115 : ∀ (v1 : Int32) (q2_ : Nat) (v3 : Int32) (g : Nat → Nat → Int32) (L : Nat → Nat → Int64) (H : Heap) (locs : List Loc) (ls : Array Slot), 57 ≤ q2_ → q2_ < 81 → fX1_begin_8_les_p115 fu v1 q2_ v3 g L = some (res, s9) → va_P G.1 vwCl (zw G (XS b) 105 a g L) H → va_D A (zw G (XS b) 105 a g L) → va_S A s.heap H locs → lv_has ls 6 [(0, .ref (a 8)), (1, .int v1), (2, .ref (a q2_)), (3, .int v3)] → W p l e { frames := 8, cells := 0, slots := 0, locals := 154 } s m [.ref (a 8), .int p1, .ref (a q1_)].toArray below meth c H locs 0 0 (MQ below ((kQv G (S := Unit) (fun _ => True) (fun _ => zw G (XS b) 105 a s9.1 s9.2)) A) [.ref (a 8), .int p1, .ref (a q1_)].toArray s 0 0 A) (F0 m 115 ls []) := by
        intro v1 q2_ v3 g L H locs ls q2_l q2_h h hP hD hS hl
        unfold fX1_begin_8_les_p115 at h
        refine lv_iload_n hx hb dX1_begin_115 rfl (lv_at hl 3 rfl) ?_
        refine lv_aload_n hx hb dX1_begin_116 rfl (lv_at hl 2 rfl) ?_
        refine x_getv (v := .int (g q2_ 3)) (Or.inr fl_X1_84) C hP (by omega) (xs_les (by omega) (by omega)) rfl dX1_begin_117 ?_
        refine lv_icmp_gt (x := v3) (y := (g q2_ 3)) (tgt := 124) hx hb dX1_begin_120 (by decide) (fun c5 => ?_) (fun c5 => ?_)
        ·
          have h := ite_t c5 h
          refine lv_aload_n hx hb dX1_begin_124 rfl (lv_at hl 2 rfl) ?_
          refine x_getv (v := .int (g q2_ 3)) (Or.inr fl_X1_84) C hP (by omega) (xs_les (by omega) (by omega)) rfl dX1_begin_125 ?_
          refine lv_aload_n hx hb dX1_begin_128 rfl (lv_at hl 0 rfl) ?_
          refine x_getr (Or.inl fl_X1_41) C hP (by decide) xs_8 rfl dX1_begin_129 ?_
          refine x_getr (Or.inr fl_X1_111) C hP (by decide) xs_6 rfl dX1_begin_132 ?_
          refine lv_iload_n hx hb dX1_begin_135 rfl (lv_at hl 1 rfl) ?_
          refine y_ald C hP (by decide) xs_28 dX1_begin_136 h (fun h => ?_)
          refine lv_iadd hx hb dX1_begin_137 ?_
          refine y_let h (fun x6 h => ?_)
          refine lv_istore (lv' := [(4, .int x6), (0, .ref (a 8)), (1, .int v1), (2, .ref (a q2_)), (3, .int v3)]) hx hb dX1_begin_138 hl (by decide) rfl (fun ls hl => ?_)
          refine lv_iload_n hx hb dX1_begin_140 rfl (lv_at hl 4 rfl) ?_
          refine lv_iload hx hb dX1_begin_141 (lv_at hl 0 rfl) ?_
          refine lv_icmp_le (x := v3) (y := x6) (tgt := 155) hx hb dX1_begin_143 (by decide) (fun c7 => ?_) (fun c7 => ?_)
          ·
            have h := ite_t c7 h
            refine lv_aload_n hx hb dX1_begin_155 rfl (lv_at hl 1 rfl) ?_
            refine x_getr (Or.inl fl_X1_9) C hP (by decide) xs_8 rfl dX1_begin_156 ?_
            refine lv_iload_n hx hb dX1_begin_159 rfl (lv_at hl 2 rfl) ?_
            refine lv_iload_n hx hb dX1_begin_160 rfl (lv_at hl 4 rfl) ?_
            refine y_ast C hP hD hS (by decide) xs_43 dX1_begin_161 h (fun g8 H locs h hP hD hS => ?_)
            refine lv_aload_n hx hb dX1_begin_162 rfl (lv_at hl 1 rfl) ?_
            refine x_getr (Or.inl fl_X1_21) C hP (by decide) xs_8 rfl dX1_begin_163 ?_
            refine lv_iload_n hx hb dX1_begin_166 rfl (lv_at hl 2 rfl) ?_
            refine lv_aload_n hx hb dX1_begin_167 rfl (lv_at hl 1 rfl) ?_
            refine lv_iload_n hx hb dX1_begin_168 rfl (lv_at hl 4 rfl) ?_
            refine lv_aload_n hx hb dX1_begin_169 rfl (lv_at hl 3 rfl) ?_
            obtain ⟨z_, g10, L11, hf12, h⟩ := cb_some h
            refine x_callVi (rest := [.int v1, .ref (a 46)]) li_X1_114 C (rX1_firstComingAt_8_les l G H.size b a fu g8 L v3 q2_ (by omega) (by omega) z_ (g10, L11) hf12) (kR rfl) hP hD hS 8 1 rfl (zat (by decide) xs_8) rfl hl.1 rfl (Nat.le_of_ble_eq_true rfl) dX1_begin_170 (fun x9 u_ H locs e_ hP hD hS => ?_)
            have e_ : x9 = z_ := e_
            subst e_
            have hP : va_P G.1 vwCl (zw G (XS b) 105 a g10 L11) H := hP
            have hD : va_D A (zw G (XS b) 105 a g10 L11) := hD
            refine y_ast C hP hD hS (by decide) xs_46 dX1_begin_173 h (fun g13 H locs h hP hD hS => ?_)
            exact y_vret C hr hlk hP hD hS h (Nat.le_of_ble_eq_true rfl) (Nat.le_of_ble_eq_true rfl) dX1_begin_174
          ·
            have h := ite_e c7 h
            refine lv_aload_n hx hb dX1_begin_146 rfl (lv_at hl 1 rfl) ?_
            refine x_getr (Or.inl fl_X1_9) C hP (by decide) xs_8 rfl dX1_begin_147 ?_
            refine lv_iload_n hx hb dX1_begin_150 rfl (lv_at hl 2 rfl) ?_
            refine lv_iload hx hb dX1_begin_151 (lv_at hl 0 rfl) ?_
            refine y_ast C hP hD hS (by decide) xs_43 dX1_begin_153 h (fun g14 H locs h hP hD hS => ?_)
            exact y_vret C hr hlk hP hD hS h (Nat.le_of_ble_eq_true rfl) (Nat.le_of_ble_eq_true rfl) dX1_begin_154
        ·
          have h := ite_e c5 h
          exact y_vret C hr hlk hP hD hS h (Nat.le_of_ble_eq_true rfl) (Nat.le_of_ble_eq_true rfl) dX1_begin_123
      refine lv_icmp_ne (x := (g q2_ 9)) (y := 1) (tgt := 115) hx hb dX1_begin_98 (by decide) (fun c15 => ?_) (fun c15 => ?_)
      ·
        have h := ite_e c15 h
        exact J115 v1 q2_ v3 g L H locs ls (by omega) (by omega) h hP hD hS (lv_sub hl [0, 1, 2, 3] rfl)
      ·
        have h := ite_t c15 h
        refine lv_aload_n hx hb dX1_begin_101 rfl (lv_at hl 0 rfl) ?_
        refine lv_aload_n hx hb dX1_begin_102 rfl (lv_at hl 2 rfl) ?_
        refine x_getv (v := .int (g q2_ 10)) (Or.inr fl_X1_104) C hP (by omega) (xs_les (by omega) (by omega)) rfl dX1_begin_103 ?_
        refine lv_aload_n hx hb dX1_begin_106 rfl (lv_at hl 2 rfl) ?_
        refine x_getv (v := .int (g q2_ 1)) (Or.inr fl_X1_87) C hP (by omega) (xs_les (by omega) (by omega)) rfl dX1_begin_107 ?_
        refine lv_iload_n hx hb dX1_begin_110 rfl (lv_at hl 3 rfl) ?_
        obtain ⟨z_, g17, L18, hf19, h⟩ := cb_some h
        refine x_callVi (rest := []) li_X1_107 C (rX1_comingOf_8 l G H.size b a fu g L (g q2_ 10) (g q2_ 1) v3 z_ (g17, L18) hf19) (kR rfl) hP hD hS 8 1 rfl (zat (by decide) xs_8) rfl hl.1 rfl (Nat.le_of_ble_eq_true rfl) dX1_begin_111 (fun x16 u_ H locs e_ hP hD hS => ?_)
        have e_ : x16 = z_ := e_
        subst e_
        have hP : va_P G.1 vwCl (zw G (XS b) 105 a g17 L18) H := hP
        have hD : va_D A (zw G (XS b) 105 a g17 L18) := hD
        refine lv_istore_n (lv' := [(3, .int x16), (0, .ref (a 8)), (1, .int v1), (2, .ref (a q2_)), (4, .int v4)]) hx hb dX1_begin_114 rfl hl (by decide) rfl (fun ls hl => ?_)
        exact J115 v1 q2_ x16 g17 L18 H locs ls (by omega) (by omega) h hP hD hS (lv_sub hl [1, 2, 3, 0] rfl)
    ·
      have h := ite_e c4 h
      refine lv_aload_n hx hb dX1_begin_34 rfl (lv_at hl 2 rfl) ?_
      refine x_getr (Or.inr fl_X1_90) C hP (by omega) (xs_les (by omega) (by omega)) rfl dX1_begin_35 ?_
      refine lv_iload hx hb dX1_begin_38 (lv_at hl 4 rfl) ?_
      refine y_ald C hP (by omega) (xs_wai (by omega)) dX1_begin_40 h (fun h => ?_)
      refine y_let h (fun x20 h => ?_)
      refine lv_istore (lv' := [(5, .int x20), (0, .ref (a 8)), (1, .int v1), (2, .ref (a q2_)), (3, .int v3), (4, .int v4)]) hx hb dX1_begin_41 hl (by decide) rfl (fun ls hl => ?_)
      refine lv_aload_n hx hb dX1_begin_43 rfl (lv_at hl 1 rfl) ?_
      refine x_getr (Or.inl fl_X1_24) C hP (by decide) xs_8 rfl dX1_begin_44 ?_
      refine lv_iload hx hb dX1_begin_47 (lv_at hl 5 rfl) ?_
      refine lv_aload_n hx hb dX1_begin_49 rfl (lv_at hl 1 rfl) ?_
      refine x_getr (Or.inl fl_X1_15) C hP (by decide) xs_8 rfl dX1_begin_50 ?_
      refine lv_iload hx hb dX1_begin_53 (lv_at hl 0 rfl) ?_
      refine y_ald C hP (by decide) xs_44 dX1_begin_55 h (fun h => ?_)
      refine lv_aload_n hx hb dX1_begin_56 rfl (lv_at hl 1 rfl) ?_
      refine lv_iload hx hb dX1_begin_57 (lv_at hl 0 rfl) ?_
      refine lv_iload_n hx hb dX1_begin_59 rfl (lv_at hl 2 rfl) ?_
      obtain ⟨z_, g22, L23, hf24, h⟩ := cb_some h
      refine x_callVi (rest := [.int (g 44 (Int32.toNatClampNeg x20)), .int v4, .ref (a 47)]) li_X1_93 C (rX1_way_8 l G H.size b a fu g L x20 v1 z_ (g22, L23) hf24) (kR rfl) hP hD hS 8 1 rfl (zat (by decide) xs_8) rfl hl.1 rfl (Nat.le_of_ble_eq_true rfl) dX1_begin_60 (fun x21 u_ H locs e_ hP hD hS => ?_)
      have e_ : x21 = z_ := e_
      subst e_
      have hP : va_P G.1 vwCl (zw G (XS b) 105 a g22 L23) H := hP
      have hD : va_D A (zw G (XS b) 105 a g22 L23) := hD
      refine lv_iadd hx hb dX1_begin_63 ?_
      refine lv_aload_n hx hb dX1_begin_64 rfl (lv_at hl 1 rfl) ?_
      refine x_getr (Or.inl fl_X1_41) C hP (by decide) xs_8 rfl dX1_begin_65 ?_
      refine x_getr (Or.inr fl_X1_96) C hP (by decide) xs_6 rfl dX1_begin_68 ?_
      refine lv_iload_n hx hb dX1_begin_71 rfl (lv_at hl 2 rfl) ?_
      refine y_ald C hP (by decide) xs_26 dX1_begin_72 h (fun h => ?_)
      refine lv_isub hx hb dX1_begin_73 ?_
      refine y_ast C hP hD hS (by decide) xs_47 dX1_begin_74 h (fun g25 H locs h hP hD hS => ?_)
      refine lv_iload_n hx hb dX1_begin_75 rfl (lv_at hl 4 rfl) ?_
      refine lv_aload_n hx hb dX1_begin_76 rfl (lv_at hl 1 rfl) ?_
      refine x_getr (Or.inl fl_X1_24) C hP (by decide) xs_8 rfl dX1_begin_77 ?_
      refine lv_iload hx hb dX1_begin_80 (lv_at hl 5 rfl) ?_
      refine y_ald C hP (by decide) xs_47 dX1_begin_82 h (fun h => ?_)
      refine k_max lm_X1_78 C hl.1 (Nat.le_of_ble_eq_true rfl) (Nat.le_of_ble_eq_true rfl) (Nat.le_of_ble_eq_true rfl) (Nat.le_of_ble_eq_true rfl) dX1_begin_83 ?_
      refine y_let h (fun x26 h => ?_)
      refine lv_istore_n (lv' := [(3, .int x26), (5, .int x20), (0, .ref (a 8)), (1, .int v1), (2, .ref (a q2_)), (4, .int v4)]) hx hb dX1_begin_86 rfl hl (by decide) rfl (fun ls hl => ?_)
      refine lv_iinc (v := (v4 + 1)) (lv' := [(4, .int (v4 + 1)), (3, .int x26), (5, .int x20), (0, .ref (a 8)), (1, .int v1), (2, .ref (a q2_))]) hx hb dX1_begin_87 hl (k := 5) rfl rfl (by decide) rfl (fun ls hl => ?_)
      refine lv_goto (tgt := 25) hx hb dX1_begin_90 (by decide) ?_
      exact ih25 (x26, (v4 + 1), g25, L23) h H locs ls hP hD hS (lv_sub hl [3, 4, 5, 1, 0] rfl)
  exact lp25 p1 q1_ (by omega) (by omega) fu (x3, 0, g2, L) h H locs ls hP hD hS (lv_sub hl [2, 3, 4, 1, 0] rfl)
def fX8_joined_p103 (fu : Nat) (t0 : Int32) (g : Nat → Nat → Int32) (L : Nat → Nat → Int64) : Option ((Int32) × zS) :=
  some (t0, (g, L))
def fX8_joined_p102 (fu : Nat) (g : Nat → Nat → Int32) (L : Nat → Nat → Int64) : Option ((Int32) × zS) :=
  fX8_joined_p103 fu 0 g L
def fX8_joined_p89 (fu : Nat) (t0 : Int32) (g : Nat → Nat → Int32) (L : Nat → Nat → Int64) : Option ((Int32) × zS) :=
  some (t0, (g, L))
def fX8_joined_p78 (fu : Nat) (t0 : Int32) (g : Nat → Nat → Int32) (L : Nat → Nat → Int64) : Option ((Int32) × zS) :=
  some (t0, (g, L))
def fX8_joined_p67 (fu : Nat) (t0 : Int32) (g : Nat → Nat → Int32) (L : Nat → Nat → Int64) : Option ((Int32) × zS) :=
  some (t0, (g, L))
def fX8_joined_p117 (fu : Nat) (t0 : Int32) (g : Nat → Nat → Int32) (L : Nat → Nat → Int64) : Option ((Int32) × zS) :=
  some (t0, (g, L))
def fX8_joined_p112 (fu : Nat) (g : Nat → Nat → Int32) (L : Nat → Nat → Int64) : Option ((Int32) × zS) :=
  fX8_joined_p117 fu 1 g L
def fX8_joined (fu : Nat) (p1 : Int32) (p2 : Int32) (p3 : Int32) (g : Nat → Nat → Int32) (L : Nat → Nat → Int64) : Option ((Int32) × zS) :=
  if (Int32.toInt p1) = (-13) then (if p2 = 0 then fX8_joined_p102 fu g L
  else if p3 = 0 then fX8_joined_p102 fu g L
  else fX8_joined_p103 fu 1 g L) else
  if (Int32.toInt p1) = (-12) then (if (p2 : Int32) = p3 then fX8_joined_p89 fu 1 g L
  else fX8_joined_p89 fu 0 g L) else
  if (Int32.toInt p1) = (-11) then (if p3 ≤ (p2 : Int32) then fX8_joined_p78 fu 0 g L
  else fX8_joined_p78 fu 1 g L) else
  if (Int32.toInt p1) = (-10) then (if p3 = 0 then fX8_joined_p67 fu 0 g L
  else cnz p3 (
  fX8_joined_p67 fu (p2 / p3) g L)) else
  if (Int32.toInt p1) = (-9) then (some ((p2 * p3), (g, L))) else
  if (Int32.toInt p1) = (-8) then (some ((p2 - p3), (g, L))) else
  if (Int32.toInt p1) = (-7) then (some ((p2 + p3), (g, L))) else
  if p2 = 0 then (if p3 = 0 then fX8_joined_p117 fu 0 g L
  else fX8_joined_p112 fu g L)
  else fX8_joined_p112 fu g L
set_option maxHeartbeats 4000000 in
set_option maxRecDepth 100000 in
theorem rX8_joined (l : Launch) (G : kG) (sz : Nat) (b : Nat) (a : Nat → Nat) (fu : Nat) (g : Nat → Nat → Int32) (L : Nat → Nat → Int64) (p1 : Int32) (p2 : Int32) (p3 : Int32) (res : Int32) (s9 : zS) (h : fX8_joined fu p1 p2 p3 g L = some (res, s9)) : kM l yX8_joined cX8_joined 3 (some .int) { frames := 6, cells := 0, slots := 0, locals := 110 } G [.int p1, .int p2, .int p3] (zw G (XS b) 105 a g L) sz (kQi G (S := Unit) (fun r' _ => r' = res) (fun _ => zw G (XS b) 105 a s9.1 s9.2)) := by
  refine kM.of (by decide) (Nat.le_of_ble_eq_true rfl) ?_
  intro p e s m below meth c A ls H C hr hlk hnm hP hD hS hl
  have C : kC G p s m c cX8_joined 3 RX8 A := C
  have hx := C.1
  have hb := C.2.1
  have hl : lv_has ls 3 [(0, .int p1), (1, .int p2), (2, .int p3)] := hl
  obtain ⟨locs, hlocs⟩ : ∃ q : List Loc, q = [] := ⟨_, rfl⟩
  rw [← hlocs] at hS
  rw [← hlocs]
  unfold fX8_joined at h
  refine lv_iload_n hx hb dX8_joined_0 rfl (lv_at hl 0 rfl) ?_
  by_cases c1 : (Int32.toInt p1) = (-13)
  ·
    have h := ite_t c1 h
    refine lv_tableIn (off := 89) (tgt := 90) hx hb dX8_joined_1 (by omega) (by omega) (by rw [c1]; rfl) (by decide) ?_
    refine lv_iload_n hx hb dX8_joined_90 rfl (lv_at hl 1 rfl) ?_
    have J103 : ∀ (t0 : Int32) (g : Nat → Nat → Int32) (L : Nat → Nat → Int64) (H : Heap) (locs : List Loc) (ls : Array Slot), fX8_joined_p103 fu t0 g L = some (res, s9) → va_P G.1 vwCl (zw G (XS b) 105 a g L) H → va_D A (zw G (XS b) 105 a g L) → va_S A s.heap H locs → lv_has ls 3 [] → W p l e { frames := 6, cells := 0, slots := 0, locals := 110 } s m [.int p1, .int p2, .int p3].toArray below meth c H locs 0 0 (MQ below ((kQi G (S := Unit) (fun r' _ => r' = res) (fun _ => zw G (XS b) 105 a s9.1 s9.2)) A) [.int p1, .int p2, .int p3].toArray s 0 0 A) (F0 m 103 ls [.int t0]) := by
      intro t0 g L H locs ls h hP hD hS hl
      unfold fX8_joined_p103 at h
      exact y_iret C hr hlk hP hD hS h (Nat.le_of_ble_eq_true rfl) (Nat.le_of_ble_eq_true rfl) dX8_joined_103
    have J102 : ∀ (g : Nat → Nat → Int32) (L : Nat → Nat → Int64) (H : Heap) (locs : List Loc) (ls : Array Slot), fX8_joined_p102 fu g L = some (res, s9) → va_P G.1 vwCl (zw G (XS b) 105 a g L) H → va_D A (zw G (XS b) 105 a g L) → va_S A s.heap H locs → lv_has ls 3 [] → W p l e { frames := 6, cells := 0, slots := 0, locals := 110 } s m [.int p1, .int p2, .int p3].toArray below meth c H locs 0 0 (MQ below ((kQi G (S := Unit) (fun r' _ => r' = res) (fun _ => zw G (XS b) 105 a s9.1 s9.2)) A) [.int p1, .int p2, .int p3].toArray s 0 0 A) (F0 m 102 ls []) := by
      intro g L H locs ls h hP hD hS hl
      unfold fX8_joined_p102 at h
      refine lv_iconst (v := 0) hx hb dX8_joined_102 (by decide) ?_
      exact J103 0 g L H locs ls h hP hD hS (lv_sub hl [] rfl)
    refine lv_if_eq (x := p2) (tgt := 102) hx hb dX8_joined_91 (by decide) (fun c2 => ?_) (fun c2 => ?_)
    ·
      have h := ite_t c2 h
      exact J102 g L H locs ls h hP hD hS (lv_sub hl [] rfl)
    ·
      have h := ite_e c2 h
      refine lv_iload_n hx hb dX8_joined_94 rfl (lv_at hl 2 rfl) ?_
      refine lv_if_eq (x := p3) (tgt := 102) hx hb dX8_joined_95 (by decide) (fun c3 => ?_) (fun c3 => ?_)
      ·
        have h := ite_t c3 h
        exact J102 g L H locs ls h hP hD hS (lv_sub hl [] rfl)
      ·
        have h := ite_e c3 h
        refine lv_iconst (v := 1) hx hb dX8_joined_98 (by decide) ?_
        refine lv_goto (tgt := 103) hx hb dX8_joined_99 (by decide) ?_
        exact J103 1 g L H locs ls h hP hD hS (lv_sub hl [] rfl)
  have h := ite_e c1 h
  by_cases c4 : (Int32.toInt p1) = (-12)
  ·
    have h := ite_t c4 h
    refine lv_tableIn (off := 78) (tgt := 79) hx hb dX8_joined_1 (by omega) (by omega) (by rw [c4]; rfl) (by decide) ?_
    refine lv_iload_n hx hb dX8_joined_79 rfl (lv_at hl 1 rfl) ?_
    refine lv_iload_n hx hb dX8_joined_80 rfl (lv_at hl 2 rfl) ?_
    have J89 : ∀ (t0 : Int32) (g : Nat → Nat → Int32) (L : Nat → Nat → Int64) (H : Heap) (locs : List Loc) (ls : Array Slot), fX8_joined_p89 fu t0 g L = some (res, s9) → va_P G.1 vwCl (zw G (XS b) 105 a g L) H → va_D A (zw G (XS b) 105 a g L) → va_S A s.heap H locs → lv_has ls 3 [] → W p l e { frames := 6, cells := 0, slots := 0, locals := 110 } s m [.int p1, .int p2, .int p3].toArray below meth c H locs 0 0 (MQ below ((kQi G (S := Unit) (fun r' _ => r' = res) (fun _ => zw G (XS b) 105 a s9.1 s9.2)) A) [.int p1, .int p2, .int p3].toArray s 0 0 A) (F0 m 89 ls [.int t0]) := by
      intro t0 g L H locs ls h hP hD hS hl
      unfold fX8_joined_p89 at h
      exact y_iret C hr hlk hP hD hS h (Nat.le_of_ble_eq_true rfl) (Nat.le_of_ble_eq_true rfl) dX8_joined_89
    refine lv_icmp_ne (x := p2) (y := p3) (tgt := 88) hx hb dX8_joined_81 (by decide) (fun c5 => ?_) (fun c5 => ?_)
    ·
      have h := ite_e c5 h
      refine lv_iconst (v := 0) hx hb dX8_joined_88 (by decide) ?_
      exact J89 0 g L H locs ls h hP hD hS (lv_sub hl [] rfl)
    ·
      have h := ite_t c5 h
      refine lv_iconst (v := 1) hx hb dX8_joined_84 (by decide) ?_
      refine lv_goto (tgt := 89) hx hb dX8_joined_85 (by decide) ?_
      exact J89 1 g L H locs ls h hP hD hS (lv_sub hl [] rfl)
  have h := ite_e c4 h
  by_cases c6 : (Int32.toInt p1) = (-11)
  ·
    have h := ite_t c6 h
    refine lv_tableIn (off := 67) (tgt := 68) hx hb dX8_joined_1 (by omega) (by omega) (by rw [c6]; rfl) (by decide) ?_
    refine lv_iload_n hx hb dX8_joined_68 rfl (lv_at hl 1 rfl) ?_
    refine lv_iload_n hx hb dX8_joined_69 rfl (lv_at hl 2 rfl) ?_
    have J78 : ∀ (t0 : Int32) (g : Nat → Nat → Int32) (L : Nat → Nat → Int64) (H : Heap) (locs : List Loc) (ls : Array Slot), fX8_joined_p78 fu t0 g L = some (res, s9) → va_P G.1 vwCl (zw G (XS b) 105 a g L) H → va_D A (zw G (XS b) 105 a g L) → va_S A s.heap H locs → lv_has ls 3 [] → W p l e { frames := 6, cells := 0, slots := 0, locals := 110 } s m [.int p1, .int p2, .int p3].toArray below meth c H locs 0 0 (MQ below ((kQi G (S := Unit) (fun r' _ => r' = res) (fun _ => zw G (XS b) 105 a s9.1 s9.2)) A) [.int p1, .int p2, .int p3].toArray s 0 0 A) (F0 m 78 ls [.int t0]) := by
      intro t0 g L H locs ls h hP hD hS hl
      unfold fX8_joined_p78 at h
      exact y_iret C hr hlk hP hD hS h (Nat.le_of_ble_eq_true rfl) (Nat.le_of_ble_eq_true rfl) dX8_joined_78
    refine lv_icmp_ge (x := p2) (y := p3) (tgt := 77) hx hb dX8_joined_70 (by decide) (fun c7 => ?_) (fun c7 => ?_)
    ·
      have h := ite_t c7 h
      refine lv_iconst (v := 0) hx hb dX8_joined_77 (by decide) ?_
      exact J78 0 g L H locs ls h hP hD hS (lv_sub hl [] rfl)
    ·
      have h := ite_e c7 h
      refine lv_iconst (v := 1) hx hb dX8_joined_73 (by decide) ?_
      refine lv_goto (tgt := 78) hx hb dX8_joined_74 (by decide) ?_
      exact J78 1 g L H locs ls h hP hD hS (lv_sub hl [] rfl)
  have h := ite_e c6 h
  by_cases c8 : (Int32.toInt p1) = (-10)
  ·
    have h := ite_t c8 h
    refine lv_tableIn (off := 55) (tgt := 56) hx hb dX8_joined_1 (by omega) (by omega) (by rw [c8]; rfl) (by decide) ?_
    refine lv_iload_n hx hb dX8_joined_56 rfl (lv_at hl 2 rfl) ?_
    have J67 : ∀ (t0 : Int32) (g : Nat → Nat → Int32) (L : Nat → Nat → Int64) (H : Heap) (locs : List Loc) (ls : Array Slot), fX8_joined_p67 fu t0 g L = some (res, s9) → va_P G.1 vwCl (zw G (XS b) 105 a g L) H → va_D A (zw G (XS b) 105 a g L) → va_S A s.heap H locs → lv_has ls 3 [] → W p l e { frames := 6, cells := 0, slots := 0, locals := 110 } s m [.int p1, .int p2, .int p3].toArray below meth c H locs 0 0 (MQ below ((kQi G (S := Unit) (fun r' _ => r' = res) (fun _ => zw G (XS b) 105 a s9.1 s9.2)) A) [.int p1, .int p2, .int p3].toArray s 0 0 A) (F0 m 67 ls [.int t0]) := by
      intro t0 g L H locs ls h hP hD hS hl
      unfold fX8_joined_p67 at h
      exact y_iret C hr hlk hP hD hS h (Nat.le_of_ble_eq_true rfl) (Nat.le_of_ble_eq_true rfl) dX8_joined_67
    refine lv_if_ne (x := p3) (tgt := 64) hx hb dX8_joined_57 (by decide) (fun c9 => ?_) (fun c9 => ?_)
    ·
      have h := ite_e c9 h
      refine lv_iload_n hx hb dX8_joined_64 rfl (lv_at hl 1 rfl) ?_
      refine lv_iload_n hx hb dX8_joined_65 rfl (lv_at hl 2 rfl) ?_
      obtain ⟨nz, h⟩ := cnz_some h
      refine lv_idiv hx hb dX8_joined_66 nz ?_
      exact J67 (p2 / p3) g L H locs ls h hP hD hS (lv_sub hl [] rfl)
    ·
      have h := ite_t c9 h
      refine lv_iconst (v := 0) hx hb dX8_joined_60 (by decide) ?_
      refine lv_goto (tgt := 67) hx hb dX8_joined_61 (by decide) ?_
      exact J67 0 g L H locs ls h hP hD hS (lv_sub hl [] rfl)
  have h := ite_e c8 h
  by_cases c10 : (Int32.toInt p1) = (-9)
  ·
    have h := ite_t c10 h
    refine lv_tableIn (off := 51) (tgt := 52) hx hb dX8_joined_1 (by omega) (by omega) (by rw [c10]; rfl) (by decide) ?_
    refine lv_iload_n hx hb dX8_joined_52 rfl (lv_at hl 1 rfl) ?_
    refine lv_iload_n hx hb dX8_joined_53 rfl (lv_at hl 2 rfl) ?_
    refine lv_imul hx hb dX8_joined_54 ?_
    exact y_iret C hr hlk hP hD hS h (Nat.le_of_ble_eq_true rfl) (Nat.le_of_ble_eq_true rfl) dX8_joined_55
  have h := ite_e c10 h
  by_cases c11 : (Int32.toInt p1) = (-8)
  ·
    have h := ite_t c11 h
    refine lv_tableIn (off := 47) (tgt := 48) hx hb dX8_joined_1 (by omega) (by omega) (by rw [c11]; rfl) (by decide) ?_
    refine lv_iload_n hx hb dX8_joined_48 rfl (lv_at hl 1 rfl) ?_
    refine lv_iload_n hx hb dX8_joined_49 rfl (lv_at hl 2 rfl) ?_
    refine lv_isub hx hb dX8_joined_50 ?_
    exact y_iret C hr hlk hP hD hS h (Nat.le_of_ble_eq_true rfl) (Nat.le_of_ble_eq_true rfl) dX8_joined_51
  have h := ite_e c11 h
  by_cases c12 : (Int32.toInt p1) = (-7)
  ·
    have h := ite_t c12 h
    refine lv_tableIn (off := 43) (tgt := 44) hx hb dX8_joined_1 (by omega) (by omega) (by rw [c12]; rfl) (by decide) ?_
    refine lv_iload_n hx hb dX8_joined_44 rfl (lv_at hl 1 rfl) ?_
    refine lv_iload_n hx hb dX8_joined_45 rfl (lv_at hl 2 rfl) ?_
    refine lv_iadd hx hb dX8_joined_46 ?_
    exact y_iret C hr hlk hP hD hS h (Nat.le_of_ble_eq_true rfl) (Nat.le_of_ble_eq_true rfl) dX8_joined_47
  have h := ite_e c12 h
  refine lv_tableOut (tgt := 104) hx hb dX8_joined_1 (by omega) (by decide) ?_
  refine lv_iload_n hx hb dX8_joined_104 rfl (lv_at hl 1 rfl) ?_
  have J117 : ∀ (t0 : Int32) (g : Nat → Nat → Int32) (L : Nat → Nat → Int64) (H : Heap) (locs : List Loc) (ls : Array Slot), fX8_joined_p117 fu t0 g L = some (res, s9) → va_P G.1 vwCl (zw G (XS b) 105 a g L) H → va_D A (zw G (XS b) 105 a g L) → va_S A s.heap H locs → lv_has ls 3 [] → W p l e { frames := 6, cells := 0, slots := 0, locals := 110 } s m [.int p1, .int p2, .int p3].toArray below meth c H locs 0 0 (MQ below ((kQi G (S := Unit) (fun r' _ => r' = res) (fun _ => zw G (XS b) 105 a s9.1 s9.2)) A) [.int p1, .int p2, .int p3].toArray s 0 0 A) (F0 m 117 ls [.int t0]) := by
    intro t0 g L H locs ls h hP hD hS hl
    unfold fX8_joined_p117 at h
    exact y_iret C hr hlk hP hD hS h (Nat.le_of_ble_eq_true rfl) (Nat.le_of_ble_eq_true rfl) dX8_joined_117
  have J112 : ∀ (g : Nat → Nat → Int32) (L : Nat → Nat → Int64) (H : Heap) (locs : List Loc) (ls : Array Slot), fX8_joined_p112 fu g L = some (res, s9) → va_P G.1 vwCl (zw G (XS b) 105 a g L) H → va_D A (zw G (XS b) 105 a g L) → va_S A s.heap H locs → lv_has ls 3 [] → W p l e { frames := 6, cells := 0, slots := 0, locals := 110 } s m [.int p1, .int p2, .int p3].toArray below meth c H locs 0 0 (MQ below ((kQi G (S := Unit) (fun r' _ => r' = res) (fun _ => zw G (XS b) 105 a s9.1 s9.2)) A) [.int p1, .int p2, .int p3].toArray s 0 0 A) (F0 m 112 ls []) := by
    intro g L H locs ls h hP hD hS hl
    unfold fX8_joined_p112 at h
    refine lv_iconst (v := 1) hx hb dX8_joined_112 (by decide) ?_
    refine lv_goto (tgt := 117) hx hb dX8_joined_113 (by decide) ?_
    exact J117 1 g L H locs ls h hP hD hS (lv_sub hl [] rfl)
  refine lv_if_ne (x := p2) (tgt := 112) hx hb dX8_joined_105 (by decide) (fun c13 => ?_) (fun c13 => ?_)
  ·
    have h := ite_e c13 h
    exact J112 g L H locs ls h hP hD hS (lv_sub hl [] rfl)
  ·
    have h := ite_t c13 h
    refine lv_iload_n hx hb dX8_joined_108 rfl (lv_at hl 2 rfl) ?_
    refine lv_if_eq (x := p3) (tgt := 116) hx hb dX8_joined_109 (by decide) (fun c14 => ?_) (fun c14 => ?_)
    ·
      have h := ite_t c14 h
      refine lv_iconst (v := 0) hx hb dX8_joined_116 (by decide) ?_
      exact J117 0 g L H locs ls h hP hD hS (lv_sub hl [] rfl)
    ·
      have h := ite_e c14 h
      exact J112 g L H locs ls h hP hD hS (lv_sub hl [] rfl)
def fX8_value_3_48_p12 (fu : Nat) (g : Nat → Nat → Int32) (L : Nat → Nat → Int64) : Option ((Int32) × zS) :=
  some (0, (g, L))
def fX8_value_3_48_p188 (fu : Nat) (t0 : Int32) (g : Nat → Nat → Int32) (L : Nat → Nat → Int64) : Option ((Int32) × zS) :=
  some (t0, (g, L))
def fX8_value_3_48_p167 (fu : Nat) (k24 : Int32 × Int32 × (Nat → Nat → Int32) × (Nat → Nat → Int64) → Option ((Int32) × zS)) (v1 : Int32) (v3 : Int32) (v4 : Int32) (g : Nat → Nat → Int32) (L : Nat → Nat → Int64) : Option ((Int32) × zS) :=
  k24 (v3, (v4 + 1), g, L)
def fX8_value_3_48_p126 (fu : Nat) (k24 : Int32 × Int32 × (Nat → Nat → Int32) × (Nat → Nat → Int64) → Option ((Int32) × zS)) (v1 : Int32) (v3 : Int32) (v4 : Int32) (t0 : Int32) (t1 : Int32) (g : Nat → Nat → Int32) (L : Nat → Nat → Int64) : Option ((Int32) × zS) :=
  ck t1 64 (sti g 21 (Int32.toNatClampNeg t1) t0 (fun g16 =>
  fX8_value_3_48_p167 fu k24 v1 v3 v4 g16 L))
def fX8_value_3_48_p82 (fu : Nat) (k24 : Int32 × Int32 × (Nat → Nat → Int32) × (Nat → Nat → Int64) → Option ((Int32) × zS)) (v1 : Int32) (v3 : Int32) (v4 : Int32) (t0 : Int32) (t1 : Int32) (g : Nat → Nat → Int32) (L : Nat → Nat → Int64) : Option ((Int32) × zS) :=
  ck t1 64 (sti g 21 (Int32.toNatClampNeg t1) t0 (fun g19 =>
  fX8_value_3_48_p167 fu k24 v1 (v3 + 1) v4 g19 L))
def fX8_value_3_48_s24 (fu : Nat) (v1 : Int32) (k24 : Int32 × Int32 × (Nat → Nat → Int32) × (Nat → Nat → Int64) → Option ((Int32) × zS)) (v3 : Int32) (v4 : Int32) (g : Nat → Nat → Int32) (L : Nat → Nat → Int64) : Option ((Int32) × zS) :=
  ck (v1 + 1) 5 (
  if (g 20 (Int32.toNatClampNeg (v1 + 1))) ≤ v4 then (if (v3 : Int32) = 1 then ck 0 64 (
  fX8_value_3_48_p188 fu (g 21 (Int32.toNatClampNeg 0)) g L)
  else fX8_value_3_48_p188 fu 0 g L)
  else ck v4 700 (
  lti (g 19 (Int32.toNatClampNeg v4)) (fun x6 =>
  if (x6 : Int32) < (-6) then (if (x6 : Int32) = (-15) then (if 1 ≤ (v3 : Int32) then ck (v3 - 1) 64 (
  if (g 21 (Int32.toNatClampNeg (v3 - 1))) = 0 then fX8_value_3_48_p126 fu k24 v1 v3 v4 1 (v3 - 1) g L
  else fX8_value_3_48_p126 fu k24 v1 v3 v4 0 (v3 - 1) g L)
  else some (0, (g, L)))
  else if 2 ≤ (v3 : Int32) then ck ((v3 + (-1)) - 1) 64 (
  ck (v3 + (-1)) 64 (
  cb (fX8_joined fu x6 (g 21 (Int32.toNatClampNeg ((v3 + (-1)) - 1))) (g 21 (Int32.toNatClampNeg (v3 + (-1)))) g L) (fun x10 g11 L12 =>
  ck ((v3 + (-1)) - 1) 64 (sti g11 21 (Int32.toNatClampNeg ((v3 + (-1)) - 1)) x10 (fun g14 =>
  fX8_value_3_48_p167 fu k24 v1 (v3 + (-1)) v4 g14 L12)))))
  else some (0, (g, L)))
  else if (v3 : Int32) < 64 then (if x6 < 0 then ck ((-1) - x6) 6 (
  fX8_value_3_48_p82 fu k24 v1 v3 v4 (g 48 (Int32.toNatClampNeg ((-1) - x6))) v3 g L)
  else fX8_value_3_48_p82 fu k24 v1 v3 v4 x6 v3 g L)
  else some (0, (g, L)))))
def fX8_value_3_48_l24 (fu : Nat) (v1 : Int32) (v3 : Int32) (v4 : Int32) (g : Nat → Nat → Int32) (L : Nat → Nat → Int64) : Option ((Int32) × zS) :=
  whileK (fun k v => fX8_value_3_48_s24 fu v1 k v.1 v.2.1 v.2.2.1 v.2.2.2) fu (v3, v4, g, L)
def fX8_value_3_48 (fu : Nat) (p1 : Int32) (g : Nat → Nat → Int32) (L : Nat → Nat → Int64) : Option ((Int32) × zS) :=
  if p1 < 0 then fX8_value_3_48_p12 fu g L
  else if p1 < (g 3 3) then ck p1 5 (
  lti (g 20 (Int32.toNatClampNeg p1)) (fun x3 =>
  fX8_value_3_48_l24 fu p1 0 x3 g L))
  else fX8_value_3_48_p12 fu g L
set_option maxHeartbeats 4000000 in
set_option maxRecDepth 100000 in
theorem rX8_value_3_48 (l : Launch) (G : kG) (sz : Nat) (b : Nat) (a : Nat → Nat) (fu : Nat) (g : Nat → Nat → Int32) (L : Nat → Nat → Int64) (p1 : Int32) (res : Int32) (s9 : zS) (h : fX8_value_3_48 fu p1 g L = some (res, s9)) : kM l yX8_value cX8_value 6 (some .int) { frames := 7, cells := 0, slots := 0, locals := 132 } G [.ref (a 3), .int p1, .ref (a 48)] (zw G (XS b) 105 a g L) sz (kQi G (S := Unit) (fun r' _ => r' = res) (fun _ => zw G (XS b) 105 a s9.1 s9.2)) := by
  refine kM.of (by decide) (Nat.le_of_ble_eq_true rfl) ?_
  intro p e s m below meth c A ls H C hr hlk hnm hP hD hS hl
  have C : kC G p s m c cX8_value 6 RX8 A := C
  have hx := C.1
  have hb := C.2.1
  have hl : lv_has ls 6 [(0, .ref (a 3)), (1, .int p1), (2, .ref (a 48))] := hl
  obtain ⟨locs, hlocs⟩ : ∃ q : List Loc, q = [] := ⟨_, rfl⟩
  rw [← hlocs] at hS
  rw [← hlocs]
  unfold fX8_value_3_48 at h
  refine lv_iload_n hx hb dX8_value_0 rfl (lv_at hl 1 rfl) ?_
  have J12 : ∀ (g : Nat → Nat → Int32) (L : Nat → Nat → Int64) (H : Heap) (locs : List Loc) (ls : Array Slot), fX8_value_3_48_p12 fu g L = some (res, s9) → va_P G.1 vwCl (zw G (XS b) 105 a g L) H → va_D A (zw G (XS b) 105 a g L) → va_S A s.heap H locs → lv_has ls 6 [] → W p l e { frames := 7, cells := 0, slots := 0, locals := 132 } s m [.ref (a 3), .int p1, .ref (a 48)].toArray below meth c H locs 0 0 (MQ below ((kQi G (S := Unit) (fun r' _ => r' = res) (fun _ => zw G (XS b) 105 a s9.1 s9.2)) A) [.ref (a 3), .int p1, .ref (a 48)].toArray s 0 0 A) (F0 m 12 ls []) := by
    intro g L H locs ls h hP hD hS hl
    unfold fX8_value_3_48_p12 at h
    refine lv_iconst (v := 0) hx hb dX8_value_12 (by decide) ?_
    exact y_iret C hr hlk hP hD hS h (Nat.le_of_ble_eq_true rfl) (Nat.le_of_ble_eq_true rfl) dX8_value_13
  refine lv_if_lt (x := p1) (tgt := 12) hx hb dX8_value_1 (by decide) (fun c1 => ?_) (fun c1 => ?_)
  ·
    have h := ite_t c1 h
    exact J12 g L H locs ls h hP hD hS (lv_sub hl [] rfl)
  ·
    have h := ite_e c1 h
    refine lv_iload_n hx hb dX8_value_4 rfl (lv_at hl 1 rfl) ?_
    refine lv_aload_n hx hb dX8_value_5 rfl (lv_at hl 0 rfl) ?_
    refine x_getv (v := .int (g 3 3)) (Or.inl fl_X8_21) C hP (by decide) xs_3 rfl dX8_value_6 ?_
    refine lv_icmp_lt (x := p1) (y := (g 3 3)) (tgt := 14) hx hb dX8_value_9 (by decide) (fun c2 => ?_) (fun c2 => ?_)
    ·
      have h := ite_t c2 h
      refine lv_iconst (v := 0) hx hb dX8_value_14 (by decide) ?_
      refine lv_istore_n (lv' := [(3, .int 0), (0, .ref (a 3)), (1, .int p1), (2, .ref (a 48))]) hx hb dX8_value_15 rfl hl (by decide) rfl (fun ls hl => ?_)
      refine lv_aload_n hx hb dX8_value_16 rfl (lv_at hl 1 rfl) ?_
      refine x_getr (Or.inl fl_X8_15) C hP (by decide) xs_3 rfl dX8_value_17 ?_
      refine lv_iload_n hx hb dX8_value_20 rfl (lv_at hl 2 rfl) ?_
      refine y_ald C hP (by decide) xs_20 dX8_value_21 h (fun h => ?_)
      refine y_let h (fun x3 h => ?_)
      refine lv_istore (lv' := [(4, .int x3), (3, .int 0), (0, .ref (a 3)), (1, .int p1), (2, .ref (a 48))]) hx hb dX8_value_22 hl (by decide) rfl (fun ls hl => ?_)
      have lp24 : ∀ (v1 : Int32), ∀ (n : Nat) (v : Int32 × Int32 × (Nat → Nat → Int32) × (Nat → Nat → Int64)), whileK (fun k v => fX8_value_3_48_s24 fu v1 k v.1 v.2.1 v.2.2.1 v.2.2.2) n v = some (res, s9) → ∀ (H : Heap) (locs : List Loc) (ls : Array Slot), va_P G.1 vwCl (zw G (XS b) 105 a (v.2.2.1) (v.2.2.2)) H → va_D A (zw G (XS b) 105 a (v.2.2.1) (v.2.2.2)) → va_S A s.heap H locs → lv_has ls 6 [(0, .ref (a 3)), (1, .int v1), (2, .ref (a 48)), (3, .int (v.1)), (4, .int (v.2.1))] → W p l e { frames := 7, cells := 0, slots := 0, locals := 132 } s m [.ref (a 3), .int p1, .ref (a 48)].toArray below meth c H locs 0 0 (MQ below ((kQi G (S := Unit) (fun r' _ => r' = res) (fun _ => zw G (XS b) 105 a s9.1 s9.2)) A) [.ref (a 3), .int p1, .ref (a 48)].toArray s 0 0 A) (F0 m 24 ls []) := by
        intro v1
        refine while_ind (fun k24 ih24 v h => ?_)
        obtain ⟨v3, v4, g, L⟩ := v
        intro H locs ls hP hD hS hl
        have h : fX8_value_3_48_s24 fu v1 k24 v3 v4 g L = some (res, s9) := h
        have hP : va_P G.1 vwCl (zw G (XS b) 105 a g L) H := hP
        have hD : va_D A (zw G (XS b) 105 a g L) := hD
        have hl : lv_has ls 6 [(0, .ref (a 3)), (1, .int v1), (2, .ref (a 48)), (3, .int v3), (4, .int v4)] := hl
        show W p l e { frames := 7, cells := 0, slots := 0, locals := 132 } s m [.ref (a 3), .int p1, .ref (a 48)].toArray below meth c H locs 0 0 (MQ below ((kQi G (S := Unit) (fun r' _ => r' = res) (fun _ => zw G (XS b) 105 a s9.1 s9.2)) A) [.ref (a 3), .int p1, .ref (a 48)].toArray s 0 0 A) (F0 m 24 ls [])
        unfold fX8_value_3_48_s24 at h
        refine lv_iload hx hb dX8_value_24 (lv_at hl 4 rfl) ?_
        refine lv_aload_n hx hb dX8_value_26 rfl (lv_at hl 0 rfl) ?_
        refine x_getr (Or.inl fl_X8_15) C hP (by decide) xs_3 rfl dX8_value_27 ?_
        refine lv_iload_n hx hb dX8_value_30 rfl (lv_at hl 1 rfl) ?_
        refine lv_iconst (v := 1) hx hb dX8_value_31 (by decide) ?_
        refine lv_iadd hx hb dX8_value_32 ?_
        refine y_ald C hP (by decide) xs_20 dX8_value_33 h (fun h => ?_)
        refine lv_icmp_ge (x := v4) (y := (g 20 (Int32.toNatClampNeg (v1 + 1)))) (tgt := 173) hx hb dX8_value_34 (by decide) (fun c4 => ?_) (fun c4 => ?_)
        ·
          have h := ite_t c4 h
          refine lv_iload_n hx hb dX8_value_173 rfl (lv_at hl 3 rfl) ?_
          refine lv_iconst (v := 1) hx hb dX8_value_174 (by decide) ?_
          have J188 : ∀ (t0 : Int32) (g : Nat → Nat → Int32) (L : Nat → Nat → Int64) (H : Heap) (locs : List Loc) (ls : Array Slot), fX8_value_3_48_p188 fu t0 g L = some (res, s9) → va_P G.1 vwCl (zw G (XS b) 105 a g L) H → va_D A (zw G (XS b) 105 a g L) → va_S A s.heap H locs → lv_has ls 6 [] → W p l e { frames := 7, cells := 0, slots := 0, locals := 132 } s m [.ref (a 3), .int p1, .ref (a 48)].toArray below meth c H locs 0 0 (MQ below ((kQi G (S := Unit) (fun r' _ => r' = res) (fun _ => zw G (XS b) 105 a s9.1 s9.2)) A) [.ref (a 3), .int p1, .ref (a 48)].toArray s 0 0 A) (F0 m 188 ls [.int t0]) := by
            intro t0 g L H locs ls h hP hD hS hl
            unfold fX8_value_3_48_p188 at h
            exact y_iret C hr hlk hP hD hS h (Nat.le_of_ble_eq_true rfl) (Nat.le_of_ble_eq_true rfl) dX8_value_188
          refine lv_icmp_ne (x := v3) (y := 1) (tgt := 187) hx hb dX8_value_175 (by decide) (fun c5 => ?_) (fun c5 => ?_)
          ·
            have h := ite_e c5 h
            refine lv_iconst (v := 0) hx hb dX8_value_187 (by decide) ?_
            exact J188 0 g L H locs ls h hP hD hS (lv_sub hl [] rfl)
          ·
            have h := ite_t c5 h
            refine lv_aload_n hx hb dX8_value_178 rfl (lv_at hl 0 rfl) ?_
            refine x_getr (Or.inl fl_X8_18) C hP (by decide) xs_3 rfl dX8_value_179 ?_
            refine lv_iconst (v := 0) hx hb dX8_value_182 (by decide) ?_
            refine y_ald C hP (by decide) xs_21 dX8_value_183 h (fun h => ?_)
            refine lv_goto (tgt := 188) hx hb dX8_value_184 (by decide) ?_
            exact J188 (g 21 (Int32.toNatClampNeg 0)) g L H locs ls h hP hD hS (lv_sub hl [] rfl)
        ·
          have h := ite_e c4 h
          refine lv_aload_n hx hb dX8_value_37 rfl (lv_at hl 0 rfl) ?_
          refine x_getr (Or.inl fl_X8_9) C hP (by decide) xs_3 rfl dX8_value_38 ?_
          refine lv_iload hx hb dX8_value_41 (lv_at hl 4 rfl) ?_
          refine y_ald C hP (by decide) xs_19 dX8_value_43 h (fun h => ?_)
          refine y_let h (fun x6 h => ?_)
          refine lv_istore (lv' := [(5, .int x6), (0, .ref (a 3)), (1, .int v1), (2, .ref (a 48)), (3, .int v3), (4, .int v4)]) hx hb dX8_value_44 hl (by decide) rfl (fun ls hl => ?_)
          refine lv_iload hx hb dX8_value_46 (lv_at hl 0 rfl) ?_
          refine lv_bipush (v := -6) hx hb dX8_value_48 (by decide) ?_
          have J167 : ∀ (v3 : Int32) (v4 : Int32) (g : Nat → Nat → Int32) (L : Nat → Nat → Int64) (H : Heap) (locs : List Loc) (ls : Array Slot), fX8_value_3_48_p167 fu k24 v1 v3 v4 g L = some (res, s9) → va_P G.1 vwCl (zw G (XS b) 105 a g L) H → va_D A (zw G (XS b) 105 a g L) → va_S A s.heap H locs → lv_has ls 6 [(0, .ref (a 3)), (1, .int v1), (2, .ref (a 48)), (3, .int v3), (4, .int v4)] → W p l e { frames := 7, cells := 0, slots := 0, locals := 132 } s m [.ref (a 3), .int p1, .ref (a 48)].toArray below meth c H locs 0 0 (MQ below ((kQi G (S := Unit) (fun r' _ => r' = res) (fun _ => zw G (XS b) 105 a s9.1 s9.2)) A) [.ref (a 3), .int p1, .ref (a 48)].toArray s 0 0 A) (F0 m 167 ls []) := by
            intro v3 v4 g L H locs ls h hP hD hS hl
            unfold fX8_value_3_48_p167 at h
            refine lv_iinc (v := (v4 + 1)) (lv' := [(4, .int (v4 + 1)), (0, .ref (a 3)), (1, .int v1), (2, .ref (a 48)), (3, .int v3)]) hx hb dX8_value_167 hl (k := 4) rfl rfl (by decide) rfl (fun ls hl => ?_)
            refine lv_goto (tgt := 24) hx hb dX8_value_170 (by decide) ?_
            exact ih24 (v3, (v4 + 1), g, L) h H locs ls hP hD hS (lv_sub hl [1, 2, 3, 4, 0] rfl)
          refine lv_icmp_lt (x := x6) (y := (-6)) (tgt := 89) hx hb dX8_value_50 (by decide) (fun c7 => ?_) (fun c7 => ?_)
          ·
            have h := ite_t c7 h
            refine lv_iload hx hb dX8_value_89 (lv_at hl 0 rfl) ?_
            refine lv_bipush (v := -15) hx hb dX8_value_91 (by decide) ?_
            refine lv_icmp_ne (x := x6) (y := (-15)) (tgt := 130) hx hb dX8_value_93 (by decide) (fun c8 => ?_) (fun c8 => ?_)
            ·
              have h := ite_e c8 h
              refine lv_iload_n hx hb dX8_value_130 rfl (lv_at hl 4 rfl) ?_
              refine lv_iconst (v := 2) hx hb dX8_value_131 (by decide) ?_
              refine lv_icmp_ge (x := v3) (y := 2) (tgt := 137) hx hb dX8_value_132 (by decide) (fun c9 => ?_) (fun c9 => ?_)
              ·
                have h := ite_t c9 h
                refine lv_iinc (v := (v3 + (-1))) (lv' := [(3, .int (v3 + (-1))), (5, .int x6), (0, .ref (a 3)), (1, .int v1), (2, .ref (a 48)), (4, .int v4)]) hx hb dX8_value_137 hl (k := 4) rfl rfl (by decide) rfl (fun ls hl => ?_)
                refine lv_aload_n hx hb dX8_value_140 rfl (lv_at hl 2 rfl) ?_
                refine x_getr (Or.inl fl_X8_18) C hP (by decide) xs_3 rfl dX8_value_141 ?_
                refine lv_iload_n hx hb dX8_value_144 rfl (lv_at hl 0 rfl) ?_
                refine lv_iconst (v := 1) hx hb dX8_value_145 (by decide) ?_
                refine lv_isub hx hb dX8_value_146 ?_
                refine lv_iload hx hb dX8_value_147 (lv_at hl 1 rfl) ?_
                refine lv_aload_n hx hb dX8_value_149 rfl (lv_at hl 2 rfl) ?_
                refine x_getr (Or.inl fl_X8_18) C hP (by decide) xs_3 rfl dX8_value_150 ?_
                refine lv_iload_n hx hb dX8_value_153 rfl (lv_at hl 0 rfl) ?_
                refine lv_iconst (v := 1) hx hb dX8_value_154 (by decide) ?_
                refine lv_isub hx hb dX8_value_155 ?_
                refine y_ald C hP (by decide) xs_21 dX8_value_156 h (fun h => ?_)
                refine lv_aload_n hx hb dX8_value_157 rfl (lv_at hl 2 rfl) ?_
                refine x_getr (Or.inl fl_X8_18) C hP (by decide) xs_3 rfl dX8_value_158 ?_
                refine lv_iload_n hx hb dX8_value_161 rfl (lv_at hl 0 rfl) ?_
                refine y_ald C hP (by decide) xs_21 dX8_value_162 h (fun h => ?_)
                obtain ⟨z_, g11, L12, hf13, h⟩ := cb_some h
                refine x_callSi (rest := [.int ((v3 + (-1)) - 1), .ref (a 21)]) li_X8_28 C (rX8_joined l G H.size b a fu g L x6 (g 21 (Int32.toNatClampNeg ((v3 + (-1)) - 1))) (g 21 (Int32.toNatClampNeg (v3 + (-1)))) z_ (g11, L12) hf13) (kR rfl) hP hD hS rfl hl.1 rfl (Nat.le_of_ble_eq_true rfl) dX8_value_163 (fun x10 u_ H locs e_ hP hD hS => ?_)
                have e_ : x10 = z_ := e_
                subst e_
                have hP : va_P G.1 vwCl (zw G (XS b) 105 a g11 L12) H := hP
                have hD : va_D A (zw G (XS b) 105 a g11 L12) := hD
                refine y_ast C hP hD hS (by decide) xs_21 dX8_value_166 h (fun g14 H locs h hP hD hS => ?_)
                exact J167 (v3 + (-1)) v4 g14 L12 H locs ls h hP hD hS (lv_sub hl [2, 3, 4, 0, 5] rfl)
              ·
                have h := ite_e c9 h
                refine lv_iconst (v := 0) hx hb dX8_value_135 (by decide) ?_
                exact y_iret C hr hlk hP hD hS h (Nat.le_of_ble_eq_true rfl) (Nat.le_of_ble_eq_true rfl) dX8_value_136
            ·
              have h := ite_t c8 h
              refine lv_iload_n hx hb dX8_value_96 rfl (lv_at hl 4 rfl) ?_
              refine lv_iconst (v := 1) hx hb dX8_value_97 (by decide) ?_
              refine lv_icmp_ge (x := v3) (y := 1) (tgt := 103) hx hb dX8_value_98 (by decide) (fun c15 => ?_) (fun c15 => ?_)
              ·
                have h := ite_t c15 h
                refine lv_aload_n hx hb dX8_value_103 rfl (lv_at hl 1 rfl) ?_
                refine x_getr (Or.inl fl_X8_18) C hP (by decide) xs_3 rfl dX8_value_104 ?_
                refine lv_iload_n hx hb dX8_value_107 rfl (lv_at hl 4 rfl) ?_
                refine lv_iconst (v := 1) hx hb dX8_value_108 (by decide) ?_
                refine lv_isub hx hb dX8_value_109 ?_
                refine lv_aload_n hx hb dX8_value_110 rfl (lv_at hl 1 rfl) ?_
                refine x_getr (Or.inl fl_X8_18) C hP (by decide) xs_3 rfl dX8_value_111 ?_
                refine lv_iload_n hx hb dX8_value_114 rfl (lv_at hl 4 rfl) ?_
                refine lv_iconst (v := 1) hx hb dX8_value_115 (by decide) ?_
                refine lv_isub hx hb dX8_value_116 ?_
                refine y_ald C hP (by decide) xs_21 dX8_value_117 h (fun h => ?_)
                have J126 : ∀ (v3 : Int32) (v4 : Int32) (t0 : Int32) (t1 : Int32) (g : Nat → Nat → Int32) (L : Nat → Nat → Int64) (H : Heap) (locs : List Loc) (ls : Array Slot), fX8_value_3_48_p126 fu k24 v1 v3 v4 t0 t1 g L = some (res, s9) → va_P G.1 vwCl (zw G (XS b) 105 a g L) H → va_D A (zw G (XS b) 105 a g L) → va_S A s.heap H locs → lv_has ls 6 [(0, .ref (a 3)), (1, .int v1), (2, .ref (a 48)), (3, .int v3), (4, .int v4)] → W p l e { frames := 7, cells := 0, slots := 0, locals := 132 } s m [.ref (a 3), .int p1, .ref (a 48)].toArray below meth c H locs 0 0 (MQ below ((kQi G (S := Unit) (fun r' _ => r' = res) (fun _ => zw G (XS b) 105 a s9.1 s9.2)) A) [.ref (a 3), .int p1, .ref (a 48)].toArray s 0 0 A) (F0 m 126 ls [.int t0, .int t1, .ref (a 21)]) := by
                  intro v3 v4 t0 t1 g L H locs ls h hP hD hS hl
                  unfold fX8_value_3_48_p126 at h
                  refine y_ast C hP hD hS (by decide) xs_21 dX8_value_126 h (fun g16 H locs h hP hD hS => ?_)
                  refine lv_goto (tgt := 167) hx hb dX8_value_127 (by decide) ?_
                  exact J167 v3 v4 g16 L H locs ls h hP hD hS (lv_sub hl [0, 1, 2, 3, 4] rfl)
                refine lv_if_ne (x := (g 21 (Int32.toNatClampNeg (v3 - 1)))) (tgt := 125) hx hb dX8_value_118 (by decide) (fun c17 => ?_) (fun c17 => ?_)
                ·
                  have h := ite_e c17 h
                  refine lv_iconst (v := 0) hx hb dX8_value_125 (by decide) ?_
                  exact J126 v3 v4 0 (v3 - 1) g L H locs ls h hP hD hS (lv_sub hl [1, 2, 3, 4, 5] rfl)
                ·
                  have h := ite_t c17 h
                  refine lv_iconst (v := 1) hx hb dX8_value_121 (by decide) ?_
                  refine lv_goto (tgt := 126) hx hb dX8_value_122 (by decide) ?_
                  exact J126 v3 v4 1 (v3 - 1) g L H locs ls h hP hD hS (lv_sub hl [1, 2, 3, 4, 5] rfl)
              ·
                have h := ite_e c15 h
                refine lv_iconst (v := 0) hx hb dX8_value_101 (by decide) ?_
                exact y_iret C hr hlk hP hD hS h (Nat.le_of_ble_eq_true rfl) (Nat.le_of_ble_eq_true rfl) dX8_value_102
          ·
            have h := ite_e c7 h
            refine lv_iload_n hx hb dX8_value_53 rfl (lv_at hl 4 rfl) ?_
            refine lv_bipush (v := 64) hx hb dX8_value_54 (by decide) ?_
            refine lv_icmp_lt (x := v3) (y := 64) (tgt := 61) hx hb dX8_value_56 (by decide) (fun c18 => ?_) (fun c18 => ?_)
            ·
              have h := ite_t c18 h
              refine lv_aload_n hx hb dX8_value_61 rfl (lv_at hl 1 rfl) ?_
              refine x_getr (Or.inl fl_X8_18) C hP (by decide) xs_3 rfl dX8_value_62 ?_
              refine lv_iload_n hx hb dX8_value_65 rfl (lv_at hl 4 rfl) ?_
              refine lv_iload hx hb dX8_value_66 (lv_at hl 0 rfl) ?_
              have J82 : ∀ (v3 : Int32) (v4 : Int32) (t0 : Int32) (t1 : Int32) (g : Nat → Nat → Int32) (L : Nat → Nat → Int64) (H : Heap) (locs : List Loc) (ls : Array Slot), fX8_value_3_48_p82 fu k24 v1 v3 v4 t0 t1 g L = some (res, s9) → va_P G.1 vwCl (zw G (XS b) 105 a g L) H → va_D A (zw G (XS b) 105 a g L) → va_S A s.heap H locs → lv_has ls 6 [(0, .ref (a 3)), (1, .int v1), (2, .ref (a 48)), (3, .int v3), (4, .int v4)] → W p l e { frames := 7, cells := 0, slots := 0, locals := 132 } s m [.ref (a 3), .int p1, .ref (a 48)].toArray below meth c H locs 0 0 (MQ below ((kQi G (S := Unit) (fun r' _ => r' = res) (fun _ => zw G (XS b) 105 a s9.1 s9.2)) A) [.ref (a 3), .int p1, .ref (a 48)].toArray s 0 0 A) (F0 m 82 ls [.int t0, .int t1, .ref (a 21)]) := by
                intro v3 v4 t0 t1 g L H locs ls h hP hD hS hl
                unfold fX8_value_3_48_p82 at h
                refine y_ast C hP hD hS (by decide) xs_21 dX8_value_82 h (fun g19 H locs h hP hD hS => ?_)
                refine lv_iinc (v := (v3 + 1)) (lv' := [(3, .int (v3 + 1)), (0, .ref (a 3)), (1, .int v1), (2, .ref (a 48)), (4, .int v4)]) hx hb dX8_value_83 hl (k := 3) rfl rfl (by decide) rfl (fun ls hl => ?_)
                refine lv_goto (tgt := 167) hx hb dX8_value_86 (by decide) ?_
                exact J167 (v3 + 1) v4 g19 L H locs ls h hP hD hS (lv_sub hl [1, 2, 3, 0, 4] rfl)
              refine lv_if_lt (x := x6) (tgt := 76) hx hb dX8_value_68 (by decide) (fun c20 => ?_) (fun c20 => ?_)
              ·
                have h := ite_t c20 h
                refine lv_aload_n hx hb dX8_value_76 rfl (lv_at hl 3 rfl) ?_
                refine lv_iconst (v := -1) hx hb dX8_value_77 (by decide) ?_
                refine lv_iload hx hb dX8_value_78 (lv_at hl 0 rfl) ?_
                refine lv_isub hx hb dX8_value_80 ?_
                refine y_ald C hP (by decide) xs_48 dX8_value_81 h (fun h => ?_)
                exact J82 v3 v4 (g 48 (Int32.toNatClampNeg ((-1) - x6))) v3 g L H locs ls h hP hD hS (lv_sub hl [1, 2, 3, 4, 5] rfl)
              ·
                have h := ite_e c20 h
                refine lv_iload hx hb dX8_value_71 (lv_at hl 0 rfl) ?_
                refine lv_goto (tgt := 82) hx hb dX8_value_73 (by decide) ?_
                exact J82 v3 v4 x6 v3 g L H locs ls h hP hD hS (lv_sub hl [1, 2, 3, 4, 5] rfl)
            ·
              have h := ite_e c18 h
              refine lv_iconst (v := 0) hx hb dX8_value_59 (by decide) ?_
              exact y_iret C hr hlk hP hD hS h (Nat.le_of_ble_eq_true rfl) (Nat.le_of_ble_eq_true rfl) dX8_value_60
      exact lp24 p1 fu (0, x3, g, L) h H locs ls hP hD hS (lv_sub hl [2, 3, 4, 1, 0] rfl)
    ·
      have h := ite_e c2 h
      exact J12 g L H locs ls h hP hD hS (lv_sub hl [] rfl)
def fX1_overrun_8_les_p151 (fu : Nat) (v3 : Int32) (v4 : Int32) (g : Nat → Nat → Int32) (L : Nat → Nat → Int64) : Option ((Int32) × zS) :=
  some ((if 0 < (if v4 < v3 then v4 else v3) then (if v4 < v3 then v4 else v3) else 0), (g, L))
def fX1_overrun_8_les_p29 (fu : Nat) (v1 : Int32) (q2_ : Nat) (t0 : Int32) (g : Nat → Nat → Int32) (L : Nat → Nat → Int64) : Option ((Int32) × zS) :=
  ck v1 12 (
  lti (g 25 (Int32.toNatClampNeg v1)) (fun x2 =>
  if (g 6 11) = (-1) then fX1_overrun_8_les_p151 fu t0 x2 g L
  else ck v1 12 (
  ck 0 6 (sti g 48 (Int32.toNatClampNeg 0) (g 25 (Int32.toNatClampNeg v1)) (fun g4 =>
  ck v1 12 (
  ck 1 6 (sti g4 48 (Int32.toNatClampNeg 1) ((g4 43 (Int32.toNatClampNeg v1)) - (g4 q2_ 3)) (fun g5 =>
  ck v1 12 (
  ck 2 6 (sti g5 48 (Int32.toNatClampNeg 2) (g5 43 (Int32.toNatClampNeg v1)) (fun g6 =>
  ck v1 12 (
  ck 3 6 (sti g6 48 (Int32.toNatClampNeg 3) (g6 27 (Int32.toNatClampNeg v1)) (fun g7 =>
  ck 4 6 (sti g7 48 (Int32.toNatClampNeg 4) (g7 q2_ 8) (fun g8 =>
  ck 5 6 (sti g8 48 (Int32.toNatClampNeg 5) v1 (fun g9 =>
  cb (fX8_value_3_48 fu (g9 6 11) g9 L) (fun x10 g11 L12 =>
  fX1_overrun_8_les_p151 fu t0 x10 g11 L12)))))))))))))))))))
def fX1_overrun_8_les (fu : Nat) (p1 : Int32) (q1_ : Nat) (g : Nat → Nat → Int32) (L : Nat → Nat → Int64) : Option ((Int32) × zS) :=
  if ((((g 8 8) : Int32) >>> ((p1 : Int32) &&& 31) : Int32) &&& 1) = 0 then some (0, (g, L))
  else if p1 = (g 8 9) then fX1_overrun_8_les_p29 fu p1 q1_ 180 g L
  else fX1_overrun_8_les_p29 fu p1 q1_ 60 g L
set_option maxHeartbeats 4000000 in
set_option maxRecDepth 100000 in
theorem rX1_overrun_8_les (l : Launch) (G : kG) (sz : Nat) (b : Nat) (a : Nat → Nat) (fu : Nat) (g : Nat → Nat → Int32) (L : Nat → Nat → Int64) (p1 : Int32) (q1_ : Nat) (q1_l : 57 ≤ q1_) (q1_h : q1_ < 81) (res : Int32) (s9 : zS) (h : fX1_overrun_8_les fu p1 q1_ g L = some (res, s9)) : kM l yX1_overrun cX1_overrun 5 (some .int) { frames := 8, cells := 0, slots := 0, locals := 157 } G [.ref (a 8), .int p1, .ref (a q1_)] (zw G (XS b) 105 a g L) sz (kQi G (S := Unit) (fun r' _ => r' = res) (fun _ => zw G (XS b) 105 a s9.1 s9.2)) := by
  refine kM.of (by decide) (Nat.le_of_ble_eq_true rfl) ?_
  intro p e s m below meth c A ls H C hr hlk hnm hP hD hS hl
  have C : kC G p s m c cX1_overrun 5 RX1 A := C
  have hx := C.1
  have hb := C.2.1
  have hl : lv_has ls 5 [(0, .ref (a 8)), (1, .int p1), (2, .ref (a q1_))] := hl
  obtain ⟨locs, hlocs⟩ : ∃ q : List Loc, q = [] := ⟨_, rfl⟩
  rw [← hlocs] at hS
  rw [← hlocs]
  unfold fX1_overrun_8_les at h
  refine lv_aload_n hx hb dX1_overrun_0 rfl (lv_at hl 0 rfl) ?_
  refine x_getv (v := .int (g 8 8)) (Or.inl fl_X1_30) C hP (by decide) xs_8 rfl dX1_overrun_1 ?_
  refine lv_iload_n hx hb dX1_overrun_4 rfl (lv_at hl 1 rfl) ?_
  refine lv_ishr hx hb dX1_overrun_5 ?_
  refine lv_iconst (v := 1) hx hb dX1_overrun_6 (by decide) ?_
  refine lv_iand hx hb dX1_overrun_7 ?_
  refine lv_if_ne (x := ((((g 8 8) : Int32) >>> ((p1 : Int32) &&& 31) : Int32) &&& 1)) (tgt := 13) hx hb dX1_overrun_8 (by decide) (fun c1 => ?_) (fun c1 => ?_)
  ·
    have h := ite_e c1 h
    refine lv_iload_n hx hb dX1_overrun_13 rfl (lv_at hl 1 rfl) ?_
    refine lv_aload_n hx hb dX1_overrun_14 rfl (lv_at hl 0 rfl) ?_
    refine x_getv (v := .int (g 8 9)) (Or.inl fl_X1_34) C hP (by decide) xs_8 rfl dX1_overrun_15 ?_
    have J29 : ∀ (v1 : Int32) (q2_ : Nat) (t0 : Int32) (g : Nat → Nat → Int32) (L : Nat → Nat → Int64) (H : Heap) (locs : List Loc) (ls : Array Slot), 57 ≤ q2_ → q2_ < 81 → fX1_overrun_8_les_p29 fu v1 q2_ t0 g L = some (res, s9) → va_P G.1 vwCl (zw G (XS b) 105 a g L) H → va_D A (zw G (XS b) 105 a g L) → va_S A s.heap H locs → lv_has ls 5 [(0, .ref (a 8)), (1, .int v1), (2, .ref (a q2_))] → W p l e { frames := 8, cells := 0, slots := 0, locals := 157 } s m [.ref (a 8), .int p1, .ref (a q1_)].toArray below meth c H locs 0 0 (MQ below ((kQi G (S := Unit) (fun r' _ => r' = res) (fun _ => zw G (XS b) 105 a s9.1 s9.2)) A) [.ref (a 8), .int p1, .ref (a q1_)].toArray s 0 0 A) (F0 m 29 ls [.int t0]) := by
      intro v1 q2_ t0 g L H locs ls q2_l q2_h h hP hD hS hl
      unfold fX1_overrun_8_les_p29 at h
      refine lv_istore_n (lv' := [(3, .int t0), (0, .ref (a 8)), (1, .int v1), (2, .ref (a q2_))]) hx hb dX1_overrun_29 rfl hl (by decide) rfl (fun ls hl => ?_)
      refine lv_aload_n hx hb dX1_overrun_30 rfl (lv_at hl 1 rfl) ?_
      refine x_getr (Or.inl fl_X1_41) C hP (by decide) xs_8 rfl dX1_overrun_31 ?_
      refine x_getr (Or.inr fl_X1_137) C hP (by decide) xs_6 rfl dX1_overrun_34 ?_
      refine lv_iload_n hx hb dX1_overrun_37 rfl (lv_at hl 2 rfl) ?_
      refine y_ald C hP (by decide) xs_25 dX1_overrun_38 h (fun h => ?_)
      refine y_let h (fun x2 h => ?_)
      refine lv_istore (lv' := [(4, .int x2), (3, .int t0), (0, .ref (a 8)), (1, .int v1), (2, .ref (a q2_))]) hx hb dX1_overrun_39 hl (by decide) rfl (fun ls hl => ?_)
      refine lv_aload_n hx hb dX1_overrun_41 rfl (lv_at hl 2 rfl) ?_
      refine x_getr (Or.inl fl_X1_41) C hP (by decide) xs_8 rfl dX1_overrun_42 ?_
      refine x_getv (v := .int (g 6 11)) (Or.inr fl_X1_140) C hP (by decide) xs_6 rfl dX1_overrun_45 ?_
      refine lv_iconst (v := -1) hx hb dX1_overrun_48 (by decide) ?_
      have J151 : ∀ (v3 : Int32) (v4 : Int32) (g : Nat → Nat → Int32) (L : Nat → Nat → Int64) (H : Heap) (locs : List Loc) (ls : Array Slot), fX1_overrun_8_les_p151 fu v3 v4 g L = some (res, s9) → va_P G.1 vwCl (zw G (XS b) 105 a g L) H → va_D A (zw G (XS b) 105 a g L) → va_S A s.heap H locs → lv_has ls 5 [(3, .int v3), (4, .int v4)] → W p l e { frames := 8, cells := 0, slots := 0, locals := 157 } s m [.ref (a 8), .int p1, .ref (a q1_)].toArray below meth c H locs 0 0 (MQ below ((kQi G (S := Unit) (fun r' _ => r' = res) (fun _ => zw G (XS b) 105 a s9.1 s9.2)) A) [.ref (a 8), .int p1, .ref (a q1_)].toArray s 0 0 A) (F0 m 151 ls []) := by
        intro v3 v4 g L H locs ls h hP hD hS hl
        unfold fX1_overrun_8_les_p151 at h
        refine lv_iconst (v := 0) hx hb dX1_overrun_151 (by decide) ?_
        refine lv_iload_n hx hb dX1_overrun_152 rfl (lv_at hl 0 rfl) ?_
        refine lv_iload hx hb dX1_overrun_153 (lv_at hl 1 rfl) ?_
        refine k_min lm_X1_153 C hl.1 (Nat.le_of_ble_eq_true rfl) (Nat.le_of_ble_eq_true rfl) (Nat.le_of_ble_eq_true rfl) (Nat.le_of_ble_eq_true rfl) dX1_overrun_155 ?_
        refine k_max lm_X1_78 C hl.1 (Nat.le_of_ble_eq_true rfl) (Nat.le_of_ble_eq_true rfl) (Nat.le_of_ble_eq_true rfl) (Nat.le_of_ble_eq_true rfl) dX1_overrun_158 ?_
        exact y_iret C hr hlk hP hD hS h (Nat.le_of_ble_eq_true rfl) (Nat.le_of_ble_eq_true rfl) dX1_overrun_161
      refine lv_icmp_eq (x := (g 6 11)) (y := (-1)) (tgt := 151) hx hb dX1_overrun_49 (by decide) (fun c3 => ?_) (fun c3 => ?_)
      ·
        have h := ite_t c3 h
        exact J151 t0 x2 g L H locs ls h hP hD hS (lv_sub hl [1, 0] rfl)
      ·
        have h := ite_e c3 h
        refine lv_aload_n hx hb dX1_overrun_52 rfl (lv_at hl 2 rfl) ?_
        refine x_getr (Or.inl fl_X1_27) C hP (by decide) xs_8 rfl dX1_overrun_53 ?_
        refine lv_iconst (v := 0) hx hb dX1_overrun_56 (by decide) ?_
        refine lv_aload_n hx hb dX1_overrun_57 rfl (lv_at hl 2 rfl) ?_
        refine x_getr (Or.inl fl_X1_41) C hP (by decide) xs_8 rfl dX1_overrun_58 ?_
        refine x_getr (Or.inr fl_X1_137) C hP (by decide) xs_6 rfl dX1_overrun_61 ?_
        refine lv_iload_n hx hb dX1_overrun_64 rfl (lv_at hl 3 rfl) ?_
        refine y_ald C hP (by decide) xs_25 dX1_overrun_65 h (fun h => ?_)
        refine y_ast C hP hD hS (by decide) xs_48 dX1_overrun_66 h (fun g4 H locs h hP hD hS => ?_)
        refine lv_aload_n hx hb dX1_overrun_67 rfl (lv_at hl 2 rfl) ?_
        refine x_getr (Or.inl fl_X1_27) C hP (by decide) xs_8 rfl dX1_overrun_68 ?_
        refine lv_iconst (v := 1) hx hb dX1_overrun_71 (by decide) ?_
        refine lv_aload_n hx hb dX1_overrun_72 rfl (lv_at hl 2 rfl) ?_
        refine x_getr (Or.inl fl_X1_9) C hP (by decide) xs_8 rfl dX1_overrun_73 ?_
        refine lv_iload_n hx hb dX1_overrun_76 rfl (lv_at hl 3 rfl) ?_
        refine y_ald C hP (by decide) xs_43 dX1_overrun_77 h (fun h => ?_)
        refine lv_aload_n hx hb dX1_overrun_78 rfl (lv_at hl 4 rfl) ?_
        refine x_getv (v := .int (g4 q2_ 3)) (Or.inr fl_X1_84) C hP (by omega) (xs_les (by omega) (by omega)) rfl dX1_overrun_79 ?_
        refine lv_isub hx hb dX1_overrun_82 ?_
        refine y_ast C hP hD hS (by decide) xs_48 dX1_overrun_83 h (fun g5 H locs h hP hD hS => ?_)
        refine lv_aload_n hx hb dX1_overrun_84 rfl (lv_at hl 2 rfl) ?_
        refine x_getr (Or.inl fl_X1_27) C hP (by decide) xs_8 rfl dX1_overrun_85 ?_
        refine lv_iconst (v := 2) hx hb dX1_overrun_88 (by decide) ?_
        refine lv_aload_n hx hb dX1_overrun_89 rfl (lv_at hl 2 rfl) ?_
        refine x_getr (Or.inl fl_X1_9) C hP (by decide) xs_8 rfl dX1_overrun_90 ?_
        refine lv_iload_n hx hb dX1_overrun_93 rfl (lv_at hl 3 rfl) ?_
        refine y_ald C hP (by decide) xs_43 dX1_overrun_94 h (fun h => ?_)
        refine y_ast C hP hD hS (by decide) xs_48 dX1_overrun_95 h (fun g6 H locs h hP hD hS => ?_)
        refine lv_aload_n hx hb dX1_overrun_96 rfl (lv_at hl 2 rfl) ?_
        refine x_getr (Or.inl fl_X1_27) C hP (by decide) xs_8 rfl dX1_overrun_97 ?_
        refine lv_iconst (v := 3) hx hb dX1_overrun_100 (by decide) ?_
        refine lv_aload_n hx hb dX1_overrun_101 rfl (lv_at hl 2 rfl) ?_
        refine x_getr (Or.inl fl_X1_41) C hP (by decide) xs_8 rfl dX1_overrun_102 ?_
        refine x_getr (Or.inr fl_X1_120) C hP (by decide) xs_6 rfl dX1_overrun_105 ?_
        refine lv_iload_n hx hb dX1_overrun_108 rfl (lv_at hl 3 rfl) ?_
        refine y_ald C hP (by decide) xs_27 dX1_overrun_109 h (fun h => ?_)
        refine y_ast C hP hD hS (by decide) xs_48 dX1_overrun_110 h (fun g7 H locs h hP hD hS => ?_)
        refine lv_aload_n hx hb dX1_overrun_111 rfl (lv_at hl 2 rfl) ?_
        refine x_getr (Or.inl fl_X1_27) C hP (by decide) xs_8 rfl dX1_overrun_112 ?_
        refine lv_iconst (v := 4) hx hb dX1_overrun_115 (by decide) ?_
        refine lv_aload_n hx hb dX1_overrun_116 rfl (lv_at hl 4 rfl) ?_
        refine x_getv (v := .int (g7 q2_ 8)) (Or.inr fl_X1_134) C hP (by omega) (xs_les (by omega) (by omega)) rfl dX1_overrun_117 ?_
        refine y_ast C hP hD hS (by decide) xs_48 dX1_overrun_120 h (fun g8 H locs h hP hD hS => ?_)
        refine lv_aload_n hx hb dX1_overrun_121 rfl (lv_at hl 2 rfl) ?_
        refine x_getr (Or.inl fl_X1_27) C hP (by decide) xs_8 rfl dX1_overrun_122 ?_
        refine lv_iconst (v := 5) hx hb dX1_overrun_125 (by decide) ?_
        refine lv_iload_n hx hb dX1_overrun_126 rfl (lv_at hl 3 rfl) ?_
        refine y_ast C hP hD hS (by decide) xs_48 dX1_overrun_127 h (fun g9 H locs h hP hD hS => ?_)
        refine lv_aload_n hx hb dX1_overrun_128 rfl (lv_at hl 2 rfl) ?_
        refine x_getr (Or.inl fl_X1_37) C hP (by decide) xs_8 rfl dX1_overrun_129 ?_
        refine x_getr (Or.inr fl_X1_143) C hP (by decide) xs_1 rfl dX1_overrun_132 ?_
        refine lv_aload_n hx hb dX1_overrun_135 rfl (lv_at hl 2 rfl) ?_
        refine x_getr (Or.inl fl_X1_41) C hP (by decide) xs_8 rfl dX1_overrun_136 ?_
        refine x_getv (v := .int (g9 6 11)) (Or.inr fl_X1_140) C hP (by decide) xs_6 rfl dX1_overrun_139 ?_
        refine lv_aload_n hx hb dX1_overrun_142 rfl (lv_at hl 2 rfl) ?_
        refine x_getr (Or.inl fl_X1_27) C hP (by decide) xs_8 rfl dX1_overrun_143 ?_
        obtain ⟨z_, g11, L12, hf13, h⟩ := cb_some h
        refine x_callNi (rest := []) li_X1_147 C (rX8_value_3_48 l G H.size b a fu g9 L (g9 6 11) z_ (g11, L12) hf13) (kR rfl) hP hD hS 3 8 rfl (zat (by decide) xs_3) rfl hl.1 rfl (Nat.le_of_ble_eq_true rfl) dX1_overrun_146 (fun x10 u_ H locs e_ hP hD hS => ?_)
        have e_ : x10 = z_ := e_
        subst e_
        have hP : va_P G.1 vwCl (zw G (XS b) 105 a g11 L12) H := hP
        have hD : va_D A (zw G (XS b) 105 a g11 L12) := hD
        refine lv_istore (lv' := [(4, .int x10), (3, .int t0), (0, .ref (a 8)), (1, .int v1), (2, .ref (a q2_))]) hx hb dX1_overrun_149 hl (by decide) rfl (fun ls hl => ?_)
        exact J151 t0 x10 g11 L12 H locs ls h hP hD hS (lv_sub hl [1, 0] rfl)
    refine lv_icmp_ne (x := p1) (y := (g 8 9)) (tgt := 27) hx hb dX1_overrun_18 (by decide) (fun c14 => ?_) (fun c14 => ?_)
    ·
      have h := ite_e c14 h
      refine lv_bipush (v := 60) hx hb dX1_overrun_27 (by decide) ?_
      exact J29 p1 q1_ 60 g L H locs ls (by omega) (by omega) h hP hD hS (lv_sub hl [0, 1, 2] rfl)
    ·
      have h := ite_t c14 h
      refine lv_sipush (v := 180) hx hb dX1_overrun_21 (by decide) ?_
      refine lv_goto (tgt := 29) hx hb dX1_overrun_24 (by decide) ?_
      exact J29 p1 q1_ 180 g L H locs ls (by omega) (by omega) h hP hD hS (lv_sub hl [0, 1, 2] rfl)
  ·
    have h := ite_t c1 h
    refine lv_iconst (v := 0) hx hb dX1_overrun_11 (by decide) ?_
    exact y_iret C hr hlk hP hD hS h (Nat.le_of_ble_eq_true rfl) (Nat.le_of_ble_eq_true rfl) dX1_overrun_12
def fX1_runOne_8 (fu : Nat) (p1 : Int32) (g : Nat → Nat → Int32) (L : Nat → Nat → Int64) : Option ((Unit) × zS) :=
  ck p1 12 (ltn (57 + (Int32.toNatClampNeg p1) % 12) (fun q1 =>
  cb (fX1_begin_8_les fu p1 q1 g L) (fun x2 g3 L4 =>
  cb (fX1_overrun_8_les fu p1 q1 g3 L4) (fun x6 g7 L8 =>
  ck p1 12 (sti g7 45 (Int32.toNatClampNeg p1) x6 (fun g10 =>
  ck p1 12 (
  ck p1 12 (
  ck p1 12 (sti g10 44 (Int32.toNatClampNeg p1) ((if (g10 q1 4) < ((g10 43 (Int32.toNatClampNeg p1)) + (g10 q1 5)) then ((g10 43 (Int32.toNatClampNeg p1)) + (g10 q1 5)) else (g10 q1 4)) + (g10 45 (Int32.toNatClampNeg p1))) (fun g11 =>
  some ((), (g11, L8))))))))))))
set_option maxHeartbeats 4000000 in
set_option maxRecDepth 100000 in
theorem rX1_runOne_8 (l : Launch) (G : kG) (sz : Nat) (b : Nat) (a : Nat → Nat) (fu : Nat) (g : Nat → Nat → Int32) (L : Nat → Nat → Int64) (p1 : Int32) (res : Unit) (s9 : zS) (h : fX1_runOne_8 fu p1 g L = some (res, s9)) : kM l yX1_runOne cX1_runOne 3 none { frames := 9, cells := 0, slots := 0, locals := 181 } G [.ref (a 8), .int p1] (zw G (XS b) 105 a g L) sz (kQv G (S := Unit) (fun _ => True) (fun _ => zw G (XS b) 105 a s9.1 s9.2)) := by
  refine kM.of (by decide) (Nat.le_of_ble_eq_true rfl) ?_
  intro p e s m below meth c A ls H C hr hlk hnm hP hD hS hl
  have C : kC G p s m c cX1_runOne 3 RX1 A := C
  have hx := C.1
  have hb := C.2.1
  have hl : lv_has ls 3 [(0, .ref (a 8)), (1, .int p1)] := hl
  obtain ⟨locs, hlocs⟩ : ∃ q : List Loc, q = [] := ⟨_, rfl⟩
  rw [← hlocs] at hS
  rw [← hlocs]
  unfold fX1_runOne_8 at h
  refine lv_aload_n hx hb dX1_runOne_0 rfl (lv_at hl 0 rfl) ?_
  refine x_getr (Or.inl fl_X1_37) C hP (by decide) xs_8 rfl dX1_runOne_1 ?_
  refine x_getr (Or.inr fl_X1_58) C hP (by decide) xs_1 rfl dX1_runOne_4 ?_
  refine lv_iload_n hx hb dX1_runOne_7 rfl (lv_at hl 1 rfl) ?_
  refine y_aald (t := 57) C hP (by decide) xs_17 dX1_runOne_8 h (fun q1 q1l q1h h => ?_)
  refine lv_astore_n (lv' := [(2, .ref (a q1)), (0, .ref (a 8)), (1, .int p1)]) hx hb dX1_runOne_9 rfl hl (by decide) rfl (fun ls hl => ?_)
  refine lv_aload_n hx hb dX1_runOne_10 rfl (lv_at hl 1 rfl) ?_
  refine lv_iload_n hx hb dX1_runOne_11 rfl (lv_at hl 2 rfl) ?_
  refine lv_aload_n hx hb dX1_runOne_12 rfl (lv_at hl 0 rfl) ?_
  obtain ⟨z_, g3, L4, hf5, h⟩ := cb_some h
  refine x_callVv (rest := []) li_X1_62 C (rX1_begin_8_les l G H.size b a fu g L p1 q1 (by omega) (by omega) z_ (g3, L4) hf5) (kR rfl) hP hD hS 8 1 rfl (zat (by decide) xs_8) rfl hl.1 rfl (Nat.le_of_ble_eq_true rfl) dX1_runOne_13 (fun u_ H locs e_ hP hD hS => ?_)
  have hP : va_P G.1 vwCl (zw G (XS b) 105 a g3 L4) H := hP
  have hD : va_D A (zw G (XS b) 105 a g3 L4) := hD
  refine lv_aload_n hx hb dX1_runOne_16 rfl (lv_at hl 1 rfl) ?_
  refine x_getr (Or.inl fl_X1_18) C hP (by decide) xs_8 rfl dX1_runOne_17 ?_
  refine lv_iload_n hx hb dX1_runOne_20 rfl (lv_at hl 2 rfl) ?_
  refine lv_aload_n hx hb dX1_runOne_21 rfl (lv_at hl 1 rfl) ?_
  refine lv_iload_n hx hb dX1_runOne_22 rfl (lv_at hl 2 rfl) ?_
  refine lv_aload_n hx hb dX1_runOne_23 rfl (lv_at hl 0 rfl) ?_
  obtain ⟨z_, g7, L8, hf9, h⟩ := cb_some h
  refine x_callVi (rest := [.int p1, .ref (a 45)]) li_X1_66 C (rX1_overrun_8_les l G H.size b a fu g3 L4 p1 q1 (by omega) (by omega) z_ (g7, L8) hf9) (kR rfl) hP hD hS 8 1 rfl (zat (by decide) xs_8) rfl hl.1 rfl (Nat.le_of_ble_eq_true rfl) dX1_runOne_24 (fun x6 u_ H locs e_ hP hD hS => ?_)
  have e_ : x6 = z_ := e_
  subst e_
  have hP : va_P G.1 vwCl (zw G (XS b) 105 a g7 L8) H := hP
  have hD : va_D A (zw G (XS b) 105 a g7 L8) := hD
  refine y_ast C hP hD hS (by decide) xs_45 dX1_runOne_27 h (fun g10 H locs h hP hD hS => ?_)
  refine lv_aload_n hx hb dX1_runOne_28 rfl (lv_at hl 1 rfl) ?_
  refine x_getr (Or.inl fl_X1_15) C hP (by decide) xs_8 rfl dX1_runOne_29 ?_
  refine lv_iload_n hx hb dX1_runOne_32 rfl (lv_at hl 2 rfl) ?_
  refine lv_aload_n hx hb dX1_runOne_33 rfl (lv_at hl 0 rfl) ?_
  refine x_getv (v := .int (g10 q1 4)) (Or.inr fl_X1_70) C hP (by omega) (xs_les (by omega) (by omega)) rfl dX1_runOne_34 ?_
  refine lv_aload_n hx hb dX1_runOne_37 rfl (lv_at hl 1 rfl) ?_
  refine x_getr (Or.inl fl_X1_9) C hP (by decide) xs_8 rfl dX1_runOne_38 ?_
  refine lv_iload_n hx hb dX1_runOne_41 rfl (lv_at hl 2 rfl) ?_
  refine y_ald C hP (by decide) xs_43 dX1_runOne_42 h (fun h => ?_)
  refine lv_aload_n hx hb dX1_runOne_43 rfl (lv_at hl 0 rfl) ?_
  refine x_getv (v := .int (g10 q1 5)) (Or.inr fl_X1_75) C hP (by omega) (xs_les (by omega) (by omega)) rfl dX1_runOne_44 ?_
  refine lv_iadd hx hb dX1_runOne_47 ?_
  refine k_max lm_X1_78 C hl.1 (Nat.le_of_ble_eq_true rfl) (Nat.le_of_ble_eq_true rfl) (Nat.le_of_ble_eq_true rfl) (Nat.le_of_ble_eq_true rfl) dX1_runOne_48 ?_
  refine lv_aload_n hx hb dX1_runOne_51 rfl (lv_at hl 1 rfl) ?_
  refine x_getr (Or.inl fl_X1_18) C hP (by decide) xs_8 rfl dX1_runOne_52 ?_
  refine lv_iload_n hx hb dX1_runOne_55 rfl (lv_at hl 2 rfl) ?_
  refine y_ald C hP (by decide) xs_45 dX1_runOne_56 h (fun h => ?_)
  refine lv_iadd hx hb dX1_runOne_57 ?_
  refine y_ast C hP hD hS (by decide) xs_44 dX1_runOne_58 h (fun g11 H locs h hP hD hS => ?_)
  exact y_vret C hr hlk hP hD hS h (Nat.le_of_ble_eq_true rfl) (Nat.le_of_ble_eq_true rfl) dX1_runOne_59
def fX1_runFrom_8_s2 (fu : Nat) (k2 : Int32 × (Nat → Nat → Int32) × (Nat → Nat → Int64) → Option ((Unit) × zS)) (v2 : Int32) (g : Nat → Nat → Int32) (L : Nat → Nat → Int64) : Option ((Unit) × zS) :=
  if (g 1 2) ≤ v2 then some ((), (g, L))
  else cb (fX1_runOne_8 fu v2 g L) (fun x2 g3 L4 =>
  k2 ((v2 + 1), g3, L4))
def fX1_runFrom_8_l2 (fu : Nat) (v2 : Int32) (g : Nat → Nat → Int32) (L : Nat → Nat → Int64) : Option ((Unit) × zS) :=
  whileK (fun k v => fX1_runFrom_8_s2 fu k v.1 v.2.1 v.2.2) fu (v2, g, L)
def fX1_runFrom_8 (fu : Nat) (p1 : Int32) (g : Nat → Nat → Int32) (L : Nat → Nat → Int64) : Option ((Unit) × zS) :=
  fX1_runFrom_8_l2 fu p1 g L
set_option maxHeartbeats 4000000 in
set_option maxRecDepth 100000 in
theorem rX1_runFrom_8 (l : Launch) (G : kG) (sz : Nat) (b : Nat) (a : Nat → Nat) (fu : Nat) (g : Nat → Nat → Int32) (L : Nat → Nat → Int64) (p1 : Int32) (res : Unit) (s9 : zS) (h : fX1_runFrom_8 fu p1 g L = some (res, s9)) : kM l yX1_runFrom cX1_runFrom 3 none { frames := 10, cells := 0, slots := 0, locals := 203 } G [.ref (a 8), .int p1] (zw G (XS b) 105 a g L) sz (kQv G (S := Unit) (fun _ => True) (fun _ => zw G (XS b) 105 a s9.1 s9.2)) := by
  refine kM.of (by decide) (Nat.le_of_ble_eq_true rfl) ?_
  intro p e s m below meth c A ls H C hr hlk hnm hP hD hS hl
  have C : kC G p s m c cX1_runFrom 3 RX1 A := C
  have hx := C.1
  have hb := C.2.1
  have hl : lv_has ls 3 [(0, .ref (a 8)), (1, .int p1)] := hl
  obtain ⟨locs, hlocs⟩ : ∃ q : List Loc, q = [] := ⟨_, rfl⟩
  rw [← hlocs] at hS
  rw [← hlocs]
  unfold fX1_runFrom_8 at h
  refine lv_iload_n hx hb dX1_runFrom_0 rfl (lv_at hl 1 rfl) ?_
  refine lv_istore_n (lv' := [(2, .int p1), (0, .ref (a 8)), (1, .int p1)]) hx hb dX1_runFrom_1 rfl hl (by decide) rfl (fun ls hl => ?_)
  have lp2 : ∀ (_ : True), ∀ (n : Nat) (v : Int32 × (Nat → Nat → Int32) × (Nat → Nat → Int64)), whileK (fun k v => fX1_runFrom_8_s2 fu k v.1 v.2.1 v.2.2) n v = some (res, s9) → ∀ (H : Heap) (locs : List Loc) (ls : Array Slot), va_P G.1 vwCl (zw G (XS b) 105 a (v.2.1) (v.2.2)) H → va_D A (zw G (XS b) 105 a (v.2.1) (v.2.2)) → va_S A s.heap H locs → lv_has ls 3 [(0, .ref (a 8)), (2, .int (v.1))] → W p l e { frames := 10, cells := 0, slots := 0, locals := 203 } s m [.ref (a 8), .int p1].toArray below meth c H locs 0 0 (MQ below ((kQv G (S := Unit) (fun _ => True) (fun _ => zw G (XS b) 105 a s9.1 s9.2)) A) [.ref (a 8), .int p1].toArray s 0 0 A) (F0 m 2 ls []) := by
    intro _
    refine while_ind (fun k2 ih2 v h => ?_)
    obtain ⟨v2, g, L⟩ := v
    intro H locs ls hP hD hS hl
    have h : fX1_runFrom_8_s2 fu k2 v2 g L = some (res, s9) := h
    have hP : va_P G.1 vwCl (zw G (XS b) 105 a g L) H := hP
    have hD : va_D A (zw G (XS b) 105 a g L) := hD
    have hl : lv_has ls 3 [(0, .ref (a 8)), (2, .int v2)] := hl
    show W p l e { frames := 10, cells := 0, slots := 0, locals := 203 } s m [.ref (a 8), .int p1].toArray below meth c H locs 0 0 (MQ below ((kQv G (S := Unit) (fun _ => True) (fun _ => zw G (XS b) 105 a s9.1 s9.2)) A) [.ref (a 8), .int p1].toArray s 0 0 A) (F0 m 2 ls [])
    unfold fX1_runFrom_8_s2 at h
    refine lv_iload_n hx hb dX1_runFrom_2 rfl (lv_at hl 1 rfl) ?_
    refine lv_aload_n hx hb dX1_runFrom_3 rfl (lv_at hl 0 rfl) ?_
    refine x_getr (Or.inl fl_X1_37) C hP (by decide) xs_8 rfl dX1_runFrom_4 ?_
    refine x_getv (v := .int (g 1 2)) (Or.inr fl_X1_45) C hP (by decide) xs_1 rfl dX1_runFrom_7 ?_
    refine lv_icmp_ge (x := v2) (y := (g 1 2)) (tgt := 24) hx hb dX1_runFrom_10 (by decide) (fun c1 => ?_) (fun c1 => ?_)
    ·
      have h := ite_t c1 h
      exact y_vret C hr hlk hP hD hS h (Nat.le_of_ble_eq_true rfl) (Nat.le_of_ble_eq_true rfl) dX1_runFrom_24
    ·
      have h := ite_e c1 h
      refine lv_aload_n hx hb dX1_runFrom_13 rfl (lv_at hl 0 rfl) ?_
      refine lv_iload_n hx hb dX1_runFrom_14 rfl (lv_at hl 1 rfl) ?_
      obtain ⟨z_, g3, L4, hf5, h⟩ := cb_some h
      refine x_callVv (rest := []) li_X1_50 C (rX1_runOne_8 l G H.size b a fu g L v2 z_ (g3, L4) hf5) (kR rfl) hP hD hS 8 1 rfl (zat (by decide) xs_8) rfl hl.1 rfl (Nat.le_of_ble_eq_true rfl) dX1_runFrom_15 (fun u_ H locs e_ hP hD hS => ?_)
      have hP : va_P G.1 vwCl (zw G (XS b) 105 a g3 L4) H := hP
      have hD : va_D A (zw G (XS b) 105 a g3 L4) := hD
      refine lv_iinc (v := (v2 + 1)) (lv' := [(2, .int (v2 + 1)), (0, .ref (a 8))]) hx hb dX1_runFrom_18 hl (k := 1) rfl rfl (by decide) rfl (fun ls hl => ?_)
      refine lv_goto (tgt := 2) hx hb dX1_runFrom_21 (by decide) ?_
      exact ih2 ((v2 + 1), g3, L4) h H locs ls hP hD hS (lv_sub hl [1, 0] rfl)
  exact lp2 trivial fu (p1, g, L) h H locs ls hP hD hS (lv_sub hl [1, 0] rfl)
def fX1_lostFrom_8_s2 (fu : Nat) (k2 : Int32 × (Nat → Nat → Int32) × (Nat → Nat → Int64) → Option ((Int32) × zS)) (v2 : Int32) (g : Nat → Nat → Int32) (L : Nat → Nat → Int64) : Option ((Int32) × zS) :=
  if (g 1 2) ≤ v2 then cb (fX1_lost_8 fu g L) (fun x2 g3 L4 =>
  some (x2, (g3, L4)))
  else cb (fX1_runOne_8 fu v2 g L) (fun x6 g7 L8 =>
  k2 ((v2 + 1), g7, L8))
def fX1_lostFrom_8_l2 (fu : Nat) (v2 : Int32) (g : Nat → Nat → Int32) (L : Nat → Nat → Int64) : Option ((Int32) × zS) :=
  whileK (fun k v => fX1_lostFrom_8_s2 fu k v.1 v.2.1 v.2.2) fu (v2, g, L)
def fX1_lostFrom_8 (fu : Nat) (p1 : Int32) (g : Nat → Nat → Int32) (L : Nat → Nat → Int64) : Option ((Int32) × zS) :=
  fX1_lostFrom_8_l2 fu p1 g L
set_option maxHeartbeats 4000000 in
set_option maxRecDepth 100000 in
theorem rX1_lostFrom_8 (l : Launch) (G : kG) (sz : Nat) (b : Nat) (a : Nat → Nat) (fu : Nat) (g : Nat → Nat → Int32) (L : Nat → Nat → Int64) (p1 : Int32) (res : Int32) (s9 : zS) (h : fX1_lostFrom_8 fu p1 g L = some (res, s9)) : kM l yX1_lostFrom cX1_lostFrom 3 (some .int) { frames := 10, cells := 0, slots := 0, locals := 203 } G [.ref (a 8), .int p1] (zw G (XS b) 105 a g L) sz (kQi G (S := Unit) (fun r' _ => r' = res) (fun _ => zw G (XS b) 105 a s9.1 s9.2)) := by
  refine kM.of (by decide) (Nat.le_of_ble_eq_true rfl) ?_
  intro p e s m below meth c A ls H C hr hlk hnm hP hD hS hl
  have C : kC G p s m c cX1_lostFrom 3 RX1 A := C
  have hx := C.1
  have hb := C.2.1
  have hl : lv_has ls 3 [(0, .ref (a 8)), (1, .int p1)] := hl
  obtain ⟨locs, hlocs⟩ : ∃ q : List Loc, q = [] := ⟨_, rfl⟩
  rw [← hlocs] at hS
  rw [← hlocs]
  unfold fX1_lostFrom_8 at h
  refine lv_iload_n hx hb dX1_lostFrom_0 rfl (lv_at hl 1 rfl) ?_
  refine lv_istore_n (lv' := [(2, .int p1), (0, .ref (a 8)), (1, .int p1)]) hx hb dX1_lostFrom_1 rfl hl (by decide) rfl (fun ls hl => ?_)
  have lp2 : ∀ (_ : True), ∀ (n : Nat) (v : Int32 × (Nat → Nat → Int32) × (Nat → Nat → Int64)), whileK (fun k v => fX1_lostFrom_8_s2 fu k v.1 v.2.1 v.2.2) n v = some (res, s9) → ∀ (H : Heap) (locs : List Loc) (ls : Array Slot), va_P G.1 vwCl (zw G (XS b) 105 a (v.2.1) (v.2.2)) H → va_D A (zw G (XS b) 105 a (v.2.1) (v.2.2)) → va_S A s.heap H locs → lv_has ls 3 [(0, .ref (a 8)), (2, .int (v.1))] → W p l e { frames := 10, cells := 0, slots := 0, locals := 203 } s m [.ref (a 8), .int p1].toArray below meth c H locs 0 0 (MQ below ((kQi G (S := Unit) (fun r' _ => r' = res) (fun _ => zw G (XS b) 105 a s9.1 s9.2)) A) [.ref (a 8), .int p1].toArray s 0 0 A) (F0 m 2 ls []) := by
    intro _
    refine while_ind (fun k2 ih2 v h => ?_)
    obtain ⟨v2, g, L⟩ := v
    intro H locs ls hP hD hS hl
    have h : fX1_lostFrom_8_s2 fu k2 v2 g L = some (res, s9) := h
    have hP : va_P G.1 vwCl (zw G (XS b) 105 a g L) H := hP
    have hD : va_D A (zw G (XS b) 105 a g L) := hD
    have hl : lv_has ls 3 [(0, .ref (a 8)), (2, .int v2)] := hl
    show W p l e { frames := 10, cells := 0, slots := 0, locals := 203 } s m [.ref (a 8), .int p1].toArray below meth c H locs 0 0 (MQ below ((kQi G (S := Unit) (fun r' _ => r' = res) (fun _ => zw G (XS b) 105 a s9.1 s9.2)) A) [.ref (a 8), .int p1].toArray s 0 0 A) (F0 m 2 ls [])
    unfold fX1_lostFrom_8_s2 at h
    refine lv_iload_n hx hb dX1_lostFrom_2 rfl (lv_at hl 1 rfl) ?_
    refine lv_aload_n hx hb dX1_lostFrom_3 rfl (lv_at hl 0 rfl) ?_
    refine x_getr (Or.inl fl_X1_37) C hP (by decide) xs_8 rfl dX1_lostFrom_4 ?_
    refine x_getv (v := .int (g 1 2)) (Or.inr fl_X1_45) C hP (by decide) xs_1 rfl dX1_lostFrom_7 ?_
    refine lv_icmp_ge (x := v2) (y := (g 1 2)) (tgt := 24) hx hb dX1_lostFrom_10 (by decide) (fun c1 => ?_) (fun c1 => ?_)
    ·
      have h := ite_t c1 h
      refine lv_aload_n hx hb dX1_lostFrom_24 rfl (lv_at hl 0 rfl) ?_
      obtain ⟨z_, g3, L4, hf5, h⟩ := cb_some h
      refine x_callVi (rest := []) li_X1_54 C (rX1_lost_8 l G H.size b a fu g L z_ (g3, L4) hf5) (kR rfl) hP hD hS 8 1 rfl (zat (by decide) xs_8) rfl hl.1 rfl (Nat.le_of_ble_eq_true rfl) dX1_lostFrom_25 (fun x2 u_ H locs e_ hP hD hS => ?_)
      have e_ : x2 = z_ := e_
      subst e_
      have hP : va_P G.1 vwCl (zw G (XS b) 105 a g3 L4) H := hP
      have hD : va_D A (zw G (XS b) 105 a g3 L4) := hD
      exact y_iret C hr hlk hP hD hS h (Nat.le_of_ble_eq_true rfl) (Nat.le_of_ble_eq_true rfl) dX1_lostFrom_28
    ·
      have h := ite_e c1 h
      refine lv_aload_n hx hb dX1_lostFrom_13 rfl (lv_at hl 0 rfl) ?_
      refine lv_iload_n hx hb dX1_lostFrom_14 rfl (lv_at hl 1 rfl) ?_
      obtain ⟨z_, g7, L8, hf9, h⟩ := cb_some h
      refine x_callVv (rest := []) li_X1_50 C (rX1_runOne_8 l G H.size b a fu g L v2 z_ (g7, L8) hf9) (kR rfl) hP hD hS 8 1 rfl (zat (by decide) xs_8) rfl hl.1 rfl (Nat.le_of_ble_eq_true rfl) dX1_lostFrom_15 (fun u_ H locs e_ hP hD hS => ?_)
      have hP : va_P G.1 vwCl (zw G (XS b) 105 a g7 L8) H := hP
      have hD : va_D A (zw G (XS b) 105 a g7 L8) := hD
      refine lv_iinc (v := (v2 + 1)) (lv' := [(2, .int (v2 + 1)), (0, .ref (a 8))]) hx hb dX1_lostFrom_18 hl (k := 1) rfl rfl (by decide) rfl (fun ls hl => ?_)
      refine lv_goto (tgt := 2) hx hb dX1_lostFrom_21 (by decide) ?_
      exact ih2 ((v2 + 1), g7, L8) h H locs ls hP hD hS (lv_sub hl [1, 0] rfl)
  exact lp2 trivial fu (p1, g, L) h H locs ls hP hD hS (lv_sub hl [1, 0] rfl)
def fX1_lateOnes_8_p29 (fu : Nat) (k4 : Int32 × Int32 × (Nat → Nat → Int32) × (Nat → Nat → Int64) → Option ((Int32) × zS)) (v2 : Int32) (t0 : Int32) (t1 : Int32) (g : Nat → Nat → Int32) (L : Nat → Nat → Int64) : Option ((Int32) × zS) :=
  lti (t1 + t0) (fun x6 =>
  k4 (x6, (v2 + 1), g, L))
def fX1_lateOnes_8_s4 (fu : Nat) (k4 : Int32 × Int32 × (Nat → Nat → Int32) × (Nat → Nat → Int64) → Option ((Int32) × zS)) (v1 : Int32) (v2 : Int32) (g : Nat → Nat → Int32) (L : Nat → Nat → Int64) : Option ((Int32) × zS) :=
  if (g 1 2) ≤ v2 then some (v1, (g, L))
  else cb (fX1_late_8 fu v2 g L) (fun x2 g3 L4 =>
  if x2 ≤ 0 then fX1_lateOnes_8_p29 fu k4 v2 0 v1 g3 L4
  else fX1_lateOnes_8_p29 fu k4 v2 1 v1 g3 L4)
def fX1_lateOnes_8_l4 (fu : Nat) (v1 : Int32) (v2 : Int32) (g : Nat → Nat → Int32) (L : Nat → Nat → Int64) : Option ((Int32) × zS) :=
  whileK (fun k v => fX1_lateOnes_8_s4 fu k v.1 v.2.1 v.2.2.1 v.2.2.2) fu (v1, v2, g, L)
def fX1_lateOnes_8 (fu : Nat) (g : Nat → Nat → Int32) (L : Nat → Nat → Int64) : Option ((Int32) × zS) :=
  fX1_lateOnes_8_l4 fu 0 0 g L
set_option maxHeartbeats 4000000 in
set_option maxRecDepth 100000 in
theorem rX1_lateOnes_8 (l : Launch) (G : kG) (sz : Nat) (b : Nat) (a : Nat → Nat) (fu : Nat) (g : Nat → Nat → Int32) (L : Nat → Nat → Int64) (res : Int32) (s9 : zS) (h : fX1_lateOnes_8 fu g L = some (res, s9)) : kM l yX1_lateOnes cX1_lateOnes 3 (some .int) { frames := 7, cells := 0, slots := 0, locals := 131 } G [.ref (a 8)] (zw G (XS b) 105 a g L) sz (kQi G (S := Unit) (fun r' _ => r' = res) (fun _ => zw G (XS b) 105 a s9.1 s9.2)) := by
  refine kM.of (by decide) (Nat.le_of_ble_eq_true rfl) ?_
  intro p e s m below meth c A ls H C hr hlk hnm hP hD hS hl
  have C : kC G p s m c cX1_lateOnes 3 RX1 A := C
  have hx := C.1
  have hb := C.2.1
  have hl : lv_has ls 3 [(0, .ref (a 8))] := hl
  obtain ⟨locs, hlocs⟩ : ∃ q : List Loc, q = [] := ⟨_, rfl⟩
  rw [← hlocs] at hS
  rw [← hlocs]
  unfold fX1_lateOnes_8 at h
  refine lv_iconst (v := 0) hx hb dX1_lateOnes_0 (by decide) ?_
  refine lv_istore_n (lv' := [(1, .int 0), (0, .ref (a 8))]) hx hb dX1_lateOnes_1 rfl hl (by decide) rfl (fun ls hl => ?_)
  refine lv_iconst (v := 0) hx hb dX1_lateOnes_2 (by decide) ?_
  refine lv_istore_n (lv' := [(2, .int 0), (1, .int 0), (0, .ref (a 8))]) hx hb dX1_lateOnes_3 rfl hl (by decide) rfl (fun ls hl => ?_)
  have lp4 : ∀ (_ : True), ∀ (n : Nat) (v : Int32 × Int32 × (Nat → Nat → Int32) × (Nat → Nat → Int64)), whileK (fun k v => fX1_lateOnes_8_s4 fu k v.1 v.2.1 v.2.2.1 v.2.2.2) n v = some (res, s9) → ∀ (H : Heap) (locs : List Loc) (ls : Array Slot), va_P G.1 vwCl (zw G (XS b) 105 a (v.2.2.1) (v.2.2.2)) H → va_D A (zw G (XS b) 105 a (v.2.2.1) (v.2.2.2)) → va_S A s.heap H locs → lv_has ls 3 [(0, .ref (a 8)), (1, .int (v.1)), (2, .int (v.2.1))] → W p l e { frames := 7, cells := 0, slots := 0, locals := 131 } s m [.ref (a 8)].toArray below meth c H locs 0 0 (MQ below ((kQi G (S := Unit) (fun r' _ => r' = res) (fun _ => zw G (XS b) 105 a s9.1 s9.2)) A) [.ref (a 8)].toArray s 0 0 A) (F0 m 4 ls []) := by
    intro _
    refine while_ind (fun k4 ih4 v h => ?_)
    obtain ⟨v1, v2, g, L⟩ := v
    intro H locs ls hP hD hS hl
    have h : fX1_lateOnes_8_s4 fu k4 v1 v2 g L = some (res, s9) := h
    have hP : va_P G.1 vwCl (zw G (XS b) 105 a g L) H := hP
    have hD : va_D A (zw G (XS b) 105 a g L) := hD
    have hl : lv_has ls 3 [(0, .ref (a 8)), (1, .int v1), (2, .int v2)] := hl
    show W p l e { frames := 7, cells := 0, slots := 0, locals := 131 } s m [.ref (a 8)].toArray below meth c H locs 0 0 (MQ below ((kQi G (S := Unit) (fun r' _ => r' = res) (fun _ => zw G (XS b) 105 a s9.1 s9.2)) A) [.ref (a 8)].toArray s 0 0 A) (F0 m 4 ls [])
    unfold fX1_lateOnes_8_s4 at h
    refine lv_iload_n hx hb dX1_lateOnes_4 rfl (lv_at hl 2 rfl) ?_
    refine lv_aload_n hx hb dX1_lateOnes_5 rfl (lv_at hl 0 rfl) ?_
    refine x_getr (Or.inl fl_X1_37) C hP (by decide) xs_8 rfl dX1_lateOnes_6 ?_
    refine x_getv (v := .int (g 1 2)) (Or.inr fl_X1_45) C hP (by decide) xs_1 rfl dX1_lateOnes_9 ?_
    refine lv_icmp_ge (x := v2) (y := (g 1 2)) (tgt := 37) hx hb dX1_lateOnes_12 (by decide) (fun c1 => ?_) (fun c1 => ?_)
    ·
      have h := ite_t c1 h
      refine lv_iload_n hx hb dX1_lateOnes_37 rfl (lv_at hl 1 rfl) ?_
      exact y_iret C hr hlk hP hD hS h (Nat.le_of_ble_eq_true rfl) (Nat.le_of_ble_eq_true rfl) dX1_lateOnes_38
    ·
      have h := ite_e c1 h
      refine lv_iload_n hx hb dX1_lateOnes_15 rfl (lv_at hl 1 rfl) ?_
      refine lv_aload_n hx hb dX1_lateOnes_16 rfl (lv_at hl 0 rfl) ?_
      refine lv_iload_n hx hb dX1_lateOnes_17 rfl (lv_at hl 2 rfl) ?_
      obtain ⟨z_, g3, L4, hf5, h⟩ := cb_some h
      refine x_callVi (rest := [.int v1]) li_X1_156 C (rX1_late_8 l G H.size b a fu g L v2 z_ (g3, L4) hf5) (kR rfl) hP hD hS 8 1 rfl (zat (by decide) xs_8) rfl hl.1 rfl (Nat.le_of_ble_eq_true rfl) dX1_lateOnes_18 (fun x2 u_ H locs e_ hP hD hS => ?_)
      have e_ : x2 = z_ := e_
      subst e_
      have hP : va_P G.1 vwCl (zw G (XS b) 105 a g3 L4) H := hP
      have hD : va_D A (zw G (XS b) 105 a g3 L4) := hD
      have J29 : ∀ (v2 : Int32) (t0 : Int32) (t1 : Int32) (g : Nat → Nat → Int32) (L : Nat → Nat → Int64) (H : Heap) (locs : List Loc) (ls : Array Slot), fX1_lateOnes_8_p29 fu k4 v2 t0 t1 g L = some (res, s9) → va_P G.1 vwCl (zw G (XS b) 105 a g L) H → va_D A (zw G (XS b) 105 a g L) → va_S A s.heap H locs → lv_has ls 3 [(0, .ref (a 8)), (2, .int v2)] → W p l e { frames := 7, cells := 0, slots := 0, locals := 131 } s m [.ref (a 8)].toArray below meth c H locs 0 0 (MQ below ((kQi G (S := Unit) (fun r' _ => r' = res) (fun _ => zw G (XS b) 105 a s9.1 s9.2)) A) [.ref (a 8)].toArray s 0 0 A) (F0 m 29 ls [.int t0, .int t1]) := by
        intro v2 t0 t1 g L H locs ls h hP hD hS hl
        unfold fX1_lateOnes_8_p29 at h
        refine lv_iadd hx hb dX1_lateOnes_29 ?_
        refine y_let h (fun x6 h => ?_)
        refine lv_istore_n (lv' := [(1, .int x6), (0, .ref (a 8)), (2, .int v2)]) hx hb dX1_lateOnes_30 rfl hl (by decide) rfl (fun ls hl => ?_)
        refine lv_iinc (v := (v2 + 1)) (lv' := [(2, .int (v2 + 1)), (1, .int x6), (0, .ref (a 8))]) hx hb dX1_lateOnes_31 hl (k := 2) rfl rfl (by decide) rfl (fun ls hl => ?_)
        refine lv_goto (tgt := 4) hx hb dX1_lateOnes_34 (by decide) ?_
        exact ih4 (x6, (v2 + 1), g, L) h H locs ls hP hD hS (lv_sub hl [2, 1, 0] rfl)
      refine lv_if_le (x := x2) (tgt := 28) hx hb dX1_lateOnes_21 (by decide) (fun c7 => ?_) (fun c7 => ?_)
      ·
        have h := ite_t c7 h
        refine lv_iconst (v := 0) hx hb dX1_lateOnes_28 (by decide) ?_
        exact J29 v2 0 v1 g3 L4 H locs ls h hP hD hS (lv_sub hl [0, 2] rfl)
      ·
        have h := ite_e c7 h
        refine lv_iconst (v := 1) hx hb dX1_lateOnes_24 (by decide) ?_
        refine lv_goto (tgt := 29) hx hb dX1_lateOnes_25 (by decide) ?_
        exact J29 v2 1 v1 g3 L4 H locs ls h hP hD hS (lv_sub hl [0, 2] rfl)
  exact lp4 trivial fu (0, 0, g, L) h H locs ls hP hD hS (lv_sub hl [2, 1, 0] rfl)
def fX1_latest_8_s4 (fu : Nat) (k4 : Int32 × Int32 × (Nat → Nat → Int32) × (Nat → Nat → Int64) → Option ((Int32) × zS)) (v1 : Int32) (v2 : Int32) (g : Nat → Nat → Int32) (L : Nat → Nat → Int64) : Option ((Int32) × zS) :=
  if (g 1 2) ≤ v2 then some (v1, (g, L))
  else cb (fX1_late_8 fu v2 g L) (fun x2 g3 L4 =>
  lti (if v1 < x2 then x2 else v1) (fun x6 =>
  k4 (x6, (v2 + 1), g3, L4)))
def fX1_latest_8_l4 (fu : Nat) (v1 : Int32) (v2 : Int32) (g : Nat → Nat → Int32) (L : Nat → Nat → Int64) : Option ((Int32) × zS) :=
  whileK (fun k v => fX1_latest_8_s4 fu k v.1 v.2.1 v.2.2.1 v.2.2.2) fu (v1, v2, g, L)
def fX1_latest_8 (fu : Nat) (g : Nat → Nat → Int32) (L : Nat → Nat → Int64) : Option ((Int32) × zS) :=
  fX1_latest_8_l4 fu 0 0 g L
set_option maxHeartbeats 4000000 in
set_option maxRecDepth 100000 in
theorem rX1_latest_8 (l : Launch) (G : kG) (sz : Nat) (b : Nat) (a : Nat → Nat) (fu : Nat) (g : Nat → Nat → Int32) (L : Nat → Nat → Int64) (res : Int32) (s9 : zS) (h : fX1_latest_8 fu g L = some (res, s9)) : kM l yX1_latest cX1_latest 3 (some .int) { frames := 7, cells := 0, slots := 0, locals := 131 } G [.ref (a 8)] (zw G (XS b) 105 a g L) sz (kQi G (S := Unit) (fun r' _ => r' = res) (fun _ => zw G (XS b) 105 a s9.1 s9.2)) := by
  refine kM.of (by decide) (Nat.le_of_ble_eq_true rfl) ?_
  intro p e s m below meth c A ls H C hr hlk hnm hP hD hS hl
  have C : kC G p s m c cX1_latest 3 RX1 A := C
  have hx := C.1
  have hb := C.2.1
  have hl : lv_has ls 3 [(0, .ref (a 8))] := hl
  obtain ⟨locs, hlocs⟩ : ∃ q : List Loc, q = [] := ⟨_, rfl⟩
  rw [← hlocs] at hS
  rw [← hlocs]
  unfold fX1_latest_8 at h
  refine lv_iconst (v := 0) hx hb dX1_latest_0 (by decide) ?_
  refine lv_istore_n (lv' := [(1, .int 0), (0, .ref (a 8))]) hx hb dX1_latest_1 rfl hl (by decide) rfl (fun ls hl => ?_)
  refine lv_iconst (v := 0) hx hb dX1_latest_2 (by decide) ?_
  refine lv_istore_n (lv' := [(2, .int 0), (1, .int 0), (0, .ref (a 8))]) hx hb dX1_latest_3 rfl hl (by decide) rfl (fun ls hl => ?_)
  have lp4 : ∀ (_ : True), ∀ (n : Nat) (v : Int32 × Int32 × (Nat → Nat → Int32) × (Nat → Nat → Int64)), whileK (fun k v => fX1_latest_8_s4 fu k v.1 v.2.1 v.2.2.1 v.2.2.2) n v = some (res, s9) → ∀ (H : Heap) (locs : List Loc) (ls : Array Slot), va_P G.1 vwCl (zw G (XS b) 105 a (v.2.2.1) (v.2.2.2)) H → va_D A (zw G (XS b) 105 a (v.2.2.1) (v.2.2.2)) → va_S A s.heap H locs → lv_has ls 3 [(0, .ref (a 8)), (1, .int (v.1)), (2, .int (v.2.1))] → W p l e { frames := 7, cells := 0, slots := 0, locals := 131 } s m [.ref (a 8)].toArray below meth c H locs 0 0 (MQ below ((kQi G (S := Unit) (fun r' _ => r' = res) (fun _ => zw G (XS b) 105 a s9.1 s9.2)) A) [.ref (a 8)].toArray s 0 0 A) (F0 m 4 ls []) := by
    intro _
    refine while_ind (fun k4 ih4 v h => ?_)
    obtain ⟨v1, v2, g, L⟩ := v
    intro H locs ls hP hD hS hl
    have h : fX1_latest_8_s4 fu k4 v1 v2 g L = some (res, s9) := h
    have hP : va_P G.1 vwCl (zw G (XS b) 105 a g L) H := hP
    have hD : va_D A (zw G (XS b) 105 a g L) := hD
    have hl : lv_has ls 3 [(0, .ref (a 8)), (1, .int v1), (2, .int v2)] := hl
    show W p l e { frames := 7, cells := 0, slots := 0, locals := 131 } s m [.ref (a 8)].toArray below meth c H locs 0 0 (MQ below ((kQi G (S := Unit) (fun r' _ => r' = res) (fun _ => zw G (XS b) 105 a s9.1 s9.2)) A) [.ref (a 8)].toArray s 0 0 A) (F0 m 4 ls [])
    unfold fX1_latest_8_s4 at h
    refine lv_iload_n hx hb dX1_latest_4 rfl (lv_at hl 2 rfl) ?_
    refine lv_aload_n hx hb dX1_latest_5 rfl (lv_at hl 0 rfl) ?_
    refine x_getr (Or.inl fl_X1_37) C hP (by decide) xs_8 rfl dX1_latest_6 ?_
    refine x_getv (v := .int (g 1 2)) (Or.inr fl_X1_45) C hP (by decide) xs_1 rfl dX1_latest_9 ?_
    refine lv_icmp_ge (x := v2) (y := (g 1 2)) (tgt := 31) hx hb dX1_latest_12 (by decide) (fun c1 => ?_) (fun c1 => ?_)
    ·
      have h := ite_t c1 h
      refine lv_iload_n hx hb dX1_latest_31 rfl (lv_at hl 1 rfl) ?_
      exact y_iret C hr hlk hP hD hS h (Nat.le_of_ble_eq_true rfl) (Nat.le_of_ble_eq_true rfl) dX1_latest_32
    ·
      have h := ite_e c1 h
      refine lv_iload_n hx hb dX1_latest_15 rfl (lv_at hl 1 rfl) ?_
      refine lv_aload_n hx hb dX1_latest_16 rfl (lv_at hl 0 rfl) ?_
      refine lv_iload_n hx hb dX1_latest_17 rfl (lv_at hl 2 rfl) ?_
      obtain ⟨z_, g3, L4, hf5, h⟩ := cb_some h
      refine x_callVi (rest := [.int v1]) li_X1_156 C (rX1_late_8 l G H.size b a fu g L v2 z_ (g3, L4) hf5) (kR rfl) hP hD hS 8 1 rfl (zat (by decide) xs_8) rfl hl.1 rfl (Nat.le_of_ble_eq_true rfl) dX1_latest_18 (fun x2 u_ H locs e_ hP hD hS => ?_)
      have e_ : x2 = z_ := e_
      subst e_
      have hP : va_P G.1 vwCl (zw G (XS b) 105 a g3 L4) H := hP
      have hD : va_D A (zw G (XS b) 105 a g3 L4) := hD
      refine k_max lm_X1_78 C hl.1 (Nat.le_of_ble_eq_true rfl) (Nat.le_of_ble_eq_true rfl) (Nat.le_of_ble_eq_true rfl) (Nat.le_of_ble_eq_true rfl) dX1_latest_21 ?_
      refine y_let h (fun x6 h => ?_)
      refine lv_istore_n (lv' := [(1, .int x6), (0, .ref (a 8)), (2, .int v2)]) hx hb dX1_latest_24 rfl hl (by decide) rfl (fun ls hl => ?_)
      refine lv_iinc (v := (v2 + 1)) (lv' := [(2, .int (v2 + 1)), (1, .int x6), (0, .ref (a 8))]) hx hb dX1_latest_25 hl (k := 2) rfl rfl (by decide) rfl (fun ls hl => ?_)
      refine lv_goto (tgt := 4) hx hb dX1_latest_28 (by decide) ?_
      exact ih4 (x6, (v2 + 1), g3, L4) h H locs ls hP hD hS (lv_sub hl [2, 1, 0] rfl)
  exact lp4 trivial fu (0, 0, g, L) h H locs ls hP hD hS (lv_sub hl [2, 1, 0] rfl)
def fX1_begunLater_8_p42 (fu : Nat) (k4 : Int32 × Int32 × (Nat → Nat → Int32) × (Nat → Nat → Int64) → Option ((Int32) × zS)) (v2 : Int32) (t0 : Int32) (t1 : Int32) (g : Nat → Nat → Int32) (L : Nat → Nat → Int64) : Option ((Int32) × zS) :=
  lti (t1 + t0) (fun x3 =>
  k4 (x3, (v2 + 1), g, L))
def fX1_begunLater_8_s4 (fu : Nat) (k4 : Int32 × Int32 × (Nat → Nat → Int32) × (Nat → Nat → Int64) → Option ((Int32) × zS)) (v1 : Int32) (v2 : Int32) (g : Nat → Nat → Int32) (L : Nat → Nat → Int64) : Option ((Int32) × zS) :=
  if (g 1 2) ≤ v2 then some (v1, (g, L))
  else ck v2 12 (
  ck v2 12 (ltn (57 + (Int32.toNatClampNeg v2) % 12) (fun q2 =>
  if (g 43 (Int32.toNatClampNeg v2)) ≤ (g q2 3) then fX1_begunLater_8_p42 fu k4 v2 0 v1 g L
  else fX1_begunLater_8_p42 fu k4 v2 1 v1 g L)))
def fX1_begunLater_8_l4 (fu : Nat) (v1 : Int32) (v2 : Int32) (g : Nat → Nat → Int32) (L : Nat → Nat → Int64) : Option ((Int32) × zS) :=
  whileK (fun k v => fX1_begunLater_8_s4 fu k v.1 v.2.1 v.2.2.1 v.2.2.2) fu (v1, v2, g, L)
def fX1_begunLater_8 (fu : Nat) (g : Nat → Nat → Int32) (L : Nat → Nat → Int64) : Option ((Int32) × zS) :=
  fX1_begunLater_8_l4 fu 0 0 g L
set_option maxHeartbeats 4000000 in
set_option maxRecDepth 100000 in
theorem rX1_begunLater_8 (l : Launch) (G : kG) (sz : Nat) (b : Nat) (a : Nat → Nat) (fu : Nat) (g : Nat → Nat → Int32) (L : Nat → Nat → Int64) (res : Int32) (s9 : zS) (h : fX1_begunLater_8 fu g L = some (res, s9)) : kM l yX1_begunLater cX1_begunLater 3 (some .int) { frames := 6, cells := 0, slots := 0, locals := 110 } G [.ref (a 8)] (zw G (XS b) 105 a g L) sz (kQi G (S := Unit) (fun r' _ => r' = res) (fun _ => zw G (XS b) 105 a s9.1 s9.2)) := by
  refine kM.of (by decide) (Nat.le_of_ble_eq_true rfl) ?_
  intro p e s m below meth c A ls H C hr hlk hnm hP hD hS hl
  have C : kC G p s m c cX1_begunLater 3 RX1 A := C
  have hx := C.1
  have hb := C.2.1
  have hl : lv_has ls 3 [(0, .ref (a 8))] := hl
  obtain ⟨locs, hlocs⟩ : ∃ q : List Loc, q = [] := ⟨_, rfl⟩
  rw [← hlocs] at hS
  rw [← hlocs]
  unfold fX1_begunLater_8 at h
  refine lv_iconst (v := 0) hx hb dX1_begunLater_0 (by decide) ?_
  refine lv_istore_n (lv' := [(1, .int 0), (0, .ref (a 8))]) hx hb dX1_begunLater_1 rfl hl (by decide) rfl (fun ls hl => ?_)
  refine lv_iconst (v := 0) hx hb dX1_begunLater_2 (by decide) ?_
  refine lv_istore_n (lv' := [(2, .int 0), (1, .int 0), (0, .ref (a 8))]) hx hb dX1_begunLater_3 rfl hl (by decide) rfl (fun ls hl => ?_)
  have lp4 : ∀ (_ : True), ∀ (n : Nat) (v : Int32 × Int32 × (Nat → Nat → Int32) × (Nat → Nat → Int64)), whileK (fun k v => fX1_begunLater_8_s4 fu k v.1 v.2.1 v.2.2.1 v.2.2.2) n v = some (res, s9) → ∀ (H : Heap) (locs : List Loc) (ls : Array Slot), va_P G.1 vwCl (zw G (XS b) 105 a (v.2.2.1) (v.2.2.2)) H → va_D A (zw G (XS b) 105 a (v.2.2.1) (v.2.2.2)) → va_S A s.heap H locs → lv_has ls 3 [(0, .ref (a 8)), (1, .int (v.1)), (2, .int (v.2.1))] → W p l e { frames := 6, cells := 0, slots := 0, locals := 110 } s m [.ref (a 8)].toArray below meth c H locs 0 0 (MQ below ((kQi G (S := Unit) (fun r' _ => r' = res) (fun _ => zw G (XS b) 105 a s9.1 s9.2)) A) [.ref (a 8)].toArray s 0 0 A) (F0 m 4 ls []) := by
    intro _
    refine while_ind (fun k4 ih4 v h => ?_)
    obtain ⟨v1, v2, g, L⟩ := v
    intro H locs ls hP hD hS hl
    have h : fX1_begunLater_8_s4 fu k4 v1 v2 g L = some (res, s9) := h
    have hP : va_P G.1 vwCl (zw G (XS b) 105 a g L) H := hP
    have hD : va_D A (zw G (XS b) 105 a g L) := hD
    have hl : lv_has ls 3 [(0, .ref (a 8)), (1, .int v1), (2, .int v2)] := hl
    show W p l e { frames := 6, cells := 0, slots := 0, locals := 110 } s m [.ref (a 8)].toArray below meth c H locs 0 0 (MQ below ((kQi G (S := Unit) (fun r' _ => r' = res) (fun _ => zw G (XS b) 105 a s9.1 s9.2)) A) [.ref (a 8)].toArray s 0 0 A) (F0 m 4 ls [])
    unfold fX1_begunLater_8_s4 at h
    refine lv_iload_n hx hb dX1_begunLater_4 rfl (lv_at hl 2 rfl) ?_
    refine lv_aload_n hx hb dX1_begunLater_5 rfl (lv_at hl 0 rfl) ?_
    refine x_getr (Or.inl fl_X1_37) C hP (by decide) xs_8 rfl dX1_begunLater_6 ?_
    refine x_getv (v := .int (g 1 2)) (Or.inr fl_X1_45) C hP (by decide) xs_1 rfl dX1_begunLater_9 ?_
    refine lv_icmp_ge (x := v2) (y := (g 1 2)) (tgt := 50) hx hb dX1_begunLater_12 (by decide) (fun c1 => ?_) (fun c1 => ?_)
    ·
      have h := ite_t c1 h
      refine lv_iload_n hx hb dX1_begunLater_50 rfl (lv_at hl 1 rfl) ?_
      exact y_iret C hr hlk hP hD hS h (Nat.le_of_ble_eq_true rfl) (Nat.le_of_ble_eq_true rfl) dX1_begunLater_51
    ·
      have h := ite_e c1 h
      refine lv_iload_n hx hb dX1_begunLater_15 rfl (lv_at hl 1 rfl) ?_
      refine lv_aload_n hx hb dX1_begunLater_16 rfl (lv_at hl 0 rfl) ?_
      refine x_getr (Or.inl fl_X1_9) C hP (by decide) xs_8 rfl dX1_begunLater_17 ?_
      refine lv_iload_n hx hb dX1_begunLater_20 rfl (lv_at hl 2 rfl) ?_
      refine y_ald C hP (by decide) xs_43 dX1_begunLater_21 h (fun h => ?_)
      refine lv_aload_n hx hb dX1_begunLater_22 rfl (lv_at hl 0 rfl) ?_
      refine x_getr (Or.inl fl_X1_37) C hP (by decide) xs_8 rfl dX1_begunLater_23 ?_
      refine x_getr (Or.inr fl_X1_58) C hP (by decide) xs_1 rfl dX1_begunLater_26 ?_
      refine lv_iload_n hx hb dX1_begunLater_29 rfl (lv_at hl 2 rfl) ?_
      refine y_aald (t := 57) C hP (by decide) xs_17 dX1_begunLater_30 h (fun q2 q2l q2h h => ?_)
      refine x_getv (v := .int (g q2 3)) (Or.inr fl_X1_84) C hP (by omega) (xs_les (by omega) (by omega)) rfl dX1_begunLater_31 ?_
      have J42 : ∀ (v2 : Int32) (t0 : Int32) (t1 : Int32) (g : Nat → Nat → Int32) (L : Nat → Nat → Int64) (H : Heap) (locs : List Loc) (ls : Array Slot), fX1_begunLater_8_p42 fu k4 v2 t0 t1 g L = some (res, s9) → va_P G.1 vwCl (zw G (XS b) 105 a g L) H → va_D A (zw G (XS b) 105 a g L) → va_S A s.heap H locs → lv_has ls 3 [(0, .ref (a 8)), (2, .int v2)] → W p l e { frames := 6, cells := 0, slots := 0, locals := 110 } s m [.ref (a 8)].toArray below meth c H locs 0 0 (MQ below ((kQi G (S := Unit) (fun r' _ => r' = res) (fun _ => zw G (XS b) 105 a s9.1 s9.2)) A) [.ref (a 8)].toArray s 0 0 A) (F0 m 42 ls [.int t0, .int t1]) := by
        intro v2 t0 t1 g L H locs ls h hP hD hS hl
        unfold fX1_begunLater_8_p42 at h
        refine lv_iadd hx hb dX1_begunLater_42 ?_
        refine y_let h (fun x3 h => ?_)
        refine lv_istore_n (lv' := [(1, .int x3), (0, .ref (a 8)), (2, .int v2)]) hx hb dX1_begunLater_43 rfl hl (by decide) rfl (fun ls hl => ?_)
        refine lv_iinc (v := (v2 + 1)) (lv' := [(2, .int (v2 + 1)), (1, .int x3), (0, .ref (a 8))]) hx hb dX1_begunLater_44 hl (k := 2) rfl rfl (by decide) rfl (fun ls hl => ?_)
        refine lv_goto (tgt := 4) hx hb dX1_begunLater_47 (by decide) ?_
        exact ih4 (x3, (v2 + 1), g, L) h H locs ls hP hD hS (lv_sub hl [2, 1, 0] rfl)
      refine lv_icmp_le (x := (g 43 (Int32.toNatClampNeg v2))) (y := (g q2 3)) (tgt := 41) hx hb dX1_begunLater_34 (by decide) (fun c4 => ?_) (fun c4 => ?_)
      ·
        have h := ite_t c4 h
        refine lv_iconst (v := 0) hx hb dX1_begunLater_41 (by decide) ?_
        exact J42 v2 0 v1 g L H locs ls h hP hD hS (lv_sub hl [0, 2] rfl)
      ·
        have h := ite_e c4 h
        refine lv_iconst (v := 1) hx hb dX1_begunLater_37 (by decide) ?_
        refine lv_goto (tgt := 42) hx hb dX1_begunLater_38 (by decide) ?_
        exact J42 v2 1 v1 g L H locs ls h hP hD hS (lv_sub hl [0, 2] rfl)
  exact lp4 trivial fu (0, 0, g, L) h H locs ls hP hD hS (lv_sub hl [2, 1, 0] rfl)
def fX1_onBits_8_p41 (fu : Nat) (k4 : Int32 × Int32 × (Nat → Nat → Int32) × (Nat → Nat → Int64) → Option ((Int32) × zS)) (v1 : Int32) (v2 : Int32) (v3 : Int32) (g : Nat → Nat → Int32) (L : Nat → Nat → Int64) : Option ((Int32) × zS) :=
  k4 (v2, (v3 + 1), g, L)
def fX1_onBits_8_s4 (fu : Nat) (v1 : Int32) (k4 : Int32 × Int32 × (Nat → Nat → Int32) × (Nat → Nat → Int64) → Option ((Int32) × zS)) (v2 : Int32) (v3 : Int32) (g : Nat → Nat → Int32) (L : Nat → Nat → Int64) : Option ((Int32) × zS) :=
  if (g 1 2) ≤ v3 then some (v2, (g, L))
  else ck v3 12 (
  if v1 < (g 43 (Int32.toNatClampNeg v3)) then fX1_onBits_8_p41 fu k4 v1 v2 v3 g L
  else ck v3 12 (
  if (g 44 (Int32.toNatClampNeg v3)) ≤ v1 then fX1_onBits_8_p41 fu k4 v1 v2 v3 g L
  else lti (v2 ||| ((1 : Int32) <<< ((v3 : Int32) &&& 31) : Int32)) (fun x4 =>
  fX1_onBits_8_p41 fu k4 v1 x4 v3 g L)))
def fX1_onBits_8_l4 (fu : Nat) (v1 : Int32) (v2 : Int32) (v3 : Int32) (g : Nat → Nat → Int32) (L : Nat → Nat → Int64) : Option ((Int32) × zS) :=
  whileK (fun k v => fX1_onBits_8_s4 fu v1 k v.1 v.2.1 v.2.2.1 v.2.2.2) fu (v2, v3, g, L)
def fX1_onBits_8 (fu : Nat) (p1 : Int32) (g : Nat → Nat → Int32) (L : Nat → Nat → Int64) : Option ((Int32) × zS) :=
  fX1_onBits_8_l4 fu p1 0 0 g L
set_option maxHeartbeats 4000000 in
set_option maxRecDepth 100000 in
theorem rX1_onBits_8 (l : Launch) (G : kG) (sz : Nat) (b : Nat) (a : Nat → Nat) (fu : Nat) (g : Nat → Nat → Int32) (L : Nat → Nat → Int64) (p1 : Int32) (res : Int32) (s9 : zS) (h : fX1_onBits_8 fu p1 g L = some (res, s9)) : kM l yX1_onBits cX1_onBits 4 (some .int) { frames := 6, cells := 0, slots := 0, locals := 110 } G [.ref (a 8), .int p1] (zw G (XS b) 105 a g L) sz (kQi G (S := Unit) (fun r' _ => r' = res) (fun _ => zw G (XS b) 105 a s9.1 s9.2)) := by
  refine kM.of (by decide) (Nat.le_of_ble_eq_true rfl) ?_
  intro p e s m below meth c A ls H C hr hlk hnm hP hD hS hl
  have C : kC G p s m c cX1_onBits 4 RX1 A := C
  have hx := C.1
  have hb := C.2.1
  have hl : lv_has ls 4 [(0, .ref (a 8)), (1, .int p1)] := hl
  obtain ⟨locs, hlocs⟩ : ∃ q : List Loc, q = [] := ⟨_, rfl⟩
  rw [← hlocs] at hS
  rw [← hlocs]
  unfold fX1_onBits_8 at h
  refine lv_iconst (v := 0) hx hb dX1_onBits_0 (by decide) ?_
  refine lv_istore_n (lv' := [(2, .int 0), (0, .ref (a 8)), (1, .int p1)]) hx hb dX1_onBits_1 rfl hl (by decide) rfl (fun ls hl => ?_)
  refine lv_iconst (v := 0) hx hb dX1_onBits_2 (by decide) ?_
  refine lv_istore_n (lv' := [(3, .int 0), (2, .int 0), (0, .ref (a 8)), (1, .int p1)]) hx hb dX1_onBits_3 rfl hl (by decide) rfl (fun ls hl => ?_)
  have lp4 : ∀ (v1 : Int32), ∀ (n : Nat) (v : Int32 × Int32 × (Nat → Nat → Int32) × (Nat → Nat → Int64)), whileK (fun k v => fX1_onBits_8_s4 fu v1 k v.1 v.2.1 v.2.2.1 v.2.2.2) n v = some (res, s9) → ∀ (H : Heap) (locs : List Loc) (ls : Array Slot), va_P G.1 vwCl (zw G (XS b) 105 a (v.2.2.1) (v.2.2.2)) H → va_D A (zw G (XS b) 105 a (v.2.2.1) (v.2.2.2)) → va_S A s.heap H locs → lv_has ls 4 [(0, .ref (a 8)), (1, .int v1), (2, .int (v.1)), (3, .int (v.2.1))] → W p l e { frames := 6, cells := 0, slots := 0, locals := 110 } s m [.ref (a 8), .int p1].toArray below meth c H locs 0 0 (MQ below ((kQi G (S := Unit) (fun r' _ => r' = res) (fun _ => zw G (XS b) 105 a s9.1 s9.2)) A) [.ref (a 8), .int p1].toArray s 0 0 A) (F0 m 4 ls []) := by
    intro v1
    refine while_ind (fun k4 ih4 v h => ?_)
    obtain ⟨v2, v3, g, L⟩ := v
    intro H locs ls hP hD hS hl
    have h : fX1_onBits_8_s4 fu v1 k4 v2 v3 g L = some (res, s9) := h
    have hP : va_P G.1 vwCl (zw G (XS b) 105 a g L) H := hP
    have hD : va_D A (zw G (XS b) 105 a g L) := hD
    have hl : lv_has ls 4 [(0, .ref (a 8)), (1, .int v1), (2, .int v2), (3, .int v3)] := hl
    show W p l e { frames := 6, cells := 0, slots := 0, locals := 110 } s m [.ref (a 8), .int p1].toArray below meth c H locs 0 0 (MQ below ((kQi G (S := Unit) (fun r' _ => r' = res) (fun _ => zw G (XS b) 105 a s9.1 s9.2)) A) [.ref (a 8), .int p1].toArray s 0 0 A) (F0 m 4 ls [])
    unfold fX1_onBits_8_s4 at h
    refine lv_iload_n hx hb dX1_onBits_4 rfl (lv_at hl 3 rfl) ?_
    refine lv_aload_n hx hb dX1_onBits_5 rfl (lv_at hl 0 rfl) ?_
    refine x_getr (Or.inl fl_X1_37) C hP (by decide) xs_8 rfl dX1_onBits_6 ?_
    refine x_getv (v := .int (g 1 2)) (Or.inr fl_X1_45) C hP (by decide) xs_1 rfl dX1_onBits_9 ?_
    refine lv_icmp_ge (x := v3) (y := (g 1 2)) (tgt := 47) hx hb dX1_onBits_12 (by decide) (fun c1 => ?_) (fun c1 => ?_)
    ·
      have h := ite_t c1 h
      refine lv_iload_n hx hb dX1_onBits_47 rfl (lv_at hl 2 rfl) ?_
      exact y_iret C hr hlk hP hD hS h (Nat.le_of_ble_eq_true rfl) (Nat.le_of_ble_eq_true rfl) dX1_onBits_48
    ·
      have h := ite_e c1 h
      refine lv_aload_n hx hb dX1_onBits_15 rfl (lv_at hl 0 rfl) ?_
      refine x_getr (Or.inl fl_X1_9) C hP (by decide) xs_8 rfl dX1_onBits_16 ?_
      refine lv_iload_n hx hb dX1_onBits_19 rfl (lv_at hl 3 rfl) ?_
      refine y_ald C hP (by decide) xs_43 dX1_onBits_20 h (fun h => ?_)
      refine lv_iload_n hx hb dX1_onBits_21 rfl (lv_at hl 1 rfl) ?_
      have J41 : ∀ (v2 : Int32) (v3 : Int32) (g : Nat → Nat → Int32) (L : Nat → Nat → Int64) (H : Heap) (locs : List Loc) (ls : Array Slot), fX1_onBits_8_p41 fu k4 v1 v2 v3 g L = some (res, s9) → va_P G.1 vwCl (zw G (XS b) 105 a g L) H → va_D A (zw G (XS b) 105 a g L) → va_S A s.heap H locs → lv_has ls 4 [(0, .ref (a 8)), (1, .int v1), (2, .int v2), (3, .int v3)] → W p l e { frames := 6, cells := 0, slots := 0, locals := 110 } s m [.ref (a 8), .int p1].toArray below meth c H locs 0 0 (MQ below ((kQi G (S := Unit) (fun r' _ => r' = res) (fun _ => zw G (XS b) 105 a s9.1 s9.2)) A) [.ref (a 8), .int p1].toArray s 0 0 A) (F0 m 41 ls []) := by
        intro v2 v3 g L H locs ls h hP hD hS hl
        unfold fX1_onBits_8_p41 at h
        refine lv_iinc (v := (v3 + 1)) (lv' := [(3, .int (v3 + 1)), (0, .ref (a 8)), (1, .int v1), (2, .int v2)]) hx hb dX1_onBits_41 hl (k := 3) rfl rfl (by decide) rfl (fun ls hl => ?_)
        refine lv_goto (tgt := 4) hx hb dX1_onBits_44 (by decide) ?_
        exact ih4 (v2, (v3 + 1), g, L) h H locs ls hP hD hS (lv_sub hl [1, 2, 3, 0] rfl)
      refine lv_icmp_gt (x := (g 43 (Int32.toNatClampNeg v3))) (y := v1) (tgt := 41) hx hb dX1_onBits_22 (by decide) (fun c2 => ?_) (fun c2 => ?_)
      ·
        have h := ite_t c2 h
        exact J41 v2 v3 g L H locs ls h hP hD hS (lv_sub hl [0, 1, 2, 3] rfl)
      ·
        have h := ite_e c2 h
        refine lv_aload_n hx hb dX1_onBits_25 rfl (lv_at hl 0 rfl) ?_
        refine x_getr (Or.inl fl_X1_15) C hP (by decide) xs_8 rfl dX1_onBits_26 ?_
        refine lv_iload_n hx hb dX1_onBits_29 rfl (lv_at hl 3 rfl) ?_
        refine y_ald C hP (by decide) xs_44 dX1_onBits_30 h (fun h => ?_)
        refine lv_iload_n hx hb dX1_onBits_31 rfl (lv_at hl 1 rfl) ?_
        refine lv_icmp_le (x := (g 44 (Int32.toNatClampNeg v3))) (y := v1) (tgt := 41) hx hb dX1_onBits_32 (by decide) (fun c3 => ?_) (fun c3 => ?_)
        ·
          have h := ite_t c3 h
          exact J41 v2 v3 g L H locs ls h hP hD hS (lv_sub hl [0, 1, 2, 3] rfl)
        ·
          have h := ite_e c3 h
          refine lv_iload_n hx hb dX1_onBits_35 rfl (lv_at hl 2 rfl) ?_
          refine lv_iconst (v := 1) hx hb dX1_onBits_36 (by decide) ?_
          refine lv_iload_n hx hb dX1_onBits_37 rfl (lv_at hl 3 rfl) ?_
          refine lv_ishl hx hb dX1_onBits_38 ?_
          refine lv_ior hx hb dX1_onBits_39 ?_
          refine y_let h (fun x4 h => ?_)
          refine lv_istore_n (lv' := [(2, .int x4), (0, .ref (a 8)), (1, .int v1), (3, .int v3)]) hx hb dX1_onBits_40 rfl hl (by decide) rfl (fun ls hl => ?_)
          exact J41 x4 v3 g L H locs ls h hP hD hS (lv_sub hl [1, 2, 0, 3] rfl)
  exact lp4 p1 fu (0, 0, g, L) h H locs ls hP hD hS (lv_sub hl [2, 3, 1, 0] rfl)
def fX1_clashOf_8_p73 (fu : Nat) (t0 : Int32) (g : Nat → Nat → Int32) (L : Nat → Nat → Int64) : Option ((Int32) × zS) :=
  some (t0, (g, L))
def fX1_clashOf_8_p72 (fu : Nat) (g : Nat → Nat → Int32) (L : Nat → Nat → Int64) : Option ((Int32) × zS) :=
  fX1_clashOf_8_p73 fu (-1) g L
def fX1_clashOf_8_p40 (fu : Nat) (v1 : Int32) (v2 : Int32) (v3 : Int32) (t0 : Int32) (g : Nat → Nat → Int32) (L : Nat → Nat → Int64) : Option ((Int32) × zS) :=
  if t0 = 0 then fX1_clashOf_8_p72 fu g L
  else ck v1 12 (
  ck v2 12 (
  if (g 27 (Int32.toNatClampNeg v1)) = (g 27 (Int32.toNatClampNeg v2)) then fX1_clashOf_8_p73 fu v3 g L
  else fX1_clashOf_8_p72 fu g L))
def fX1_clashOf_8 (fu : Nat) (p1 : Int32) (p2 : Int32) (g : Nat → Nat → Int32) (L : Nat → Nat → Int64) : Option ((Int32) × zS) :=
  ck p1 12 (
  ck p2 12 (
  lti (if (g 43 (Int32.toNatClampNeg p1)) < (g 43 (Int32.toNatClampNeg p2)) then (g 43 (Int32.toNatClampNeg p2)) else (g 43 (Int32.toNatClampNeg p1))) (fun x1 =>
  ck p1 12 (
  ck p2 12 (
  if (if (g 44 (Int32.toNatClampNeg p2)) < (g 44 (Int32.toNatClampNeg p1)) then (g 44 (Int32.toNatClampNeg p2)) else (g 44 (Int32.toNatClampNeg p1))) ≤ x1 then fX1_clashOf_8_p40 fu p1 p2 x1 0 g L
  else fX1_clashOf_8_p40 fu p1 p2 x1 1 g L)))))
set_option maxHeartbeats 4000000 in
set_option maxRecDepth 100000 in
theorem rX1_clashOf_8 (l : Launch) (G : kG) (sz : Nat) (b : Nat) (a : Nat → Nat) (fu : Nat) (g : Nat → Nat → Int32) (L : Nat → Nat → Int64) (p1 : Int32) (p2 : Int32) (res : Int32) (s9 : zS) (h : fX1_clashOf_8 fu p1 p2 g L = some (res, s9)) : kM l yX1_clashOf cX1_clashOf 5 (some .int) { frames := 6, cells := 0, slots := 0, locals := 110 } G [.ref (a 8), .int p1, .int p2] (zw G (XS b) 105 a g L) sz (kQi G (S := Unit) (fun r' _ => r' = res) (fun _ => zw G (XS b) 105 a s9.1 s9.2)) := by
  refine kM.of (by decide) (Nat.le_of_ble_eq_true rfl) ?_
  intro p e s m below meth c A ls H C hr hlk hnm hP hD hS hl
  have C : kC G p s m c cX1_clashOf 5 RX1 A := C
  have hx := C.1
  have hb := C.2.1
  have hl : lv_has ls 5 [(0, .ref (a 8)), (1, .int p1), (2, .int p2)] := hl
  obtain ⟨locs, hlocs⟩ : ∃ q : List Loc, q = [] := ⟨_, rfl⟩
  rw [← hlocs] at hS
  rw [← hlocs]
  unfold fX1_clashOf_8 at h
  refine lv_aload_n hx hb dX1_clashOf_0 rfl (lv_at hl 0 rfl) ?_
  refine x_getr (Or.inl fl_X1_9) C hP (by decide) xs_8 rfl dX1_clashOf_1 ?_
  refine lv_iload_n hx hb dX1_clashOf_4 rfl (lv_at hl 1 rfl) ?_
  refine y_ald C hP (by decide) xs_43 dX1_clashOf_5 h (fun h => ?_)
  refine lv_aload_n hx hb dX1_clashOf_6 rfl (lv_at hl 0 rfl) ?_
  refine x_getr (Or.inl fl_X1_9) C hP (by decide) xs_8 rfl dX1_clashOf_7 ?_
  refine lv_iload_n hx hb dX1_clashOf_10 rfl (lv_at hl 2 rfl) ?_
  refine y_ald C hP (by decide) xs_43 dX1_clashOf_11 h (fun h => ?_)
  refine k_max lm_X1_78 C hl.1 (Nat.le_of_ble_eq_true rfl) (Nat.le_of_ble_eq_true rfl) (Nat.le_of_ble_eq_true rfl) (Nat.le_of_ble_eq_true rfl) dX1_clashOf_12 ?_
  refine y_let h (fun x1 h => ?_)
  refine lv_istore_n (lv' := [(3, .int x1), (0, .ref (a 8)), (1, .int p1), (2, .int p2)]) hx hb dX1_clashOf_15 rfl hl (by decide) rfl (fun ls hl => ?_)
  refine lv_iload_n hx hb dX1_clashOf_16 rfl (lv_at hl 0 rfl) ?_
  refine lv_aload_n hx hb dX1_clashOf_17 rfl (lv_at hl 1 rfl) ?_
  refine x_getr (Or.inl fl_X1_15) C hP (by decide) xs_8 rfl dX1_clashOf_18 ?_
  refine lv_iload_n hx hb dX1_clashOf_21 rfl (lv_at hl 2 rfl) ?_
  refine y_ald C hP (by decide) xs_44 dX1_clashOf_22 h (fun h => ?_)
  refine lv_aload_n hx hb dX1_clashOf_23 rfl (lv_at hl 1 rfl) ?_
  refine x_getr (Or.inl fl_X1_15) C hP (by decide) xs_8 rfl dX1_clashOf_24 ?_
  refine lv_iload_n hx hb dX1_clashOf_27 rfl (lv_at hl 3 rfl) ?_
  refine y_ald C hP (by decide) xs_44 dX1_clashOf_28 h (fun h => ?_)
  refine k_min lm_X1_153 C hl.1 (Nat.le_of_ble_eq_true rfl) (Nat.le_of_ble_eq_true rfl) (Nat.le_of_ble_eq_true rfl) (Nat.le_of_ble_eq_true rfl) dX1_clashOf_29 ?_
  have J40 : ∀ (v1 : Int32) (v2 : Int32) (v3 : Int32) (t0 : Int32) (g : Nat → Nat → Int32) (L : Nat → Nat → Int64) (H : Heap) (locs : List Loc) (ls : Array Slot), fX1_clashOf_8_p40 fu v1 v2 v3 t0 g L = some (res, s9) → va_P G.1 vwCl (zw G (XS b) 105 a g L) H → va_D A (zw G (XS b) 105 a g L) → va_S A s.heap H locs → lv_has ls 5 [(0, .ref (a 8)), (1, .int v1), (2, .int v2), (3, .int v3)] → W p l e { frames := 6, cells := 0, slots := 0, locals := 110 } s m [.ref (a 8), .int p1, .int p2].toArray below meth c H locs 0 0 (MQ below ((kQi G (S := Unit) (fun r' _ => r' = res) (fun _ => zw G (XS b) 105 a s9.1 s9.2)) A) [.ref (a 8), .int p1, .int p2].toArray s 0 0 A) (F0 m 40 ls [.int t0]) := by
    intro v1 v2 v3 t0 g L H locs ls h hP hD hS hl
    unfold fX1_clashOf_8_p40 at h
    refine lv_istore (lv' := [(4, .int t0), (0, .ref (a 8)), (1, .int v1), (2, .int v2), (3, .int v3)]) hx hb dX1_clashOf_40 hl (by decide) rfl (fun ls hl => ?_)
    refine lv_iload hx hb dX1_clashOf_42 (lv_at hl 0 rfl) ?_
    have J73 : ∀ (t0 : Int32) (g : Nat → Nat → Int32) (L : Nat → Nat → Int64) (H : Heap) (locs : List Loc) (ls : Array Slot), fX1_clashOf_8_p73 fu t0 g L = some (res, s9) → va_P G.1 vwCl (zw G (XS b) 105 a g L) H → va_D A (zw G (XS b) 105 a g L) → va_S A s.heap H locs → lv_has ls 5 [] → W p l e { frames := 6, cells := 0, slots := 0, locals := 110 } s m [.ref (a 8), .int p1, .int p2].toArray below meth c H locs 0 0 (MQ below ((kQi G (S := Unit) (fun r' _ => r' = res) (fun _ => zw G (XS b) 105 a s9.1 s9.2)) A) [.ref (a 8), .int p1, .int p2].toArray s 0 0 A) (F0 m 73 ls [.int t0]) := by
      intro t0 g L H locs ls h hP hD hS hl
      unfold fX1_clashOf_8_p73 at h
      exact y_iret C hr hlk hP hD hS h (Nat.le_of_ble_eq_true rfl) (Nat.le_of_ble_eq_true rfl) dX1_clashOf_73
    have J72 : ∀ (g : Nat → Nat → Int32) (L : Nat → Nat → Int64) (H : Heap) (locs : List Loc) (ls : Array Slot), fX1_clashOf_8_p72 fu g L = some (res, s9) → va_P G.1 vwCl (zw G (XS b) 105 a g L) H → va_D A (zw G (XS b) 105 a g L) → va_S A s.heap H locs → lv_has ls 5 [] → W p l e { frames := 6, cells := 0, slots := 0, locals := 110 } s m [.ref (a 8), .int p1, .int p2].toArray below meth c H locs 0 0 (MQ below ((kQi G (S := Unit) (fun r' _ => r' = res) (fun _ => zw G (XS b) 105 a s9.1 s9.2)) A) [.ref (a 8), .int p1, .int p2].toArray s 0 0 A) (F0 m 72 ls []) := by
      intro g L H locs ls h hP hD hS hl
      unfold fX1_clashOf_8_p72 at h
      refine lv_iconst (v := -1) hx hb dX1_clashOf_72 (by decide) ?_
      exact J73 (-1) g L H locs ls h hP hD hS (lv_sub hl [] rfl)
    refine lv_if_eq (x := t0) (tgt := 72) hx hb dX1_clashOf_44 (by decide) (fun c2 => ?_) (fun c2 => ?_)
    ·
      have h := ite_t c2 h
      exact J72 g L H locs ls h hP hD hS (lv_sub hl [] rfl)
    ·
      have h := ite_e c2 h
      refine lv_aload_n hx hb dX1_clashOf_47 rfl (lv_at hl 1 rfl) ?_
      refine x_getr (Or.inl fl_X1_41) C hP (by decide) xs_8 rfl dX1_clashOf_48 ?_
      refine x_getr (Or.inr fl_X1_120) C hP (by decide) xs_6 rfl dX1_clashOf_51 ?_
      refine lv_iload_n hx hb dX1_clashOf_54 rfl (lv_at hl 2 rfl) ?_
      refine y_ald C hP (by decide) xs_27 dX1_clashOf_55 h (fun h => ?_)
      refine lv_aload_n hx hb dX1_clashOf_56 rfl (lv_at hl 1 rfl) ?_
      refine x_getr (Or.inl fl_X1_41) C hP (by decide) xs_8 rfl dX1_clashOf_57 ?_
      refine x_getr (Or.inr fl_X1_120) C hP (by decide) xs_6 rfl dX1_clashOf_60 ?_
      refine lv_iload_n hx hb dX1_clashOf_63 rfl (lv_at hl 3 rfl) ?_
      refine y_ald C hP (by decide) xs_27 dX1_clashOf_64 h (fun h => ?_)
      refine lv_icmp_ne (x := (g 27 (Int32.toNatClampNeg v1))) (y := (g 27 (Int32.toNatClampNeg v2))) (tgt := 72) hx hb dX1_clashOf_65 (by decide) (fun c3 => ?_) (fun c3 => ?_)
      ·
        have h := ite_e c3 h
        exact J72 g L H locs ls h hP hD hS (lv_sub hl [] rfl)
      ·
        have h := ite_t c3 h
        refine lv_iload_n hx hb dX1_clashOf_68 rfl (lv_at hl 4 rfl) ?_
        refine lv_goto (tgt := 73) hx hb dX1_clashOf_69 (by decide) ?_
        exact J73 v3 g L H locs ls h hP hD hS (lv_sub hl [] rfl)
  refine lv_icmp_ge (x := x1) (y := (if (g 44 (Int32.toNatClampNeg p2)) < (g 44 (Int32.toNatClampNeg p1)) then (g 44 (Int32.toNatClampNeg p2)) else (g 44 (Int32.toNatClampNeg p1)))) (tgt := 39) hx hb dX1_clashOf_32 (by decide) (fun c4 => ?_) (fun c4 => ?_)
  ·
    have h := ite_t c4 h
    refine lv_iconst (v := 0) hx hb dX1_clashOf_39 (by decide) ?_
    exact J40 p1 p2 x1 0 g L H locs ls h hP hD hS (lv_sub hl [1, 2, 3, 0] rfl)
  ·
    have h := ite_e c4 h
    refine lv_iconst (v := 1) hx hb dX1_clashOf_35 (by decide) ?_
    refine lv_goto (tgt := 40) hx hb dX1_clashOf_36 (by decide) ?_
    exact J40 p1 p2 x1 1 g L H locs ls h hP hD hS (lv_sub hl [1, 2, 3, 0] rfl)
def fX1_clashes_8_p46 (fu : Nat) (k4 : Int32 × Int32 × (Nat → Nat → Int32) × (Nat → Nat → Int64) → Option ((Int32) × zS)) (k19 : Int32 × Int32 × (Nat → Nat → Int32) × (Nat → Nat → Int64) → Option ((Int32) × zS)) (v2 : Int32) (v3 : Int32) (t0 : Int32) (t1 : Int32) (g : Nat → Nat → Int32) (L : Nat → Nat → Int64) : Option ((Int32) × zS) :=
  lti (t1 + t0) (fun x8 =>
  k19 (x8, (v3 + 1), g, L))
def fX1_clashes_8_s19 (fu : Nat) (k4 : Int32 × Int32 × (Nat → Nat → Int32) × (Nat → Nat → Int64) → Option ((Int32) × zS)) (v2 : Int32) (k19 : Int32 × Int32 × (Nat → Nat → Int32) × (Nat → Nat → Int64) → Option ((Int32) × zS)) (v1 : Int32) (v3 : Int32) (g : Nat → Nat → Int32) (L : Nat → Nat → Int64) : Option ((Int32) × zS) :=
  if (g 1 2) ≤ v3 then k4 (v1, (v2 + 1), g, L)
  else cb (fX1_clashOf_8 fu v2 v3 g L) (fun x4 g5 L6 =>
  if (x4 : Int32) = (-1) then fX1_clashes_8_p46 fu k4 k19 v2 v3 0 v1 g5 L6
  else fX1_clashes_8_p46 fu k4 k19 v2 v3 1 v1 g5 L6)
def fX1_clashes_8_l19 (fu : Nat) (k4 : Int32 × Int32 × (Nat → Nat → Int32) × (Nat → Nat → Int64) → Option ((Int32) × zS)) (v2 : Int32) (v1 : Int32) (v3 : Int32) (g : Nat → Nat → Int32) (L : Nat → Nat → Int64) : Option ((Int32) × zS) :=
  whileK (fun k v => fX1_clashes_8_s19 fu k4 v2 k v.1 v.2.1 v.2.2.1 v.2.2.2) fu (v1, v3, g, L)
def fX1_clashes_8_s4 (fu : Nat) (k4 : Int32 × Int32 × (Nat → Nat → Int32) × (Nat → Nat → Int64) → Option ((Int32) × zS)) (v1 : Int32) (v2 : Int32) (g : Nat → Nat → Int32) (L : Nat → Nat → Int64) : Option ((Int32) × zS) :=
  if (g 1 2) ≤ v2 then some (v1, (g, L))
  else lti (v2 + 1) (fun x2 =>
  fX1_clashes_8_l19 fu k4 v2 v1 x2 g L)
def fX1_clashes_8_l4 (fu : Nat) (v1 : Int32) (v2 : Int32) (g : Nat → Nat → Int32) (L : Nat → Nat → Int64) : Option ((Int32) × zS) :=
  whileK (fun k v => fX1_clashes_8_s4 fu k v.1 v.2.1 v.2.2.1 v.2.2.2) fu (v1, v2, g, L)
def fX1_clashes_8 (fu : Nat) (g : Nat → Nat → Int32) (L : Nat → Nat → Int64) : Option ((Int32) × zS) :=
  fX1_clashes_8_l4 fu 0 0 g L
set_option maxHeartbeats 4000000 in
set_option maxRecDepth 100000 in
theorem rX1_clashes_8 (l : Launch) (G : kG) (sz : Nat) (b : Nat) (a : Nat → Nat) (fu : Nat) (g : Nat → Nat → Int32) (L : Nat → Nat → Int64) (res : Int32) (s9 : zS) (h : fX1_clashes_8 fu g L = some (res, s9)) : kM l yX1_clashes cX1_clashes 4 (some .int) { frames := 7, cells := 0, slots := 0, locals := 134 } G [.ref (a 8)] (zw G (XS b) 105 a g L) sz (kQi G (S := Unit) (fun r' _ => r' = res) (fun _ => zw G (XS b) 105 a s9.1 s9.2)) := by
  refine kM.of (by decide) (Nat.le_of_ble_eq_true rfl) ?_
  intro p e s m below meth c A ls H C hr hlk hnm hP hD hS hl
  have C : kC G p s m c cX1_clashes 4 RX1 A := C
  have hx := C.1
  have hb := C.2.1
  have hl : lv_has ls 4 [(0, .ref (a 8))] := hl
  obtain ⟨locs, hlocs⟩ : ∃ q : List Loc, q = [] := ⟨_, rfl⟩
  rw [← hlocs] at hS
  rw [← hlocs]
  unfold fX1_clashes_8 at h
  refine lv_iconst (v := 0) hx hb dX1_clashes_0 (by decide) ?_
  refine lv_istore_n (lv' := [(1, .int 0), (0, .ref (a 8))]) hx hb dX1_clashes_1 rfl hl (by decide) rfl (fun ls hl => ?_)
  refine lv_iconst (v := 0) hx hb dX1_clashes_2 (by decide) ?_
  refine lv_istore_n (lv' := [(2, .int 0), (1, .int 0), (0, .ref (a 8))]) hx hb dX1_clashes_3 rfl hl (by decide) rfl (fun ls hl => ?_)
  have lp4 : ∀ (_ : True), ∀ (n : Nat) (v : Int32 × Int32 × (Nat → Nat → Int32) × (Nat → Nat → Int64)), whileK (fun k v => fX1_clashes_8_s4 fu k v.1 v.2.1 v.2.2.1 v.2.2.2) n v = some (res, s9) → ∀ (H : Heap) (locs : List Loc) (ls : Array Slot), va_P G.1 vwCl (zw G (XS b) 105 a (v.2.2.1) (v.2.2.2)) H → va_D A (zw G (XS b) 105 a (v.2.2.1) (v.2.2.2)) → va_S A s.heap H locs → lv_has ls 4 [(0, .ref (a 8)), (1, .int (v.1)), (2, .int (v.2.1))] → W p l e { frames := 7, cells := 0, slots := 0, locals := 134 } s m [.ref (a 8)].toArray below meth c H locs 0 0 (MQ below ((kQi G (S := Unit) (fun r' _ => r' = res) (fun _ => zw G (XS b) 105 a s9.1 s9.2)) A) [.ref (a 8)].toArray s 0 0 A) (F0 m 4 ls []) := by
    intro _
    refine while_ind (fun k4 ih4 v h => ?_)
    obtain ⟨v1, v2, g, L⟩ := v
    intro H locs ls hP hD hS hl
    have h : fX1_clashes_8_s4 fu k4 v1 v2 g L = some (res, s9) := h
    have hP : va_P G.1 vwCl (zw G (XS b) 105 a g L) H := hP
    have hD : va_D A (zw G (XS b) 105 a g L) := hD
    have hl : lv_has ls 4 [(0, .ref (a 8)), (1, .int v1), (2, .int v2)] := hl
    show W p l e { frames := 7, cells := 0, slots := 0, locals := 134 } s m [.ref (a 8)].toArray below meth c H locs 0 0 (MQ below ((kQi G (S := Unit) (fun r' _ => r' = res) (fun _ => zw G (XS b) 105 a s9.1 s9.2)) A) [.ref (a 8)].toArray s 0 0 A) (F0 m 4 ls [])
    unfold fX1_clashes_8_s4 at h
    refine lv_iload_n hx hb dX1_clashes_4 rfl (lv_at hl 2 rfl) ?_
    refine lv_aload_n hx hb dX1_clashes_5 rfl (lv_at hl 0 rfl) ?_
    refine x_getr (Or.inl fl_X1_37) C hP (by decide) xs_8 rfl dX1_clashes_6 ?_
    refine x_getv (v := .int (g 1 2)) (Or.inr fl_X1_45) C hP (by decide) xs_1 rfl dX1_clashes_9 ?_
    refine lv_icmp_ge (x := v2) (y := (g 1 2)) (tgt := 60) hx hb dX1_clashes_12 (by decide) (fun c1 => ?_) (fun c1 => ?_)
    ·
      have h := ite_t c1 h
      refine lv_iload_n hx hb dX1_clashes_60 rfl (lv_at hl 1 rfl) ?_
      exact y_iret C hr hlk hP hD hS h (Nat.le_of_ble_eq_true rfl) (Nat.le_of_ble_eq_true rfl) dX1_clashes_61
    ·
      have h := ite_e c1 h
      refine lv_iload_n hx hb dX1_clashes_15 rfl (lv_at hl 2 rfl) ?_
      refine lv_iconst (v := 1) hx hb dX1_clashes_16 (by decide) ?_
      refine lv_iadd hx hb dX1_clashes_17 ?_
      refine y_let h (fun x2 h => ?_)
      refine lv_istore_n (lv' := [(3, .int x2), (0, .ref (a 8)), (1, .int v1), (2, .int v2)]) hx hb dX1_clashes_18 rfl hl (by decide) rfl (fun ls hl => ?_)
      have lp19 : ∀ (v2 : Int32), ∀ (n : Nat) (v : Int32 × Int32 × (Nat → Nat → Int32) × (Nat → Nat → Int64)), whileK (fun k v => fX1_clashes_8_s19 fu k4 v2 k v.1 v.2.1 v.2.2.1 v.2.2.2) n v = some (res, s9) → ∀ (H : Heap) (locs : List Loc) (ls : Array Slot), va_P G.1 vwCl (zw G (XS b) 105 a (v.2.2.1) (v.2.2.2)) H → va_D A (zw G (XS b) 105 a (v.2.2.1) (v.2.2.2)) → va_S A s.heap H locs → lv_has ls 4 [(0, .ref (a 8)), (1, .int (v.1)), (2, .int v2), (3, .int (v.2.1))] → W p l e { frames := 7, cells := 0, slots := 0, locals := 134 } s m [.ref (a 8)].toArray below meth c H locs 0 0 (MQ below ((kQi G (S := Unit) (fun r' _ => r' = res) (fun _ => zw G (XS b) 105 a s9.1 s9.2)) A) [.ref (a 8)].toArray s 0 0 A) (F0 m 19 ls []) := by
        intro v2
        refine while_ind (fun k19 ih19 v h => ?_)
        obtain ⟨v1, v3, g, L⟩ := v
        intro H locs ls hP hD hS hl
        have h : fX1_clashes_8_s19 fu k4 v2 k19 v1 v3 g L = some (res, s9) := h
        have hP : va_P G.1 vwCl (zw G (XS b) 105 a g L) H := hP
        have hD : va_D A (zw G (XS b) 105 a g L) := hD
        have hl : lv_has ls 4 [(0, .ref (a 8)), (1, .int v1), (2, .int v2), (3, .int v3)] := hl
        show W p l e { frames := 7, cells := 0, slots := 0, locals := 134 } s m [.ref (a 8)].toArray below meth c H locs 0 0 (MQ below ((kQi G (S := Unit) (fun r' _ => r' = res) (fun _ => zw G (XS b) 105 a s9.1 s9.2)) A) [.ref (a 8)].toArray s 0 0 A) (F0 m 19 ls [])
        unfold fX1_clashes_8_s19 at h
        refine lv_iload_n hx hb dX1_clashes_19 rfl (lv_at hl 3 rfl) ?_
        refine lv_aload_n hx hb dX1_clashes_20 rfl (lv_at hl 0 rfl) ?_
        refine x_getr (Or.inl fl_X1_37) C hP (by decide) xs_8 rfl dX1_clashes_21 ?_
        refine x_getv (v := .int (g 1 2)) (Or.inr fl_X1_45) C hP (by decide) xs_1 rfl dX1_clashes_24 ?_
        refine lv_icmp_ge (x := v3) (y := (g 1 2)) (tgt := 54) hx hb dX1_clashes_27 (by decide) (fun c3 => ?_) (fun c3 => ?_)
        ·
          have h := ite_t c3 h
          refine lv_iinc (v := (v2 + 1)) (lv' := [(2, .int (v2 + 1)), (0, .ref (a 8)), (1, .int v1), (3, .int v3)]) hx hb dX1_clashes_54 hl (k := 2) rfl rfl (by decide) rfl (fun ls hl => ?_)
          refine lv_goto (tgt := 4) hx hb dX1_clashes_57 (by decide) ?_
          exact ih4 (v1, (v2 + 1), g, L) h H locs ls hP hD hS (lv_sub hl [1, 2, 0] rfl)
        ·
          have h := ite_e c3 h
          refine lv_iload_n hx hb dX1_clashes_30 rfl (lv_at hl 1 rfl) ?_
          refine lv_aload_n hx hb dX1_clashes_31 rfl (lv_at hl 0 rfl) ?_
          refine lv_iload_n hx hb dX1_clashes_32 rfl (lv_at hl 2 rfl) ?_
          refine lv_iload_n hx hb dX1_clashes_33 rfl (lv_at hl 3 rfl) ?_
          obtain ⟨z_, g5, L6, hf7, h⟩ := cb_some h
          refine x_callVi (rest := [.int v1]) li_X1_159 C (rX1_clashOf_8 l G H.size b a fu g L v2 v3 z_ (g5, L6) hf7) (kR rfl) hP hD hS 8 1 rfl (zat (by decide) xs_8) rfl hl.1 rfl (Nat.le_of_ble_eq_true rfl) dX1_clashes_34 (fun x4 u_ H locs e_ hP hD hS => ?_)
          have e_ : x4 = z_ := e_
          subst e_
          have hP : va_P G.1 vwCl (zw G (XS b) 105 a g5 L6) H := hP
          have hD : va_D A (zw G (XS b) 105 a g5 L6) := hD
          refine lv_iconst (v := -1) hx hb dX1_clashes_37 (by decide) ?_
          have J46 : ∀ (v3 : Int32) (t0 : Int32) (t1 : Int32) (g : Nat → Nat → Int32) (L : Nat → Nat → Int64) (H : Heap) (locs : List Loc) (ls : Array Slot), fX1_clashes_8_p46 fu k4 k19 v2 v3 t0 t1 g L = some (res, s9) → va_P G.1 vwCl (zw G (XS b) 105 a g L) H → va_D A (zw G (XS b) 105 a g L) → va_S A s.heap H locs → lv_has ls 4 [(0, .ref (a 8)), (2, .int v2), (3, .int v3)] → W p l e { frames := 7, cells := 0, slots := 0, locals := 134 } s m [.ref (a 8)].toArray below meth c H locs 0 0 (MQ below ((kQi G (S := Unit) (fun r' _ => r' = res) (fun _ => zw G (XS b) 105 a s9.1 s9.2)) A) [.ref (a 8)].toArray s 0 0 A) (F0 m 46 ls [.int t0, .int t1]) := by
            intro v3 t0 t1 g L H locs ls h hP hD hS hl
            unfold fX1_clashes_8_p46 at h
            refine lv_iadd hx hb dX1_clashes_46 ?_
            refine y_let h (fun x8 h => ?_)
            refine lv_istore_n (lv' := [(1, .int x8), (0, .ref (a 8)), (2, .int v2), (3, .int v3)]) hx hb dX1_clashes_47 rfl hl (by decide) rfl (fun ls hl => ?_)
            refine lv_iinc (v := (v3 + 1)) (lv' := [(3, .int (v3 + 1)), (1, .int x8), (0, .ref (a 8)), (2, .int v2)]) hx hb dX1_clashes_48 hl (k := 3) rfl rfl (by decide) rfl (fun ls hl => ?_)
            refine lv_goto (tgt := 19) hx hb dX1_clashes_51 (by decide) ?_
            exact ih19 (x8, (v3 + 1), g, L) h H locs ls hP hD hS (lv_sub hl [2, 1, 3, 0] rfl)
          refine lv_icmp_eq (x := x4) (y := (-1)) (tgt := 45) hx hb dX1_clashes_38 (by decide) (fun c9 => ?_) (fun c9 => ?_)
          ·
            have h := ite_t c9 h
            refine lv_iconst (v := 0) hx hb dX1_clashes_45 (by decide) ?_
            exact J46 v3 0 v1 g5 L6 H locs ls h hP hD hS (lv_sub hl [0, 2, 3] rfl)
          ·
            have h := ite_e c9 h
            refine lv_iconst (v := 1) hx hb dX1_clashes_41 (by decide) ?_
            refine lv_goto (tgt := 46) hx hb dX1_clashes_42 (by decide) ?_
            exact J46 v3 1 v1 g5 L6 H locs ls h hP hD hS (lv_sub hl [0, 2, 3] rfl)
      exact lp19 v2 fu (v1, x2, g, L) h H locs ls hP hD hS (lv_sub hl [1, 2, 3, 0] rfl)
  exact lp4 trivial fu (0, 0, g, L) h H locs ls hP hD hS (lv_sub hl [2, 1, 0] rfl)
def fX1_firstClash_8_p58 (fu : Nat) (k4 : Int32 × Int32 × (Nat → Nat → Int32) × (Nat → Nat → Int64) → Option ((Int32) × zS)) (k19 : Int32 × Int32 × (Nat → Nat → Int32) × (Nat → Nat → Int64) → Option ((Int32) × zS)) (v1 : Int32) (v2 : Int32) (v3 : Int32) (g : Nat → Nat → Int32) (L : Nat → Nat → Int64) : Option ((Int32) × zS) :=
  k19 (v1, (v3 + 1), g, L)
def fX1_firstClash_8_p55 (fu : Nat) (k4 : Int32 × Int32 × (Nat → Nat → Int32) × (Nat → Nat → Int64) → Option ((Int32) × zS)) (k19 : Int32 × Int32 × (Nat → Nat → Int32) × (Nat → Nat → Int64) → Option ((Int32) × zS)) (v2 : Int32) (v3 : Int32) (v4 : Int32) (g : Nat → Nat → Int32) (L : Nat → Nat → Int64) : Option ((Int32) × zS) :=
  fX1_firstClash_8_p58 fu k4 k19 v4 v2 v3 g L
def fX1_firstClash_8_s19 (fu : Nat) (k4 : Int32 × Int32 × (Nat → Nat → Int32) × (Nat → Nat → Int64) → Option ((Int32) × zS)) (v2 : Int32) (k19 : Int32 × Int32 × (Nat → Nat → Int32) × (Nat → Nat → Int64) → Option ((Int32) × zS)) (v1 : Int32) (v3 : Int32) (g : Nat → Nat → Int32) (L : Nat → Nat → Int64) : Option ((Int32) × zS) :=
  if (g 1 2) ≤ v3 then k4 (v1, (v2 + 1), g, L)
  else cb (fX1_clashOf_8 fu v2 v3 g L) (fun x4 g5 L6 =>
  if (x4 : Int32) = (-1) then fX1_firstClash_8_p58 fu k4 k19 v1 v2 v3 g5 L6
  else if (v1 : Int32) = (-1) then fX1_firstClash_8_p55 fu k4 k19 v2 v3 x4 g5 L6
  else if v1 ≤ (x4 : Int32) then fX1_firstClash_8_p58 fu k4 k19 v1 v2 v3 g5 L6
  else fX1_firstClash_8_p55 fu k4 k19 v2 v3 x4 g5 L6)
def fX1_firstClash_8_l19 (fu : Nat) (k4 : Int32 × Int32 × (Nat → Nat → Int32) × (Nat → Nat → Int64) → Option ((Int32) × zS)) (v2 : Int32) (v1 : Int32) (v3 : Int32) (g : Nat → Nat → Int32) (L : Nat → Nat → Int64) : Option ((Int32) × zS) :=
  whileK (fun k v => fX1_firstClash_8_s19 fu k4 v2 k v.1 v.2.1 v.2.2.1 v.2.2.2) fu (v1, v3, g, L)
def fX1_firstClash_8_s4 (fu : Nat) (k4 : Int32 × Int32 × (Nat → Nat → Int32) × (Nat → Nat → Int64) → Option ((Int32) × zS)) (v1 : Int32) (v2 : Int32) (g : Nat → Nat → Int32) (L : Nat → Nat → Int64) : Option ((Int32) × zS) :=
  if (g 1 2) ≤ v2 then some (v1, (g, L))
  else lti (v2 + 1) (fun x2 =>
  fX1_firstClash_8_l19 fu k4 v2 v1 x2 g L)
def fX1_firstClash_8_l4 (fu : Nat) (v1 : Int32) (v2 : Int32) (g : Nat → Nat → Int32) (L : Nat → Nat → Int64) : Option ((Int32) × zS) :=
  whileK (fun k v => fX1_firstClash_8_s4 fu k v.1 v.2.1 v.2.2.1 v.2.2.2) fu (v1, v2, g, L)
def fX1_firstClash_8 (fu : Nat) (g : Nat → Nat → Int32) (L : Nat → Nat → Int64) : Option ((Int32) × zS) :=
  fX1_firstClash_8_l4 fu (-1) 0 g L
set_option maxHeartbeats 4000000 in
set_option maxRecDepth 100000 in
theorem rX1_firstClash_8 (l : Launch) (G : kG) (sz : Nat) (b : Nat) (a : Nat → Nat) (fu : Nat) (g : Nat → Nat → Int32) (L : Nat → Nat → Int64) (res : Int32) (s9 : zS) (h : fX1_firstClash_8 fu g L = some (res, s9)) : kM l yX1_firstClash cX1_firstClash 5 (some .int) { frames := 7, cells := 0, slots := 0, locals := 134 } G [.ref (a 8)] (zw G (XS b) 105 a g L) sz (kQi G (S := Unit) (fun r' _ => r' = res) (fun _ => zw G (XS b) 105 a s9.1 s9.2)) := by
  refine kM.of (by decide) (Nat.le_of_ble_eq_true rfl) ?_
  intro p e s m below meth c A ls H C hr hlk hnm hP hD hS hl
  have C : kC G p s m c cX1_firstClash 5 RX1 A := C
  have hx := C.1
  have hb := C.2.1
  have hl : lv_has ls 5 [(0, .ref (a 8))] := hl
  obtain ⟨locs, hlocs⟩ : ∃ q : List Loc, q = [] := ⟨_, rfl⟩
  rw [← hlocs] at hS
  rw [← hlocs]
  unfold fX1_firstClash_8 at h
  refine lv_iconst (v := -1) hx hb dX1_firstClash_0 (by decide) ?_
  refine lv_istore_n (lv' := [(1, .int (-1)), (0, .ref (a 8))]) hx hb dX1_firstClash_1 rfl hl (by decide) rfl (fun ls hl => ?_)
  refine lv_iconst (v := 0) hx hb dX1_firstClash_2 (by decide) ?_
  refine lv_istore_n (lv' := [(2, .int 0), (1, .int (-1)), (0, .ref (a 8))]) hx hb dX1_firstClash_3 rfl hl (by decide) rfl (fun ls hl => ?_)
  have lp4 : ∀ (_ : True), ∀ (n : Nat) (v : Int32 × Int32 × (Nat → Nat → Int32) × (Nat → Nat → Int64)), whileK (fun k v => fX1_firstClash_8_s4 fu k v.1 v.2.1 v.2.2.1 v.2.2.2) n v = some (res, s9) → ∀ (H : Heap) (locs : List Loc) (ls : Array Slot), va_P G.1 vwCl (zw G (XS b) 105 a (v.2.2.1) (v.2.2.2)) H → va_D A (zw G (XS b) 105 a (v.2.2.1) (v.2.2.2)) → va_S A s.heap H locs → lv_has ls 5 [(0, .ref (a 8)), (1, .int (v.1)), (2, .int (v.2.1))] → W p l e { frames := 7, cells := 0, slots := 0, locals := 134 } s m [.ref (a 8)].toArray below meth c H locs 0 0 (MQ below ((kQi G (S := Unit) (fun r' _ => r' = res) (fun _ => zw G (XS b) 105 a s9.1 s9.2)) A) [.ref (a 8)].toArray s 0 0 A) (F0 m 4 ls []) := by
    intro _
    refine while_ind (fun k4 ih4 v h => ?_)
    obtain ⟨v1, v2, g, L⟩ := v
    intro H locs ls hP hD hS hl
    have h : fX1_firstClash_8_s4 fu k4 v1 v2 g L = some (res, s9) := h
    have hP : va_P G.1 vwCl (zw G (XS b) 105 a g L) H := hP
    have hD : va_D A (zw G (XS b) 105 a g L) := hD
    have hl : lv_has ls 5 [(0, .ref (a 8)), (1, .int v1), (2, .int v2)] := hl
    show W p l e { frames := 7, cells := 0, slots := 0, locals := 134 } s m [.ref (a 8)].toArray below meth c H locs 0 0 (MQ below ((kQi G (S := Unit) (fun r' _ => r' = res) (fun _ => zw G (XS b) 105 a s9.1 s9.2)) A) [.ref (a 8)].toArray s 0 0 A) (F0 m 4 ls [])
    unfold fX1_firstClash_8_s4 at h
    refine lv_iload_n hx hb dX1_firstClash_4 rfl (lv_at hl 2 rfl) ?_
    refine lv_aload_n hx hb dX1_firstClash_5 rfl (lv_at hl 0 rfl) ?_
    refine x_getr (Or.inl fl_X1_37) C hP (by decide) xs_8 rfl dX1_firstClash_6 ?_
    refine x_getv (v := .int (g 1 2)) (Or.inr fl_X1_45) C hP (by decide) xs_1 rfl dX1_firstClash_9 ?_
    refine lv_icmp_ge (x := v2) (y := (g 1 2)) (tgt := 70) hx hb dX1_firstClash_12 (by decide) (fun c1 => ?_) (fun c1 => ?_)
    ·
      have h := ite_t c1 h
      refine lv_iload_n hx hb dX1_firstClash_70 rfl (lv_at hl 1 rfl) ?_
      exact y_iret C hr hlk hP hD hS h (Nat.le_of_ble_eq_true rfl) (Nat.le_of_ble_eq_true rfl) dX1_firstClash_71
    ·
      have h := ite_e c1 h
      refine lv_iload_n hx hb dX1_firstClash_15 rfl (lv_at hl 2 rfl) ?_
      refine lv_iconst (v := 1) hx hb dX1_firstClash_16 (by decide) ?_
      refine lv_iadd hx hb dX1_firstClash_17 ?_
      refine y_let h (fun x2 h => ?_)
      refine lv_istore_n (lv' := [(3, .int x2), (0, .ref (a 8)), (1, .int v1), (2, .int v2)]) hx hb dX1_firstClash_18 rfl hl (by decide) rfl (fun ls hl => ?_)
      have lp19 : ∀ (v2 : Int32), ∀ (n : Nat) (v : Int32 × Int32 × (Nat → Nat → Int32) × (Nat → Nat → Int64)), whileK (fun k v => fX1_firstClash_8_s19 fu k4 v2 k v.1 v.2.1 v.2.2.1 v.2.2.2) n v = some (res, s9) → ∀ (H : Heap) (locs : List Loc) (ls : Array Slot), va_P G.1 vwCl (zw G (XS b) 105 a (v.2.2.1) (v.2.2.2)) H → va_D A (zw G (XS b) 105 a (v.2.2.1) (v.2.2.2)) → va_S A s.heap H locs → lv_has ls 5 [(0, .ref (a 8)), (1, .int (v.1)), (2, .int v2), (3, .int (v.2.1))] → W p l e { frames := 7, cells := 0, slots := 0, locals := 134 } s m [.ref (a 8)].toArray below meth c H locs 0 0 (MQ below ((kQi G (S := Unit) (fun r' _ => r' = res) (fun _ => zw G (XS b) 105 a s9.1 s9.2)) A) [.ref (a 8)].toArray s 0 0 A) (F0 m 19 ls []) := by
        intro v2
        refine while_ind (fun k19 ih19 v h => ?_)
        obtain ⟨v1, v3, g, L⟩ := v
        intro H locs ls hP hD hS hl
        have h : fX1_firstClash_8_s19 fu k4 v2 k19 v1 v3 g L = some (res, s9) := h
        have hP : va_P G.1 vwCl (zw G (XS b) 105 a g L) H := hP
        have hD : va_D A (zw G (XS b) 105 a g L) := hD
        have hl : lv_has ls 5 [(0, .ref (a 8)), (1, .int v1), (2, .int v2), (3, .int v3)] := hl
        show W p l e { frames := 7, cells := 0, slots := 0, locals := 134 } s m [.ref (a 8)].toArray below meth c H locs 0 0 (MQ below ((kQi G (S := Unit) (fun r' _ => r' = res) (fun _ => zw G (XS b) 105 a s9.1 s9.2)) A) [.ref (a 8)].toArray s 0 0 A) (F0 m 19 ls [])
        unfold fX1_firstClash_8_s19 at h
        refine lv_iload_n hx hb dX1_firstClash_19 rfl (lv_at hl 3 rfl) ?_
        refine lv_aload_n hx hb dX1_firstClash_20 rfl (lv_at hl 0 rfl) ?_
        refine x_getr (Or.inl fl_X1_37) C hP (by decide) xs_8 rfl dX1_firstClash_21 ?_
        refine x_getv (v := .int (g 1 2)) (Or.inr fl_X1_45) C hP (by decide) xs_1 rfl dX1_firstClash_24 ?_
        refine lv_icmp_ge (x := v3) (y := (g 1 2)) (tgt := 64) hx hb dX1_firstClash_27 (by decide) (fun c3 => ?_) (fun c3 => ?_)
        ·
          have h := ite_t c3 h
          refine lv_iinc (v := (v2 + 1)) (lv' := [(2, .int (v2 + 1)), (0, .ref (a 8)), (1, .int v1), (3, .int v3)]) hx hb dX1_firstClash_64 hl (k := 2) rfl rfl (by decide) rfl (fun ls hl => ?_)
          refine lv_goto (tgt := 4) hx hb dX1_firstClash_67 (by decide) ?_
          exact ih4 (v1, (v2 + 1), g, L) h H locs ls hP hD hS (lv_sub hl [1, 2, 0] rfl)
        ·
          have h := ite_e c3 h
          refine lv_aload_n hx hb dX1_firstClash_30 rfl (lv_at hl 0 rfl) ?_
          refine lv_iload_n hx hb dX1_firstClash_31 rfl (lv_at hl 2 rfl) ?_
          refine lv_iload_n hx hb dX1_firstClash_32 rfl (lv_at hl 3 rfl) ?_
          obtain ⟨z_, g5, L6, hf7, h⟩ := cb_some h
          refine x_callVi (rest := []) li_X1_159 C (rX1_clashOf_8 l G H.size b a fu g L v2 v3 z_ (g5, L6) hf7) (kR rfl) hP hD hS 8 1 rfl (zat (by decide) xs_8) rfl hl.1 rfl (Nat.le_of_ble_eq_true rfl) dX1_firstClash_33 (fun x4 u_ H locs e_ hP hD hS => ?_)
          have e_ : x4 = z_ := e_
          subst e_
          have hP : va_P G.1 vwCl (zw G (XS b) 105 a g5 L6) H := hP
          have hD : va_D A (zw G (XS b) 105 a g5 L6) := hD
          refine lv_istore (lv' := [(4, .int x4), (0, .ref (a 8)), (1, .int v1), (2, .int v2), (3, .int v3)]) hx hb dX1_firstClash_36 hl (by decide) rfl (fun ls hl => ?_)
          refine lv_iload hx hb dX1_firstClash_38 (lv_at hl 0 rfl) ?_
          refine lv_iconst (v := -1) hx hb dX1_firstClash_40 (by decide) ?_
          have J58 : ∀ (v1 : Int32) (v3 : Int32) (g : Nat → Nat → Int32) (L : Nat → Nat → Int64) (H : Heap) (locs : List Loc) (ls : Array Slot), fX1_firstClash_8_p58 fu k4 k19 v1 v2 v3 g L = some (res, s9) → va_P G.1 vwCl (zw G (XS b) 105 a g L) H → va_D A (zw G (XS b) 105 a g L) → va_S A s.heap H locs → lv_has ls 5 [(0, .ref (a 8)), (1, .int v1), (2, .int v2), (3, .int v3)] → W p l e { frames := 7, cells := 0, slots := 0, locals := 134 } s m [.ref (a 8)].toArray below meth c H locs 0 0 (MQ below ((kQi G (S := Unit) (fun r' _ => r' = res) (fun _ => zw G (XS b) 105 a s9.1 s9.2)) A) [.ref (a 8)].toArray s 0 0 A) (F0 m 58 ls []) := by
            intro v1 v3 g L H locs ls h hP hD hS hl
            unfold fX1_firstClash_8_p58 at h
            refine lv_iinc (v := (v3 + 1)) (lv' := [(3, .int (v3 + 1)), (0, .ref (a 8)), (1, .int v1), (2, .int v2)]) hx hb dX1_firstClash_58 hl (k := 3) rfl rfl (by decide) rfl (fun ls hl => ?_)
            refine lv_goto (tgt := 19) hx hb dX1_firstClash_61 (by decide) ?_
            exact ih19 (v1, (v3 + 1), g, L) h H locs ls hP hD hS (lv_sub hl [1, 2, 3, 0] rfl)
          refine lv_icmp_eq (x := x4) (y := (-1)) (tgt := 58) hx hb dX1_firstClash_41 (by decide) (fun c8 => ?_) (fun c8 => ?_)
          ·
            have h := ite_t c8 h
            exact J58 v1 v3 g5 L6 H locs ls h hP hD hS (lv_sub hl [1, 2, 3, 4] rfl)
          ·
            have h := ite_e c8 h
            refine lv_iload_n hx hb dX1_firstClash_44 rfl (lv_at hl 2 rfl) ?_
            refine lv_iconst (v := -1) hx hb dX1_firstClash_45 (by decide) ?_
            have J55 : ∀ (v3 : Int32) (v4 : Int32) (g : Nat → Nat → Int32) (L : Nat → Nat → Int64) (H : Heap) (locs : List Loc) (ls : Array Slot), fX1_firstClash_8_p55 fu k4 k19 v2 v3 v4 g L = some (res, s9) → va_P G.1 vwCl (zw G (XS b) 105 a g L) H → va_D A (zw G (XS b) 105 a g L) → va_S A s.heap H locs → lv_has ls 5 [(0, .ref (a 8)), (2, .int v2), (3, .int v3), (4, .int v4)] → W p l e { frames := 7, cells := 0, slots := 0, locals := 134 } s m [.ref (a 8)].toArray below meth c H locs 0 0 (MQ below ((kQi G (S := Unit) (fun r' _ => r' = res) (fun _ => zw G (XS b) 105 a s9.1 s9.2)) A) [.ref (a 8)].toArray s 0 0 A) (F0 m 55 ls []) := by
              intro v3 v4 g L H locs ls h hP hD hS hl
              unfold fX1_firstClash_8_p55 at h
              refine lv_iload hx hb dX1_firstClash_55 (lv_at hl 3 rfl) ?_
              refine lv_istore_n (lv' := [(1, .int v4), (0, .ref (a 8)), (2, .int v2), (3, .int v3), (4, .int v4)]) hx hb dX1_firstClash_57 rfl hl (by decide) rfl (fun ls hl => ?_)
              exact J58 v4 v3 g L H locs ls h hP hD hS (lv_sub hl [1, 0, 2, 3] rfl)
            refine lv_icmp_eq (x := v1) (y := (-1)) (tgt := 55) hx hb dX1_firstClash_46 (by decide) (fun c9 => ?_) (fun c9 => ?_)
            ·
              have h := ite_t c9 h
              exact J55 v3 x4 g5 L6 H locs ls h hP hD hS (lv_sub hl [1, 3, 4, 0] rfl)
            ·
              have h := ite_e c9 h
              refine lv_iload hx hb dX1_firstClash_49 (lv_at hl 0 rfl) ?_
              refine lv_iload_n hx hb dX1_firstClash_51 rfl (lv_at hl 2 rfl) ?_
              refine lv_icmp_ge (x := x4) (y := v1) (tgt := 58) hx hb dX1_firstClash_52 (by decide) (fun c10 => ?_) (fun c10 => ?_)
              ·
                have h := ite_t c10 h
                exact J58 v1 v3 g5 L6 H locs ls h hP hD hS (lv_sub hl [1, 2, 3, 4] rfl)
              ·
                have h := ite_e c10 h
                exact J55 v3 x4 g5 L6 H locs ls h hP hD hS (lv_sub hl [1, 3, 4, 0] rfl)
      exact lp19 v2 fu (v1, x2, g, L) h H locs ls hP hD hS (lv_sub hl [1, 2, 3, 0] rfl)
  exact lp4 trivial fu ((-1), 0, g, L) h H locs ls hP hD hS (lv_sub hl [2, 1, 0] rfl)
def fX1_idleMinutes_8_s28 (fu : Nat) (k4 : Int32 × Int32 × (Nat → Nat → Int32) × (Nat → Nat → Int64) → Option ((Int32) × zS)) (v2 : Int32) (q3_ : Nat) (k28 : Int32 × Int32 × (Nat → Nat → Int32) × (Nat → Nat → Int64) → Option ((Int32) × zS)) (v1 : Int32) (v4 : Int32) (g : Nat → Nat → Int32) (L : Nat → Nat → Int64) : Option ((Int32) × zS) :=
  if (g q3_ 1) ≤ v4 then k4 (v1, (v2 + 1), g, L)
  else ck v4 6 (
  lti (g (q3_ + 24) (Int32.toNatClampNeg v4)) (fun x4 =>
  ck x4 12 (
  cb (fX1_way_8 fu x4 v2 g L) (fun x5 g6 L7 =>
  ck v2 12 (
  lti (((g 44 (Int32.toNatClampNeg x4)) + x5) - (g6 26 (Int32.toNatClampNeg v2))) (fun x9 =>
  ck x4 12 (ltn (57 + (Int32.toNatClampNeg x4) % 12) (fun q10 =>
  ck v2 12 (
  lti (v1 + ((g6 q10 8) * (if 0 < ((g6 43 (Int32.toNatClampNeg v2)) - x9) then ((g6 43 (Int32.toNatClampNeg v2)) - x9) else 0))) (fun x11 =>
  k28 (x11, (v4 + 1), g6, L7)))))))))))
def fX1_idleMinutes_8_l28 (fu : Nat) (k4 : Int32 × Int32 × (Nat → Nat → Int32) × (Nat → Nat → Int64) → Option ((Int32) × zS)) (v2 : Int32) (q3_ : Nat) (v1 : Int32) (v4 : Int32) (g : Nat → Nat → Int32) (L : Nat → Nat → Int64) : Option ((Int32) × zS) :=
  whileK (fun k v => fX1_idleMinutes_8_s28 fu k4 v2 q3_ k v.1 v.2.1 v.2.2.1 v.2.2.2) fu (v1, v4, g, L)
def fX1_idleMinutes_8_s4 (fu : Nat) (k4 : Int32 × Int32 × (Nat → Nat → Int32) × (Nat → Nat → Int64) → Option ((Int32) × zS)) (v1 : Int32) (v2 : Int32) (g : Nat → Nat → Int32) (L : Nat → Nat → Int64) : Option ((Int32) × zS) :=
  if (g 1 2) ≤ v2 then some (v1, (g, L))
  else ck v2 12 (ltn (57 + (Int32.toNatClampNeg v2) % 12) (fun q2 =>
  fX1_idleMinutes_8_l28 fu k4 v2 q2 v1 0 g L))
def fX1_idleMinutes_8_l4 (fu : Nat) (v1 : Int32) (v2 : Int32) (g : Nat → Nat → Int32) (L : Nat → Nat → Int64) : Option ((Int32) × zS) :=
  whileK (fun k v => fX1_idleMinutes_8_s4 fu k v.1 v.2.1 v.2.2.1 v.2.2.2) fu (v1, v2, g, L)
def fX1_idleMinutes_8 (fu : Nat) (g : Nat → Nat → Int32) (L : Nat → Nat → Int64) : Option ((Int32) × zS) :=
  fX1_idleMinutes_8_l4 fu 0 0 g L
set_option maxHeartbeats 4000000 in
set_option maxRecDepth 100000 in
theorem rX1_idleMinutes_8 (l : Launch) (G : kG) (sz : Nat) (b : Nat) (a : Nat → Nat) (fu : Nat) (g : Nat → Nat → Int32) (L : Nat → Nat → Int64) (res : Int32) (s9 : zS) (h : fX1_idleMinutes_8 fu g L = some (res, s9)) : kM l yX1_idleMinutes cX1_idleMinutes 7 (some .int) { frames := 8, cells := 0, slots := 0, locals := 154 } G [.ref (a 8)] (zw G (XS b) 105 a g L) sz (kQi G (S := Unit) (fun r' _ => r' = res) (fun _ => zw G (XS b) 105 a s9.1 s9.2)) := by
  refine kM.of (by decide) (Nat.le_of_ble_eq_true rfl) ?_
  intro p e s m below meth c A ls H C hr hlk hnm hP hD hS hl
  have C : kC G p s m c cX1_idleMinutes 7 RX1 A := C
  have hx := C.1
  have hb := C.2.1
  have hl : lv_has ls 7 [(0, .ref (a 8))] := hl
  obtain ⟨locs, hlocs⟩ : ∃ q : List Loc, q = [] := ⟨_, rfl⟩
  rw [← hlocs] at hS
  rw [← hlocs]
  unfold fX1_idleMinutes_8 at h
  refine lv_iconst (v := 0) hx hb dX1_idleMinutes_0 (by decide) ?_
  refine lv_istore_n (lv' := [(1, .int 0), (0, .ref (a 8))]) hx hb dX1_idleMinutes_1 rfl hl (by decide) rfl (fun ls hl => ?_)
  refine lv_iconst (v := 0) hx hb dX1_idleMinutes_2 (by decide) ?_
  refine lv_istore_n (lv' := [(2, .int 0), (1, .int 0), (0, .ref (a 8))]) hx hb dX1_idleMinutes_3 rfl hl (by decide) rfl (fun ls hl => ?_)
  have lp4 : ∀ (_ : True), ∀ (n : Nat) (v : Int32 × Int32 × (Nat → Nat → Int32) × (Nat → Nat → Int64)), whileK (fun k v => fX1_idleMinutes_8_s4 fu k v.1 v.2.1 v.2.2.1 v.2.2.2) n v = some (res, s9) → ∀ (H : Heap) (locs : List Loc) (ls : Array Slot), va_P G.1 vwCl (zw G (XS b) 105 a (v.2.2.1) (v.2.2.2)) H → va_D A (zw G (XS b) 105 a (v.2.2.1) (v.2.2.2)) → va_S A s.heap H locs → lv_has ls 7 [(0, .ref (a 8)), (1, .int (v.1)), (2, .int (v.2.1))] → W p l e { frames := 8, cells := 0, slots := 0, locals := 154 } s m [.ref (a 8)].toArray below meth c H locs 0 0 (MQ below ((kQi G (S := Unit) (fun r' _ => r' = res) (fun _ => zw G (XS b) 105 a s9.1 s9.2)) A) [.ref (a 8)].toArray s 0 0 A) (F0 m 4 ls []) := by
    intro _
    refine while_ind (fun k4 ih4 v h => ?_)
    obtain ⟨v1, v2, g, L⟩ := v
    intro H locs ls hP hD hS hl
    have h : fX1_idleMinutes_8_s4 fu k4 v1 v2 g L = some (res, s9) := h
    have hP : va_P G.1 vwCl (zw G (XS b) 105 a g L) H := hP
    have hD : va_D A (zw G (XS b) 105 a g L) := hD
    have hl : lv_has ls 7 [(0, .ref (a 8)), (1, .int v1), (2, .int v2)] := hl
    show W p l e { frames := 8, cells := 0, slots := 0, locals := 154 } s m [.ref (a 8)].toArray below meth c H locs 0 0 (MQ below ((kQi G (S := Unit) (fun r' _ => r' = res) (fun _ => zw G (XS b) 105 a s9.1 s9.2)) A) [.ref (a 8)].toArray s 0 0 A) (F0 m 4 ls [])
    unfold fX1_idleMinutes_8_s4 at h
    refine lv_iload_n hx hb dX1_idleMinutes_4 rfl (lv_at hl 2 rfl) ?_
    refine lv_aload_n hx hb dX1_idleMinutes_5 rfl (lv_at hl 0 rfl) ?_
    refine x_getr (Or.inl fl_X1_37) C hP (by decide) xs_8 rfl dX1_idleMinutes_6 ?_
    refine x_getv (v := .int (g 1 2)) (Or.inr fl_X1_45) C hP (by decide) xs_1 rfl dX1_idleMinutes_9 ?_
    refine lv_icmp_ge (x := v2) (y := (g 1 2)) (tgt := 115) hx hb dX1_idleMinutes_12 (by decide) (fun c1 => ?_) (fun c1 => ?_)
    ·
      have h := ite_t c1 h
      refine lv_iload_n hx hb dX1_idleMinutes_115 rfl (lv_at hl 1 rfl) ?_
      exact y_iret C hr hlk hP hD hS h (Nat.le_of_ble_eq_true rfl) (Nat.le_of_ble_eq_true rfl) dX1_idleMinutes_116
    ·
      have h := ite_e c1 h
      refine lv_aload_n hx hb dX1_idleMinutes_15 rfl (lv_at hl 0 rfl) ?_
      refine x_getr (Or.inl fl_X1_37) C hP (by decide) xs_8 rfl dX1_idleMinutes_16 ?_
      refine x_getr (Or.inr fl_X1_58) C hP (by decide) xs_1 rfl dX1_idleMinutes_19 ?_
      refine lv_iload_n hx hb dX1_idleMinutes_22 rfl (lv_at hl 2 rfl) ?_
      refine y_aald (t := 57) C hP (by decide) xs_17 dX1_idleMinutes_23 h (fun q2 q2l q2h h => ?_)
      refine lv_astore_n (lv' := [(3, .ref (a q2)), (0, .ref (a 8)), (1, .int v1), (2, .int v2)]) hx hb dX1_idleMinutes_24 rfl hl (by decide) rfl (fun ls hl => ?_)
      refine lv_iconst (v := 0) hx hb dX1_idleMinutes_25 (by decide) ?_
      refine lv_istore (lv' := [(4, .int 0), (3, .ref (a q2)), (0, .ref (a 8)), (1, .int v1), (2, .int v2)]) hx hb dX1_idleMinutes_26 hl (by decide) rfl (fun ls hl => ?_)
      have lp28 : ∀ (v2 : Int32) (q3_ : Nat), 57 ≤ q3_ → q3_ < 81 → ∀ (n : Nat) (v : Int32 × Int32 × (Nat → Nat → Int32) × (Nat → Nat → Int64)), whileK (fun k v => fX1_idleMinutes_8_s28 fu k4 v2 q3_ k v.1 v.2.1 v.2.2.1 v.2.2.2) n v = some (res, s9) → ∀ (H : Heap) (locs : List Loc) (ls : Array Slot), va_P G.1 vwCl (zw G (XS b) 105 a (v.2.2.1) (v.2.2.2)) H → va_D A (zw G (XS b) 105 a (v.2.2.1) (v.2.2.2)) → va_S A s.heap H locs → lv_has ls 7 [(0, .ref (a 8)), (1, .int (v.1)), (2, .int v2), (3, .ref (a q3_)), (4, .int (v.2.1))] → W p l e { frames := 8, cells := 0, slots := 0, locals := 154 } s m [.ref (a 8)].toArray below meth c H locs 0 0 (MQ below ((kQi G (S := Unit) (fun r' _ => r' = res) (fun _ => zw G (XS b) 105 a s9.1 s9.2)) A) [.ref (a 8)].toArray s 0 0 A) (F0 m 28 ls []) := by
        intro v2 q3_ q3_l q3_h
        refine while_ind (fun k28 ih28 v h => ?_)
        obtain ⟨v1, v4, g, L⟩ := v
        intro H locs ls hP hD hS hl
        have h : fX1_idleMinutes_8_s28 fu k4 v2 q3_ k28 v1 v4 g L = some (res, s9) := h
        have hP : va_P G.1 vwCl (zw G (XS b) 105 a g L) H := hP
        have hD : va_D A (zw G (XS b) 105 a g L) := hD
        have hl : lv_has ls 7 [(0, .ref (a 8)), (1, .int v1), (2, .int v2), (3, .ref (a q3_)), (4, .int v4)] := hl
        show W p l e { frames := 8, cells := 0, slots := 0, locals := 154 } s m [.ref (a 8)].toArray below meth c H locs 0 0 (MQ below ((kQi G (S := Unit) (fun r' _ => r' = res) (fun _ => zw G (XS b) 105 a s9.1 s9.2)) A) [.ref (a 8)].toArray s 0 0 A) (F0 m 28 ls [])
        unfold fX1_idleMinutes_8_s28 at h
        refine lv_iload hx hb dX1_idleMinutes_28 (lv_at hl 4 rfl) ?_
        refine lv_aload_n hx hb dX1_idleMinutes_30 rfl (lv_at hl 3 rfl) ?_
        refine x_getv (v := .int (g q3_ 1)) (Or.inr fl_X1_87) C hP (by omega) (xs_les (by omega) (by omega)) rfl dX1_idleMinutes_31 ?_
        refine lv_icmp_ge (x := v4) (y := (g q3_ 1)) (tgt := 109) hx hb dX1_idleMinutes_34 (by decide) (fun c3 => ?_) (fun c3 => ?_)
        ·
          have h := ite_t c3 h
          refine lv_iinc (v := (v2 + 1)) (lv' := [(2, .int (v2 + 1)), (0, .ref (a 8)), (1, .int v1), (3, .ref (a q3_)), (4, .int v4)]) hx hb dX1_idleMinutes_109 hl (k := 2) rfl rfl (by decide) rfl (fun ls hl => ?_)
          refine lv_goto (tgt := 4) hx hb dX1_idleMinutes_112 (by decide) ?_
          exact ih4 (v1, (v2 + 1), g, L) h H locs ls hP hD hS (lv_sub hl [1, 2, 0] rfl)
        ·
          have h := ite_e c3 h
          refine lv_aload_n hx hb dX1_idleMinutes_37 rfl (lv_at hl 3 rfl) ?_
          refine x_getr (Or.inr fl_X1_90) C hP (by omega) (xs_les (by omega) (by omega)) rfl dX1_idleMinutes_38 ?_
          refine lv_iload hx hb dX1_idleMinutes_41 (lv_at hl 4 rfl) ?_
          refine y_ald C hP (by omega) (xs_wai (by omega)) dX1_idleMinutes_43 h (fun h => ?_)
          refine y_let h (fun x4 h => ?_)
          refine lv_istore (lv' := [(5, .int x4), (0, .ref (a 8)), (1, .int v1), (2, .int v2), (3, .ref (a q3_)), (4, .int v4)]) hx hb dX1_idleMinutes_44 hl (by decide) rfl (fun ls hl => ?_)
          refine lv_aload_n hx hb dX1_idleMinutes_46 rfl (lv_at hl 1 rfl) ?_
          refine x_getr (Or.inl fl_X1_15) C hP (by decide) xs_8 rfl dX1_idleMinutes_47 ?_
          refine lv_iload hx hb dX1_idleMinutes_50 (lv_at hl 0 rfl) ?_
          refine y_ald C hP (by decide) xs_44 dX1_idleMinutes_52 h (fun h => ?_)
          refine lv_aload_n hx hb dX1_idleMinutes_53 rfl (lv_at hl 1 rfl) ?_
          refine lv_iload hx hb dX1_idleMinutes_54 (lv_at hl 0 rfl) ?_
          refine lv_iload_n hx hb dX1_idleMinutes_56 rfl (lv_at hl 3 rfl) ?_
          obtain ⟨z_, g6, L7, hf8, h⟩ := cb_some h
          refine x_callVi (rest := [.int (g 44 (Int32.toNatClampNeg x4))]) li_X1_93 C (rX1_way_8 l G H.size b a fu g L x4 v2 z_ (g6, L7) hf8) (kR rfl) hP hD hS 8 1 rfl (zat (by decide) xs_8) rfl hl.1 rfl (Nat.le_of_ble_eq_true rfl) dX1_idleMinutes_57 (fun x5 u_ H locs e_ hP hD hS => ?_)
          have e_ : x5 = z_ := e_
          subst e_
          have hP : va_P G.1 vwCl (zw G (XS b) 105 a g6 L7) H := hP
          have hD : va_D A (zw G (XS b) 105 a g6 L7) := hD
          refine lv_iadd hx hb dX1_idleMinutes_60 ?_
          refine lv_aload_n hx hb dX1_idleMinutes_61 rfl (lv_at hl 1 rfl) ?_
          refine x_getr (Or.inl fl_X1_41) C hP (by decide) xs_8 rfl dX1_idleMinutes_62 ?_
          refine x_getr (Or.inr fl_X1_96) C hP (by decide) xs_6 rfl dX1_idleMinutes_65 ?_
          refine lv_iload_n hx hb dX1_idleMinutes_68 rfl (lv_at hl 3 rfl) ?_
          refine y_ald C hP (by decide) xs_26 dX1_idleMinutes_69 h (fun h => ?_)
          refine lv_isub hx hb dX1_idleMinutes_70 ?_
          refine y_let h (fun x9 h => ?_)
          refine lv_istore (lv' := [(6, .int x9), (5, .int x4), (0, .ref (a 8)), (1, .int v1), (2, .int v2), (3, .ref (a q3_)), (4, .int v4)]) hx hb dX1_idleMinutes_71 hl (by decide) rfl (fun ls hl => ?_)
          refine lv_iload_n hx hb dX1_idleMinutes_73 rfl (lv_at hl 3 rfl) ?_
          refine lv_aload_n hx hb dX1_idleMinutes_74 rfl (lv_at hl 2 rfl) ?_
          refine x_getr (Or.inl fl_X1_37) C hP (by decide) xs_8 rfl dX1_idleMinutes_75 ?_
          refine x_getr (Or.inr fl_X1_58) C hP (by decide) xs_1 rfl dX1_idleMinutes_78 ?_
          refine lv_iload hx hb dX1_idleMinutes_81 (lv_at hl 1 rfl) ?_
          refine y_aald (t := 57) C hP (by decide) xs_17 dX1_idleMinutes_83 h (fun q10 q10l q10h h => ?_)
          refine x_getv (v := .int (g6 q10 8)) (Or.inr fl_X1_134) C hP (by omega) (xs_les (by omega) (by omega)) rfl dX1_idleMinutes_84 ?_
          refine lv_iconst (v := 0) hx hb dX1_idleMinutes_87 (by decide) ?_
          refine lv_aload_n hx hb dX1_idleMinutes_88 rfl (lv_at hl 2 rfl) ?_
          refine x_getr (Or.inl fl_X1_9) C hP (by decide) xs_8 rfl dX1_idleMinutes_89 ?_
          refine lv_iload_n hx hb dX1_idleMinutes_92 rfl (lv_at hl 4 rfl) ?_
          refine y_ald C hP (by decide) xs_43 dX1_idleMinutes_93 h (fun h => ?_)
          refine lv_iload hx hb dX1_idleMinutes_94 (lv_at hl 0 rfl) ?_
          refine lv_isub hx hb dX1_idleMinutes_96 ?_
          refine k_max lm_X1_78 C hl.1 (Nat.le_of_ble_eq_true rfl) (Nat.le_of_ble_eq_true rfl) (Nat.le_of_ble_eq_true rfl) (Nat.le_of_ble_eq_true rfl) dX1_idleMinutes_97 ?_
          refine lv_imul hx hb dX1_idleMinutes_100 ?_
          refine lv_iadd hx hb dX1_idleMinutes_101 ?_
          refine y_let h (fun x11 h => ?_)
          refine lv_istore_n (lv' := [(1, .int x11), (6, .int x9), (5, .int x4), (0, .ref (a 8)), (2, .int v2), (3, .ref (a q3_)), (4, .int v4)]) hx hb dX1_idleMinutes_102 rfl hl (by decide) rfl (fun ls hl => ?_)
          refine lv_iinc (v := (v4 + 1)) (lv' := [(4, .int (v4 + 1)), (1, .int x11), (6, .int x9), (5, .int x4), (0, .ref (a 8)), (2, .int v2), (3, .ref (a q3_))]) hx hb dX1_idleMinutes_103 hl (k := 6) rfl rfl (by decide) rfl (fun ls hl => ?_)
          refine lv_goto (tgt := 28) hx hb dX1_idleMinutes_106 (by decide) ?_
          exact ih28 (x11, (v4 + 1), g6, L7) h H locs ls hP hD hS (lv_sub hl [4, 1, 5, 6, 0] rfl)
      exact lp28 v2 q2 (by omega) (by omega) fu (v1, 0, g, L) h H locs ls hP hD hS (lv_sub hl [2, 3, 4, 1, 0] rfl)
  exact lp4 trivial fu (0, 0, g, L) h H locs ls hP hD hS (lv_sub hl [2, 1, 0] rfl)
