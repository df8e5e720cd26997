theorem dX1_isUpstairs_0 : decode cX1_isUpstairs 0 = .ok (.aload_n 0, 1) := by decide +kernel
theorem tw_324 : (Jvm.Cond.laysFinal "MarshBells$Day" "MarshBells$Day" "held" "LMarshBells$Held;") ∈ lw_tbl := tk_2 (List.mem_of_getElem? (i := 84) rfl)
theorem tw_326 : (Jvm.Cond.laysFinal "MarshBells$Day" "MarshBells$Day" "begins" "[I") ∈ lw_tbl := tk_2 (List.mem_of_getElem? (i := 86) rfl)
theorem tw_328 : (Jvm.Cond.laysFinal "MarshBells$Day" "MarshBells$Day" "ends" "[I") ∈ lw_tbl := tk_2 (List.mem_of_getElem? (i := 88) rfl)
theorem tw_330 : (Jvm.Cond.laysFinal "MarshBells$Day" "MarshBells$Day" "runsOver" "[I") ∈ lw_tbl := tk_2 (List.mem_of_getElem? (i := 90) rfl)
theorem tw_332 : (Jvm.Cond.laysFinal "MarshBells$Day" "MarshBells$Day" "byWhom" "[I") ∈ lw_tbl := tk_2 (List.mem_of_getElem? (i := 92) rfl)
theorem tw_334 : (Jvm.Cond.laysFinal "MarshBells$Day" "MarshBells$Day" "comings" "[I") ∈ lw_tbl := tk_2 (List.mem_of_getElem? (i := 94) rfl)
theorem tw_336 : (Jvm.Cond.laysFinal "MarshBells$Day" "MarshBells$Day" "values" "[I") ∈ lw_tbl := tk_2 (List.mem_of_getElem? (i := 96) rfl)
theorem tw_338 : (Jvm.Cond.lays "MarshBells$Day" "MarshBells$Day" "plan" "LMarshBells$Plan;") ∈ lw_tbl := tk_2 (List.mem_of_getElem? (i := 98) rfl)
theorem tw_340 : (Jvm.Cond.lays "MarshBells$Day" "MarshBells$Day" "running" "I") ∈ lw_tbl := tk_2 (List.mem_of_getElem? (i := 100) rfl)
theorem tw_342 : (Jvm.Cond.lays "MarshBells$Day" "MarshBells$Day" "wide" "I") ∈ lw_tbl := tk_2 (List.mem_of_getElem? (i := 102) rfl)
theorem inWX1 : ∀ w ∈ u_ws RX1 TX1 10, w ∈ lw_tbl := by
  have e : ∀ k, k < 10 → u_lay RX1 TX1 k ∈ lw_tbl := fun k hk => match k, hk with | 0, _ => tw_324 | 1, _ => tw_326 | 2, _ => tw_328 | 3, _ => tw_330 | 4, _ => tw_332 | 5, _ => tw_334 | 6, _ => tw_336 | 7, _ => tw_338 | 8, _ => tw_340 | 9, _ => tw_342 | k + 10, hk => absurd hk (by omega)
  intro w h
  obtain ⟨k, hk, rfl⟩ := List.mem_map.mp h
  exact e k (List.mem_range.mp hk)
theorem tw_300 : (Jvm.Cond.fieldLink "MarshBells$Day" (41 : Nat) "MarshBells$Day" "held" "LMarshBells$Held;") ∈ lw_tbl := tk_2 (List.mem_of_getElem? (i := 60) rfl)
theorem fl_X1_41 : kFL RX1 41 1 10 0 := ⟨RX1, TX1, rfl, by decide, inWX1, tw_300⟩
theorem dX1_isUpstairs_1 : decode cX1_isUpstairs 1 = .ok (.getfield 41, 3) := by decide +kernel
theorem tw_267 : (Jvm.Cond.laysFinal "MarshBells$Held" "MarshBells$Held" "overs" "[I") ∈ lw_tbl := tk_2 (List.mem_of_getElem? (i := 27) rfl)
theorem tw_269 : (Jvm.Cond.laysFinal "MarshBells$Held" "MarshBells$Held" "gaps" "[I") ∈ lw_tbl := tk_2 (List.mem_of_getElem? (i := 29) rfl)
theorem tw_271 : (Jvm.Cond.laysFinal "MarshBells$Held" "MarshBells$Held" "rooms" "[I") ∈ lw_tbl := tk_2 (List.mem_of_getElem? (i := 31) rfl)
theorem tw_273 : (Jvm.Cond.laysFinal "MarshBells$Held" "MarshBells$Held" "limits" "[I") ∈ lw_tbl := tk_2 (List.mem_of_getElem? (i := 33) rfl)
theorem tw_275 : (Jvm.Cond.laysFinal "MarshBells$Held" "MarshBells$Held" "actKinds" "[I") ∈ lw_tbl := tk_2 (List.mem_of_getElem? (i := 35) rfl)
theorem tw_277 : (Jvm.Cond.laysFinal "MarshBells$Held" "MarshBells$Held" "actLessons" "[I") ∈ lw_tbl := tk_2 (List.mem_of_getElem? (i := 37) rfl)
theorem tw_279 : (Jvm.Cond.laysFinal "MarshBells$Held" "MarshBells$Held" "actOlds" "[I") ∈ lw_tbl := tk_2 (List.mem_of_getElem? (i := 39) rfl)
theorem tw_281 : (Jvm.Cond.laysFinal "MarshBells$Held" "MarshBells$Held" "seenLessons" "[I") ∈ lw_tbl := tk_2 (List.mem_of_getElem? (i := 41) rfl)
theorem tw_283 : (Jvm.Cond.laysFinal "MarshBells$Held" "MarshBells$Held" "seenLates" "[I") ∈ lw_tbl := tk_2 (List.mem_of_getElem? (i := 43) rfl)
theorem tw_285 : (Jvm.Cond.lays "MarshBells$Held" "MarshBells$Held" "acts" "I") ∈ lw_tbl := tk_2 (List.mem_of_getElem? (i := 45) rfl)
theorem tw_287 : (Jvm.Cond.lays "MarshBells$Held" "MarshBells$Held" "seen" "I") ∈ lw_tbl := tk_2 (List.mem_of_getElem? (i := 47) rfl)
theorem tw_289 : (Jvm.Cond.lays "MarshBells$Held" "MarshBells$Held" "rule" "I") ∈ lw_tbl := tk_2 (List.mem_of_getElem? (i := 49) rfl)
theorem inWX3 : ∀ w ∈ u_ws RX3 TX3 12, w ∈ lw_tbl := by
  have e : ∀ k, k < 12 → u_lay RX3 TX3 k ∈ lw_tbl := fun k hk => match k, hk with | 0, _ => tw_267 | 1, _ => tw_269 | 2, _ => tw_271 | 3, _ => tw_273 | 4, _ => tw_275 | 5, _ => tw_277 | 6, _ => tw_279 | 7, _ => tw_281 | 8, _ => tw_283 | 9, _ => tw_285 | 10, _ => tw_287 | 11, _ => tw_289 | k + 12, hk => absurd hk (by omega)
  intro w h
  obtain ⟨k, hk, rfl⟩ := List.mem_map.mp h
  exact e k (List.mem_range.mp hk)
theorem tw_246 : (Jvm.Cond.fieldLinkNest "MarshBells$Day" (120 : Nat) "MarshBells$Held" "rooms" "[I" "MarshBells") ∈ lw_tbl := tk_2 (List.mem_of_getElem? (i := 6) rfl)
theorem fl_X1_120 : kFN RX1 120 3 12 2 := ⟨RX3, TX3, rfl, by decide, inWX3, tw_246⟩
theorem dX1_isUpstairs_4 : decode cX1_isUpstairs 4 = .ok (.getfield 120, 3) := by decide +kernel
theorem dX1_isUpstairs_7 : decode cX1_isUpstairs 7 = .ok (.iload_n 1, 1) := by decide +kernel
theorem dX1_isUpstairs_8 : decode cX1_isUpstairs 8 = .ok (.iaload, 1) := by decide +kernel
theorem dX1_isUpstairs_9 : decode cX1_isUpstairs 9 = .ok (.iconst 5, 1) := by decide +kernel
theorem dX1_isUpstairs_10 : decode cX1_isUpstairs 10 = .ok (.if_icmp .lt 7, 3) := by decide +kernel
theorem dX1_isUpstairs_17 : decode cX1_isUpstairs 17 = .ok (.iconst 0, 1) := by decide +kernel
theorem dX1_isUpstairs_13 : decode cX1_isUpstairs 13 = .ok (.iconst 1, 1) := by decide +kernel
theorem dX1_isUpstairs_14 : decode cX1_isUpstairs 14 = .ok (.goto 4, 3) := by decide +kernel
theorem dX1_isUpstairs_18 : decode cX1_isUpstairs 18 = .ok (.ireturn, 1) := by decide +kernel
theorem dX1_late_0 : decode cX1_late 0 = .ok (.aload_n 0, 1) := by decide +kernel
theorem tw_303 : (Jvm.Cond.fieldLink "MarshBells$Day" (15 : Nat) "MarshBells$Day" "ends" "[I") ∈ lw_tbl := tk_2 (List.mem_of_getElem? (i := 63) rfl)
theorem fl_X1_15 : kFL RX1 15 1 10 2 := ⟨RX1, TX1, rfl, by decide, inWX1, tw_303⟩
theorem dX1_late_1 : decode cX1_late 1 = .ok (.getfield 15, 3) := by decide +kernel
theorem dX1_late_4 : decode cX1_late 4 = .ok (.iload_n 1, 1) := by decide +kernel
theorem dX1_late_5 : decode cX1_late 5 = .ok (.iaload, 1) := by decide +kernel
theorem dX1_late_6 : decode cX1_late 6 = .ok (.aload_n 0, 1) := by decide +kernel
theorem tw_314 : (Jvm.Cond.fieldLink "MarshBells$Day" (37 : Nat) "MarshBells$Day" "plan" "LMarshBells$Plan;") ∈ lw_tbl := tk_2 (List.mem_of_getElem? (i := 74) rfl)
theorem fl_X1_37 : kFL RX1 37 1 10 7 := ⟨RX1, TX1, rfl, by decide, inWX1, tw_314⟩
theorem dX1_late_7 : decode cX1_late 7 = .ok (.getfield 37, 3) := by decide +kernel
theorem tw_177 : (Jvm.Cond.laysFinal "MarshBells$Plan" "MarshBells$Plan" "lessons" "[LMarshBells$Lesson;") ∈ lw_tbl := tk_1 (List.mem_of_getElem? (i := 177) rfl)
theorem tw_179 : (Jvm.Cond.laysFinal "MarshBells$Plan" "MarshBells$Plan" "rules" "LMarshBells$Rules;") ∈ lw_tbl := tk_1 (List.mem_of_getElem? (i := 179) rfl)
theorem tw_181 : (Jvm.Cond.lays "MarshBells$Plan" "MarshBells$Plan" "lessonCount" "I") ∈ lw_tbl := tk_1 (List.mem_of_getElem? (i := 181) rfl)
theorem tw_183 : (Jvm.Cond.lays "MarshBells$Plan" "MarshBells$Plan" "walk" "I") ∈ lw_tbl := tk_1 (List.mem_of_getElem? (i := 183) rfl)
theorem tw_185 : (Jvm.Cond.lays "MarshBells$Plan" "MarshBells$Plan" "stair" "I") ∈ lw_tbl := tk_1 (List.mem_of_getElem? (i := 185) rfl)
theorem inWX7 : ∀ w ∈ u_ws RX7 TX7 5, w ∈ lw_tbl := by
  have e : ∀ k, k < 5 → u_lay RX7 TX7 k ∈ lw_tbl := fun k hk => match k, hk with | 0, _ => tw_177 | 1, _ => tw_179 | 2, _ => tw_181 | 3, _ => tw_183 | 4, _ => tw_185 | k + 5, hk => absurd hk (by omega)
  intro w h
  obtain ⟨k, hk, rfl⟩ := List.mem_map.mp h
  exact e k (List.mem_range.mp hk)
theorem tw_151 : (Jvm.Cond.fieldLinkNest "MarshBells$Day" (58 : Nat) "MarshBells$Plan" "lessons" "[LMarshBells$Lesson;" "MarshBells") ∈ lw_tbl := tk_1 (List.mem_of_getElem? (i := 151) rfl)
theorem fl_X1_58 : kFN RX1 58 7 5 0 := ⟨RX7, TX7, rfl, by decide, inWX7, tw_151⟩
theorem dX1_late_10 : decode cX1_late 10 = .ok (.getfield 58, 3) := by decide +kernel
theorem dX1_late_13 : decode cX1_late 13 = .ok (.iload_n 1, 1) := by decide +kernel
theorem dX1_late_14 : decode cX1_late 14 = .ok (.aaload, 1) := by decide +kernel
theorem tw_118 : (Jvm.Cond.laysFinal "MarshBells$Lesson" "MarshBells$Lesson" "waitedFor" "[I") ∈ lw_tbl := tk_1 (List.mem_of_getElem? (i := 118) rfl)
theorem tw_120 : (Jvm.Cond.lays "MarshBells$Lesson" "MarshBells$Lesson" "waited" "I") ∈ lw_tbl := tk_1 (List.mem_of_getElem? (i := 120) rfl)
theorem tw_122 : (Jvm.Cond.lays "MarshBells$Lesson" "MarshBells$Lesson" "waitedBits" "I") ∈ lw_tbl := tk_1 (List.mem_of_getElem? (i := 122) rfl)
theorem tw_124 : (Jvm.Cond.lays "MarshBells$Lesson" "MarshBells$Lesson" "from" "I") ∈ lw_tbl := tk_1 (List.mem_of_getElem? (i := 124) rfl)
theorem tw_126 : (Jvm.Cond.lays "MarshBells$Lesson" "MarshBells$Lesson" "to" "I") ∈ lw_tbl := tk_1 (List.mem_of_getElem? (i := 126) rfl)
theorem tw_128 : (Jvm.Cond.lays "MarshBells$Lesson" "MarshBells$Lesson" "least" "I") ∈ lw_tbl := tk_1 (List.mem_of_getElem? (i := 128) rfl)
theorem tw_130 : (Jvm.Cond.lays "MarshBells$Lesson" "MarshBells$Lesson" "over" "I") ∈ lw_tbl := tk_1 (List.mem_of_getElem? (i := 130) rfl)
theorem tw_132 : (Jvm.Cond.lays "MarshBells$Lesson" "MarshBells$Lesson" "room" "I") ∈ lw_tbl := tk_1 (List.mem_of_getElem? (i := 132) rfl)
theorem tw_134 : (Jvm.Cond.lays "MarshBells$Lesson" "MarshBells$Lesson" "people" "I") ∈ lw_tbl := tk_1 (List.mem_of_getElem? (i := 134) rfl)
theorem tw_136 : (Jvm.Cond.lays "MarshBells$Lesson" "MarshBells$Lesson" "sort" "I") ∈ lw_tbl := tk_1 (List.mem_of_getElem? (i := 136) rfl)
theorem tw_138 : (Jvm.Cond.lays "MarshBells$Lesson" "MarshBells$Lesson" "some" "I") ∈ lw_tbl := tk_1 (List.mem_of_getElem? (i := 138) rfl)
theorem tw_140 : (Jvm.Cond.lays "MarshBells$Lesson" "MarshBells$Lesson" "limit" "I") ∈ lw_tbl := tk_1 (List.mem_of_getElem? (i := 140) rfl)
theorem tw_142 : (Jvm.Cond.lays "MarshBells$Lesson" "MarshBells$Lesson" "maybe" "I") ∈ lw_tbl := tk_1 (List.mem_of_getElem? (i := 142) rfl)
theorem tw_144 : (Jvm.Cond.lays "MarshBells$Lesson" "MarshBells$Lesson" "gap" "I") ∈ lw_tbl := tk_1 (List.mem_of_getElem? (i := 144) rfl)
theorem inWX5 : ∀ w ∈ u_ws RX5 TX5 14, w ∈ lw_tbl := by
  have e : ∀ k, k < 14 → u_lay RX5 TX5 k ∈ lw_tbl := fun k hk => match k, hk with | 0, _ => tw_118 | 1, _ => tw_120 | 2, _ => tw_122 | 3, _ => tw_124 | 4, _ => tw_126 | 5, _ => tw_128 | 6, _ => tw_130 | 7, _ => tw_132 | 8, _ => tw_134 | 9, _ => tw_136 | 10, _ => tw_138 | 11, _ => tw_140 | 12, _ => tw_142 | 13, _ => tw_144 | k + 14, hk => absurd hk (by omega)
  intro w h
  obtain ⟨k, hk, rfl⟩ := List.mem_map.mp h
  exact e k (List.mem_range.mp hk)
theorem tw_88 : (Jvm.Cond.fieldLinkNest "MarshBells$Day" (70 : Nat) "MarshBells$Lesson" "to" "I" "MarshBells") ∈ lw_tbl := tk_1 (List.mem_of_getElem? (i := 88) rfl)
theorem fl_X1_70 : kFN RX1 70 5 14 4 := ⟨RX5, TX5, rfl, by decide, inWX5, tw_88⟩
theorem dX1_late_15 : decode cX1_late 15 = .ok (.getfield 70, 3) := by decide +kernel
theorem dX1_late_18 : decode cX1_late 18 = .ok (.isub, 1) := by decide +kernel
theorem dX1_late_19 : decode cX1_late 19 = .ok (.ireturn, 1) := by decide +kernel
theorem dX1_lost_0 : decode cX1_lost 0 = .ok (.iconst 0, 1) := by decide +kernel
theorem dX1_lost_1 : decode cX1_lost 1 = .ok (.istore_n 1, 1) := by decide +kernel
theorem dX1_lost_2 : decode cX1_lost 2 = .ok (.iconst 0, 1) := by decide +kernel
theorem dX1_lost_3 : decode cX1_lost 3 = .ok (.istore_n 2, 1) := by decide +kernel
theorem dX1_lost_4 : decode cX1_lost 4 = .ok (.iload_n 2, 1) := by decide +kernel
theorem dX1_lost_5 : decode cX1_lost 5 = .ok (.aload_n 0, 1) := by decide +kernel
theorem dX1_lost_6 : decode cX1_lost 6 = .ok (.getfield 37, 3) := by decide +kernel
theorem tw_162 : (Jvm.Cond.fieldLinkNest "MarshBells$Day" (45 : Nat) "MarshBells$Plan" "lessonCount" "I" "MarshBells") ∈ lw_tbl := tk_1 (List.mem_of_getElem? (i := 162) rfl)
theorem fl_X1_45 : kFN RX1 45 7 5 2 := ⟨RX7, TX7, rfl, by decide, inWX7, tw_162⟩
theorem dX1_lost_9 : decode cX1_lost 9 = .ok (.getfield 45, 3) := by decide +kernel
theorem dX1_lost_12 : decode cX1_lost 12 = .ok (.if_icmp .ge 30, 3) := by decide +kernel
theorem dX1_lost_42 : decode cX1_lost 42 = .ok (.iload_n 1, 1) := by decide +kernel
theorem dX1_lost_43 : decode cX1_lost 43 = .ok (.ireturn, 1) := by decide +kernel
theorem dX1_lost_15 : decode cX1_lost 15 = .ok (.iload_n 1, 1) := by decide +kernel
theorem dX1_lost_16 : decode cX1_lost 16 = .ok (.aload_n 0, 1) := by decide +kernel
theorem dX1_lost_17 : decode cX1_lost 17 = .ok (.getfield 37, 3) := by decide +kernel
theorem dX1_lost_20 : decode cX1_lost 20 = .ok (.getfield 58, 3) := by decide +kernel
theorem dX1_lost_23 : decode cX1_lost 23 = .ok (.iload_n 2, 1) := by decide +kernel
theorem dX1_lost_24 : decode cX1_lost 24 = .ok (.aaload, 1) := by decide +kernel
theorem tw_100 : (Jvm.Cond.fieldLinkNest "MarshBells$Day" (134 : Nat) "MarshBells$Lesson" "people" "I" "MarshBells") ∈ lw_tbl := tk_1 (List.mem_of_getElem? (i := 100) rfl)
theorem fl_X1_134 : kFN RX1 134 5 14 8 := ⟨RX5, TX5, rfl, by decide, inWX5, tw_100⟩
theorem dX1_lost_25 : decode cX1_lost 25 = .ok (.getfield 134, 3) := by decide +kernel
theorem dX1_lost_28 : decode cX1_lost 28 = .ok (.aload_n 0, 1) := by decide +kernel
theorem dX1_lost_29 : decode cX1_lost 29 = .ok (.iload_n 2, 1) := by decide +kernel
theorem tw_656 : (Jvm.Cond.methodLink "MarshBells$Day" (156 : Nat) ({ cls := "MarshBells$Day", name := "late", desc := "(I)I" } : Jvm.MethodName)) ∈ lw_tbl := tk_3 (List.mem_of_getElem? (i := 176) rfl)
theorem tw_7 : (Jvm.Cond.initialized "MarshBells$Day") ∈ lw_tbl := tk_1 (List.mem_of_getElem? (i := 7) rfl)
theorem tw_659 : (Jvm.Cond.code ({ cls := "MarshBells$Day", name := "late", desc := "(I)I" } : Jvm.MethodName) prog_3_method_11_code (2 : Nat) (Option.some Jvm.ClassFile.FieldType.int)) ∈ lw_tbl := tk_3 (List.mem_of_getElem? (i := 179) rfl)
theorem tw_658 : (Jvm.Cond.instanceMethod ({ cls := "MarshBells$Day", name := "late", desc := "(I)I" } : Jvm.MethodName)) ∈ lw_tbl := tk_3 (List.mem_of_getElem? (i := 178) rfl)
theorem se_X1_late : Cond.selects RX1 yX1_late yX1_late ∈ lw_tbl := List.mem_append_left _ (List.mem_of_getElem? (i := 21) rfl)
theorem li_X1_156 : kLV RX1 156 RX1 yX1_late cX1_late 2 (some .int) 1 := ⟨tw_656, tw_658, se_X1_late, tw_659, tw_7, by decide +kernel⟩
theorem dX1_lost_30 : decode cX1_lost 30 = .ok (.invokevirtual 156, 3) := by decide +kernel
theorem dX1_lost_33 : decode cX1_lost 33 = .ok (.imul, 1) := by decide +kernel
theorem dX1_lost_34 : decode cX1_lost 34 = .ok (.iadd, 1) := by decide +kernel
theorem dX1_lost_35 : decode cX1_lost 35 = .ok (.istore_n 1, 1) := by decide +kernel
theorem dX1_lost_36 : decode cX1_lost 36 = .ok (.iinc 2 1, 3) := by decide +kernel
theorem dX1_lost_39 : decode cX1_lost 39 = .ok (.goto (-35), 3) := by decide +kernel
theorem dX1_runFrom_0 : decode cX1_runFrom 0 = .ok (.iload_n 1, 1) := by decide +kernel
theorem dX1_runFrom_1 : decode cX1_runFrom 1 = .ok (.istore_n 2, 1) := by decide +kernel
theorem dX1_runFrom_2 : decode cX1_runFrom 2 = .ok (.iload_n 2, 1) := by decide +kernel
theorem dX1_runFrom_3 : decode cX1_runFrom 3 = .ok (.aload_n 0, 1) := by decide +kernel
theorem dX1_runFrom_4 : decode cX1_runFrom 4 = .ok (.getfield 37, 3) := by decide +kernel
theorem dX1_runFrom_7 : decode cX1_runFrom 7 = .ok (.getfield 45, 3) := by decide +kernel
theorem dX1_runFrom_10 : decode cX1_runFrom 10 = .ok (.if_icmp .ge 14, 3) := by decide +kernel
theorem dX1_runFrom_24 : decode cX1_runFrom 24 = .ok (.return_, 1) := by decide +kernel
theorem dX1_runFrom_13 : decode cX1_runFrom 13 = .ok (.aload_n 0, 1) := by decide +kernel
theorem dX1_runFrom_14 : decode cX1_runFrom 14 = .ok (.iload_n 2, 1) := by decide +kernel
theorem tw_608 : (Jvm.Cond.methodLink "MarshBells$Day" (50 : Nat) ({ cls := "MarshBells$Day", name := "runOne", desc := "(I)V" } : Jvm.MethodName)) ∈ lw_tbl := tk_3 (List.mem_of_getElem? (i := 128) rfl)
theorem tw_611 : (Jvm.Cond.code ({ cls := "MarshBells$Day", name := "runOne", desc := "(I)V" } : Jvm.MethodName) prog_3_method_4_code (3 : Nat) (Option.none : Option Jvm.ClassFile.FieldType)) ∈ lw_tbl := tk_3 (List.mem_of_getElem? (i := 131) rfl)
theorem tw_610 : (Jvm.Cond.instanceMethod ({ cls := "MarshBells$Day", name := "runOne", desc := "(I)V" } : Jvm.MethodName)) ∈ lw_tbl := tk_3 (List.mem_of_getElem? (i := 130) rfl)
theorem se_X1_runOne : Cond.selects RX1 yX1_runOne yX1_runOne ∈ lw_tbl := List.mem_append_left _ (List.mem_of_getElem? (i := 12) rfl)
theorem li_X1_50 : kLV RX1 50 RX1 yX1_runOne cX1_runOne 3 none 1 := ⟨tw_608, tw_610, se_X1_runOne, tw_611, tw_7, by decide +kernel⟩
theorem dX1_runOne_0 : decode cX1_runOne 0 = .ok (.aload_n 0, 1) := by decide +kernel
theorem dX1_runOne_1 : decode cX1_runOne 1 = .ok (.getfield 37, 3) := by decide +kernel
theorem dX1_runOne_4 : decode cX1_runOne 4 = .ok (.getfield 58, 3) := by decide +kernel
theorem dX1_runOne_7 : decode cX1_runOne 7 = .ok (.iload_n 1, 1) := by decide +kernel
theorem dX1_runOne_8 : decode cX1_runOne 8 = .ok (.aaload, 1) := by decide +kernel
theorem dX1_runOne_9 : decode cX1_runOne 9 = .ok (.astore_n 2, 1) := by decide +kernel
theorem dX1_runOne_10 : decode cX1_runOne 10 = .ok (.aload_n 0, 1) := by decide +kernel
theorem dX1_runOne_11 : decode cX1_runOne 11 = .ok (.iload_n 1, 1) := by decide +kernel
theorem dX1_runOne_12 : decode cX1_runOne 12 = .ok (.aload_n 2, 1) := by decide +kernel
theorem tw_612 : (Jvm.Cond.methodLink "MarshBells$Day" (62 : Nat) ({ cls := "MarshBells$Day", name := "begin", desc := "(ILMarshBells$Lesson;)V" } : Jvm.MethodName)) ∈ lw_tbl := tk_3 (List.mem_of_getElem? (i := 132) rfl)
theorem tw_615 : (Jvm.Cond.code ({ cls := "MarshBells$Day", name := "begin", desc := "(ILMarshBells$Lesson;)V" } : Jvm.MethodName) prog_3_method_5_code (6 : Nat) (Option.none : Option Jvm.ClassFile.FieldType)) ∈ lw_tbl := tk_3 (List.mem_of_getElem? (i := 135) rfl)
theorem tw_614 : (Jvm.Cond.instanceMethod ({ cls := "MarshBells$Day", name := "begin", desc := "(ILMarshBells$Lesson;)V" } : Jvm.MethodName)) ∈ lw_tbl := tk_3 (List.mem_of_getElem? (i := 134) rfl)
theorem se_X1_begin : Cond.selects RX1 yX1_begin yX1_begin ∈ lw_tbl := List.mem_append_left _ (List.mem_of_getElem? (i := 13) rfl)
theorem li_X1_62 : kLV RX1 62 RX1 yX1_begin cX1_begin 6 none 2 := ⟨tw_612, tw_614, se_X1_begin, tw_615, tw_7, by decide +kernel⟩
theorem dX1_begin_0 : decode cX1_begin 0 = .ok (.aload_n 0, 1) := by decide +kernel
theorem tw_301 : (Jvm.Cond.fieldLink "MarshBells$Day" (9 : Nat) "MarshBells$Day" "begins" "[I") ∈ lw_tbl := tk_2 (List.mem_of_getElem? (i := 61) rfl)
theorem fl_X1_9 : kFL RX1 9 1 10 1 := ⟨RX1, TX1, rfl, by decide, inWX1, tw_301⟩
theorem dX1_begin_1 : decode cX1_begin 1 = .ok (.getfield 9, 3) := by decide +kernel
theorem dX1_begin_4 : decode cX1_begin 4 = .ok (.iload_n 1, 1) := by decide +kernel
theorem dX1_begin_5 : decode cX1_begin 5 = .ok (.aload_n 2, 1) := by decide +kernel
theorem tw_84 : (Jvm.Cond.fieldLinkNest "MarshBells$Day" (84 : Nat) "MarshBells$Lesson" "from" "I" "MarshBells") ∈ lw_tbl := tk_1 (List.mem_of_getElem? (i := 84) rfl)
theorem fl_X1_84 : kFN RX1 84 5 14 3 := ⟨RX5, TX5, rfl, by decide, inWX5, tw_84⟩
theorem dX1_begin_6 : decode cX1_begin 6 = .ok (.getfield 84, 3) := by decide +kernel
theorem dX1_begin_9 : decode cX1_begin 9 = .ok (.iastore, 1) := by decide +kernel
theorem dX1_begin_10 : decode cX1_begin 10 = .ok (.aload_n 0, 1) := by decide +kernel
theorem tw_310 : (Jvm.Cond.fieldLink "MarshBells$Day" (21 : Nat) "MarshBells$Day" "byWhom" "[I") ∈ lw_tbl := tk_2 (List.mem_of_getElem? (i := 70) rfl)
theorem fl_X1_21 : kFL RX1 21 1 10 4 := ⟨RX1, TX1, rfl, by decide, inWX1, tw_310⟩
theorem dX1_begin_11 : decode cX1_begin 11 = .ok (.getfield 21, 3) := by decide +kernel
theorem dX1_begin_14 : decode cX1_begin 14 = .ok (.iload_n 1, 1) := by decide +kernel
theorem dX1_begin_15 : decode cX1_begin 15 = .ok (.iconst (-1), 1) := by decide +kernel
theorem dX1_begin_16 : decode cX1_begin 16 = .ok (.iastore, 1) := by decide +kernel
theorem dX1_begin_17 : decode cX1_begin 17 = .ok (.aload_n 2, 1) := by decide +kernel
theorem dX1_begin_18 : decode cX1_begin 18 = .ok (.getfield 84, 3) := by decide +kernel
theorem dX1_begin_21 : decode cX1_begin 21 = .ok (.istore_n 3, 1) := by decide +kernel
theorem dX1_begin_22 : decode cX1_begin 22 = .ok (.iconst 0, 1) := by decide +kernel
theorem dX1_begin_23 : decode cX1_begin 23 = .ok (.istore 4, 2) := by decide +kernel
theorem dX1_begin_25 : decode cX1_begin 25 = .ok (.iload 4, 2) := by decide +kernel
theorem dX1_begin_27 : decode cX1_begin 27 = .ok (.aload_n 2, 1) := by decide +kernel
theorem tw_78 : (Jvm.Cond.fieldLinkNest "MarshBells$Day" (87 : Nat) "MarshBells$Lesson" "waited" "I" "MarshBells") ∈ lw_tbl := tk_1 (List.mem_of_getElem? (i := 78) rfl)
theorem fl_X1_87 : kFN RX1 87 5 14 1 := ⟨RX5, TX5, rfl, by decide, inWX5, tw_78⟩
theorem dX1_begin_28 : decode cX1_begin 28 = .ok (.getfield 87, 3) := by decide +kernel
theorem dX1_begin_31 : decode cX1_begin 31 = .ok (.if_icmp .ge 62, 3) := by decide +kernel
theorem dX1_begin_93 : decode cX1_begin 93 = .ok (.aload_n 2, 1) := by decide +kernel
theorem tw_104 : (Jvm.Cond.fieldLinkNest "MarshBells$Day" (101 : Nat) "MarshBells$Lesson" "sort" "I" "MarshBells") ∈ lw_tbl := tk_1 (List.mem_of_getElem? (i := 104) rfl)
theorem fl_X1_101 : kFN RX1 101 5 14 9 := ⟨RX5, TX5, rfl, by decide, inWX5, tw_104⟩
theorem dX1_begin_94 : decode cX1_begin 94 = .ok (.getfield 101, 3) := by decide +kernel
theorem dX1_begin_97 : decode cX1_begin 97 = .ok (.iconst 1, 1) := by decide +kernel
theorem dX1_begin_98 : decode cX1_begin 98 = .ok (.if_icmp .ne 17, 3) := by decide +kernel
theorem dX1_begin_101 : decode cX1_begin 101 = .ok (.aload_n 0, 1) := by decide +kernel
theorem dX1_begin_102 : decode cX1_begin 102 = .ok (.aload_n 2, 1) := by decide +kernel
theorem tw_108 : (Jvm.Cond.fieldLinkNest "MarshBells$Day" (104 : Nat) "MarshBells$Lesson" "some" "I" "MarshBells") ∈ lw_tbl := tk_1 (List.mem_of_getElem? (i := 108) rfl)
theorem fl_X1_104 : kFN RX1 104 5 14 10 := ⟨RX5, TX5, rfl, by decide, inWX5, tw_108⟩
theorem dX1_begin_103 : decode cX1_begin 103 = .ok (.getfield 104, 3) := by decide +kernel
theorem dX1_begin_106 : decode cX1_begin 106 = .ok (.aload_n 2, 1) := by decide +kernel
theorem dX1_begin_107 : decode cX1_begin 107 = .ok (.getfield 87, 3) := by decide +kernel
theorem dX1_begin_110 : decode cX1_begin 110 = .ok (.iload_n 3, 1) := by decide +kernel
theorem tw_630 : (Jvm.Cond.methodLink "MarshBells$Day" (107 : Nat) ({ cls := "MarshBells$Day", name := "comingOf", desc := "(III)I" } : Jvm.MethodName)) ∈ lw_tbl := tk_3 (List.mem_of_getElem? (i := 150) rfl)
theorem tw_633 : (Jvm.Cond.code ({ cls := "MarshBells$Day", name := "comingOf", desc := "(III)I" } : Jvm.MethodName) prog_3_method_8_code (8 : Nat) (Option.some Jvm.ClassFile.FieldType.int)) ∈ lw_tbl := tk_3 (List.mem_of_getElem? (i := 153) rfl)
theorem tw_632 : (Jvm.Cond.instanceMethod ({ cls := "MarshBells$Day", name := "comingOf", desc := "(III)I" } : Jvm.MethodName)) ∈ lw_tbl := tk_3 (List.mem_of_getElem? (i := 152) rfl)
theorem se_X1_comingOf : Cond.selects RX1 yX1_comingOf yX1_comingOf ∈ lw_tbl := List.mem_append_left _ (List.mem_of_getElem? (i := 16) rfl)
theorem li_X1_107 : kLV RX1 107 RX1 yX1_comingOf cX1_comingOf 8 (some .int) 3 := ⟨tw_630, tw_632, se_X1_comingOf, tw_633, tw_7, by decide +kernel⟩
theorem dX1_comingOf_0 : decode cX1_comingOf 0 = .ok (.iload_n 3, 1) := by decide +kernel
theorem dX1_comingOf_1 : decode cX1_comingOf 1 = .ok (.istore 4, 2) := by decide +kernel
theorem dX1_comingOf_3 : decode cX1_comingOf 3 = .ok (.iconst 0, 1) := by decide +kernel
theorem dX1_comingOf_4 : decode cX1_comingOf 4 = .ok (.istore 5, 2) := by decide +kernel
theorem dX1_comingOf_6 : decode cX1_comingOf 6 = .ok (.iload 5, 2) := by decide +kernel
theorem dX1_comingOf_8 : decode cX1_comingOf 8 = .ok (.iload_n 2, 1) := by decide +kernel
theorem dX1_comingOf_9 : decode cX1_comingOf 9 = .ok (.if_icmp .ge 81, 3) := by decide +kernel
theorem dX1_comingOf_90 : decode cX1_comingOf 90 = .ok (.iload 4, 2) := by decide +kernel
theorem dX1_comingOf_92 : decode cX1_comingOf 92 = .ok (.ireturn, 1) := by decide +kernel
theorem dX1_comingOf_12 : decode cX1_comingOf 12 = .ok (.iconst 0, 1) := by decide +kernel
theorem dX1_comingOf_13 : decode cX1_comingOf 13 = .ok (.istore 6, 2) := by decide +kernel
theorem dX1_comingOf_15 : decode cX1_comingOf 15 = .ok (.iconst 0, 1) := by decide +kernel
theorem dX1_comingOf_16 : decode cX1_comingOf 16 = .ok (.istore 7, 2) := by decide +kernel
theorem dX1_comingOf_18 : decode cX1_comingOf 18 = .ok (.iload 7, 2) := by decide +kernel
theorem dX1_comingOf_20 : decode cX1_comingOf 20 = .ok (.iload_n 2, 1) := by decide +kernel
theorem dX1_comingOf_21 : decode cX1_comingOf 21 = .ok (.if_icmp .ge 36, 3) := by decide +kernel
theorem dX1_comingOf_24 : decode cX1_comingOf 24 = .ok (.iload 6, 2) := by decide +kernel
theorem dX1_comingOf_26 : decode cX1_comingOf 26 = .ok (.aload_n 0, 1) := by decide +kernel
theorem tw_312 : (Jvm.Cond.fieldLink "MarshBells$Day" (24 : Nat) "MarshBells$Day" "comings" "[I") ∈ lw_tbl := tk_2 (List.mem_of_getElem? (i := 72) rfl)
theorem fl_X1_24 : kFL RX1 24 1 10 5 := ⟨RX1, TX1, rfl, by decide, inWX1, tw_312⟩
theorem dX1_comingOf_27 : decode cX1_comingOf 27 = .ok (.getfield 24, 3) := by decide +kernel
theorem dX1_comingOf_30 : decode cX1_comingOf 30 = .ok (.iload 7, 2) := by decide +kernel
theorem dX1_comingOf_32 : decode cX1_comingOf 32 = .ok (.iaload, 1) := by decide +kernel
theorem dX1_comingOf_33 : decode cX1_comingOf 33 = .ok (.aload_n 0, 1) := by decide +kernel
theorem dX1_comingOf_34 : decode cX1_comingOf 34 = .ok (.getfield 24, 3) := by decide +kernel
theorem dX1_comingOf_37 : decode cX1_comingOf 37 = .ok (.iload 5, 2) := by decide +kernel
theorem dX1_comingOf_39 : decode cX1_comingOf 39 = .ok (.iaload, 1) := by decide +kernel
theorem dX1_comingOf_40 : decode cX1_comingOf 40 = .ok (.if_icmp .gt 7, 3) := by decide +kernel
theorem dX1_comingOf_47 : decode cX1_comingOf 47 = .ok (.iconst 0, 1) := by decide +kernel
theorem dX1_comingOf_43 : decode cX1_comingOf 43 = .ok (.iconst 1, 1) := by decide +kernel
theorem dX1_comingOf_44 : decode cX1_comingOf 44 = .ok (.goto 4, 3) := by decide +kernel
theorem dX1_comingOf_48 : decode cX1_comingOf 48 = .ok (.iadd, 1) := by decide +kernel
theorem dX1_comingOf_49 : decode cX1_comingOf 49 = .ok (.istore 6, 2) := by decide +kernel
theorem dX1_comingOf_51 : decode cX1_comingOf 51 = .ok (.iinc 7 1, 3) := by decide +kernel
theorem dX1_comingOf_54 : decode cX1_comingOf 54 = .ok (.goto (-36), 3) := by decide +kernel
theorem dX1_comingOf_57 : decode cX1_comingOf 57 = .ok (.iload 6, 2) := by decide +kernel
theorem dX1_comingOf_59 : decode cX1_comingOf 59 = .ok (.iload_n 1, 1) := by decide +kernel
theorem dX1_comingOf_60 : decode cX1_comingOf 60 = .ok (.if_icmp .lt 24, 3) := by decide +kernel
theorem dX1_comingOf_63 : decode cX1_comingOf 63 = .ok (.aload_n 0, 1) := by decide +kernel
theorem dX1_comingOf_64 : decode cX1_comingOf 64 = .ok (.getfield 24, 3) := by decide +kernel
theorem dX1_comingOf_67 : decode cX1_comingOf 67 = .ok (.iload 5, 2) := by decide +kernel
theorem dX1_comingOf_69 : decode cX1_comingOf 69 = .ok (.iaload, 1) := by decide +kernel
theorem dX1_comingOf_70 : decode cX1_comingOf 70 = .ok (.iload 4, 2) := by decide +kernel
theorem dX1_comingOf_72 : decode cX1_comingOf 72 = .ok (.if_icmp .ge 12, 3) := by decide +kernel
theorem dX1_comingOf_75 : decode cX1_comingOf 75 = .ok (.aload_n 0, 1) := by decide +kernel
theorem dX1_comingOf_76 : decode cX1_comingOf 76 = .ok (.getfield 24, 3) := by decide +kernel
theorem dX1_comingOf_79 : decode cX1_comingOf 79 = .ok (.iload 5, 2) := by decide +kernel
theorem dX1_comingOf_81 : decode cX1_comingOf 81 = .ok (.iaload, 1) := by decide +kernel
theorem dX1_comingOf_82 : decode cX1_comingOf 82 = .ok (.istore 4, 2) := by decide +kernel
theorem dX1_comingOf_84 : decode cX1_comingOf 84 = .ok (.iinc 5 1, 3) := by decide +kernel
theorem dX1_comingOf_87 : decode cX1_comingOf 87 = .ok (.goto (-81), 3) := by decide +kernel
theorem dX1_begin_111 : decode cX1_begin 111 = .ok (.invokevirtual 107, 3) := by decide +kernel
theorem dX1_begin_114 : decode cX1_begin 114 = .ok (.istore_n 3, 1) := by decide +kernel
theorem dX1_begin_115 : decode cX1_begin 115 = .ok (.iload_n 3, 1) := by decide +kernel
theorem dX1_begin_116 : decode cX1_begin 116 = .ok (.aload_n 2, 1) := by decide +kernel
theorem dX1_begin_117 : decode cX1_begin 117 = .ok (.getfield 84, 3) := by decide +kernel
theorem dX1_begin_120 : decode cX1_begin 120 = .ok (.if_icmp .gt 4, 3) := by decide +kernel
theorem dX1_begin_124 : decode cX1_begin 124 = .ok (.aload_n 2, 1) := by decide +kernel
theorem dX1_begin_125 : decode cX1_begin 125 = .ok (.getfield 84, 3) := by decide +kernel
theorem dX1_begin_128 : decode cX1_begin 128 = .ok (.aload_n 0, 1) := by decide +kernel
theorem dX1_begin_129 : decode cX1_begin 129 = .ok (.getfield 41, 3) := by decide +kernel
theorem tw_249 : (Jvm.Cond.fieldLinkNest "MarshBells$Day" (111 : Nat) "MarshBells$Held" "limits" "[I" "MarshBells") ∈ lw_tbl := tk_2 (List.mem_of_getElem? (i := 9) rfl)
theorem fl_X1_111 : kFN RX1 111 3 12 3 := ⟨RX3, TX3, rfl, by decide, inWX3, tw_249⟩
theorem dX1_begin_132 : decode cX1_begin 132 = .ok (.getfield 111, 3) := by decide +kernel
theorem dX1_begin_135 : decode cX1_begin 135 = .ok (.iload_n 1, 1) := by decide +kernel
theorem dX1_begin_136 : decode cX1_begin 136 = .ok (.iaload, 1) := by decide +kernel
theorem dX1_begin_137 : decode cX1_begin 137 = .ok (.iadd, 1) := by decide +kernel
theorem dX1_begin_138 : decode cX1_begin 138 = .ok (.istore 4, 2) := by decide +kernel
theorem dX1_begin_140 : decode cX1_begin 140 = .ok (.iload_n 3, 1) := by decide +kernel
theorem dX1_begin_141 : decode cX1_begin 141 = .ok (.iload 4, 2) := by decide +kernel
theorem dX1_begin_143 : decode cX1_begin 143 = .ok (.if_icmp .le 12, 3) := by decide +kernel
theorem dX1_begin_155 : decode cX1_begin 155 = .ok (.aload_n 0, 1) := by decide +kernel
theorem dX1_begin_156 : decode cX1_begin 156 = .ok (.getfield 9, 3) := by decide +kernel
theorem dX1_begin_159 : decode cX1_begin 159 = .ok (.iload_n 1, 1) := by decide +kernel
theorem dX1_begin_160 : decode cX1_begin 160 = .ok (.iload_n 3, 1) := by decide +kernel
theorem dX1_begin_161 : decode cX1_begin 161 = .ok (.iastore, 1) := by decide +kernel
theorem dX1_begin_162 : decode cX1_begin 162 = .ok (.aload_n 0, 1) := by decide +kernel
theorem dX1_begin_163 : decode cX1_begin 163 = .ok (.getfield 21, 3) := by decide +kernel
theorem dX1_begin_166 : decode cX1_begin 166 = .ok (.iload_n 1, 1) := by decide +kernel
theorem dX1_begin_167 : decode cX1_begin 167 = .ok (.aload_n 0, 1) := by decide +kernel
theorem dX1_begin_168 : decode cX1_begin 168 = .ok (.iload_n 3, 1) := by decide +kernel
theorem dX1_begin_169 : decode cX1_begin 169 = .ok (.aload_n 2, 1) := by decide +kernel
theorem tw_634 : (Jvm.Cond.methodLink "MarshBells$Day" (114 : Nat) ({ cls := "MarshBells$Day", name := "firstComingAt", desc := "(ILMarshBells$Lesson;)I" } : Jvm.MethodName)) ∈ lw_tbl := tk_3 (List.mem_of_getElem? (i := 154) rfl)
theorem tw_637 : (Jvm.Cond.code ({ cls := "MarshBells$Day", name := "firstComingAt", desc := "(ILMarshBells$Lesson;)I" } : Jvm.MethodName) prog_3_method_9_code (4 : Nat) (Option.some Jvm.ClassFile.FieldType.int)) ∈ lw_tbl := tk_3 (List.mem_of_getElem? (i := 157) rfl)
theorem tw_636 : (Jvm.Cond.instanceMethod ({ cls := "MarshBells$Day", name := "firstComingAt", desc := "(ILMarshBells$Lesson;)I" } : Jvm.MethodName)) ∈ lw_tbl := tk_3 (List.mem_of_getElem? (i := 156) rfl)
theorem se_X1_firstComingAt : Cond.selects RX1 yX1_firstComingAt yX1_firstComingAt ∈ lw_tbl := List.mem_append_left _ (List.mem_of_getElem? (i := 17) rfl)
theorem li_X1_114 : kLV RX1 114 RX1 yX1_firstComingAt cX1_firstComingAt 4 (some .int) 2 := ⟨tw_634, tw_636, se_X1_firstComingAt, tw_637, tw_7, by decide +kernel⟩
theorem dX1_firstComingAt_0 : decode cX1_firstComingAt 0 = .ok (.iconst 0, 1) := by decide +kernel
theorem dX1_firstComingAt_1 : decode cX1_firstComingAt 1 = .ok (.istore_n 3, 1) := by decide +kernel
theorem dX1_firstComingAt_2 : decode cX1_firstComingAt 2 = .ok (.iload_n 3, 1) := by decide +kernel
theorem dX1_firstComingAt_3 : decode cX1_firstComingAt 3 = .ok (.aload_n 2, 1) := by decide +kernel
theorem dX1_firstComingAt_4 : decode cX1_firstComingAt 4 = .ok (.getfield 87, 3) := by decide +kernel
theorem dX1_firstComingAt_7 : decode cX1_firstComingAt 7 = .ok (.if_icmp .ge 26, 3) := by decide +kernel
theorem dX1_firstComingAt_33 : decode cX1_firstComingAt 33 = .ok (.iconst (-1), 1) := by decide +kernel
theorem dX1_firstComingAt_34 : decode cX1_firstComingAt 34 = .ok (.ireturn, 1) := by decide +kernel
theorem dX1_firstComingAt_10 : decode cX1_firstComingAt 10 = .ok (.aload_n 0, 1) := by decide +kernel
theorem dX1_firstComingAt_11 : decode cX1_firstComingAt 11 = .ok (.getfield 24, 3) := by decide +kernel
theorem dX1_firstComingAt_14 : decode cX1_firstComingAt 14 = .ok (.iload_n 3, 1) := by decide +kernel
theorem dX1_firstComingAt_15 : decode cX1_firstComingAt 15 = .ok (.iaload, 1) := by decide +kernel
theorem dX1_firstComingAt_16 : decode cX1_firstComingAt 16 = .ok (.iload_n 1, 1) := by decide +kernel
theorem dX1_firstComingAt_17 : decode cX1_firstComingAt 17 = .ok (.if_icmp .ne 10, 3) := by decide +kernel
theorem dX1_firstComingAt_27 : decode cX1_firstComingAt 27 = .ok (.iinc 3 1, 3) := by decide +kernel
theorem dX1_firstComingAt_30 : decode cX1_firstComingAt 30 = .ok (.goto (-28), 3) := by decide +kernel
theorem dX1_firstComingAt_20 : decode cX1_firstComingAt 20 = .ok (.aload_n 2, 1) := by decide +kernel
theorem tw_75 : (Jvm.Cond.fieldLinkNest "MarshBells$Day" (90 : Nat) "MarshBells$Lesson" "waitedFor" "[I" "MarshBells") ∈ lw_tbl := tk_1 (List.mem_of_getElem? (i := 75) rfl)
theorem fl_X1_90 : kFN RX1 90 5 14 0 := ⟨RX5, TX5, rfl, by decide, inWX5, tw_75⟩
theorem dX1_firstComingAt_21 : decode cX1_firstComingAt 21 = .ok (.getfield 90, 3) := by decide +kernel
theorem dX1_firstComingAt_24 : decode cX1_firstComingAt 24 = .ok (.iload_n 3, 1) := by decide +kernel
theorem dX1_firstComingAt_25 : decode cX1_firstComingAt 25 = .ok (.iaload, 1) := by decide +kernel
theorem dX1_firstComingAt_26 : decode cX1_firstComingAt 26 = .ok (.ireturn, 1) := by decide +kernel
theorem dX1_begin_170 : decode cX1_begin 170 = .ok (.invokevirtual 114, 3) := by decide +kernel
theorem dX1_begin_173 : decode cX1_begin 173 = .ok (.iastore, 1) := by decide +kernel
theorem dX1_begin_174 : decode cX1_begin 174 = .ok (.return_, 1) := by decide +kernel
theorem dX1_begin_146 : decode cX1_begin 146 = .ok (.aload_n 0, 1) := by decide +kernel
theorem dX1_begin_147 : decode cX1_begin 147 = .ok (.getfield 9, 3) := by decide +kernel
theorem dX1_begin_150 : decode cX1_begin 150 = .ok (.iload_n 1, 1) := by decide +kernel
theorem dX1_begin_151 : decode cX1_begin 151 = .ok (.iload 4, 2) := by decide +kernel
theorem dX1_begin_153 : decode cX1_begin 153 = .ok (.iastore, 1) := by decide +kernel
theorem dX1_begin_154 : decode cX1_begin 154 = .ok (.return_, 1) := by decide +kernel
theorem dX1_begin_123 : decode cX1_begin 123 = .ok (.return_, 1) := by decide +kernel
theorem dX1_begin_34 : decode cX1_begin 34 = .ok (.aload_n 2, 1) := by decide +kernel
theorem dX1_begin_35 : decode cX1_begin 35 = .ok (.getfield 90, 3) := by decide +kernel
theorem dX1_begin_38 : decode cX1_begin 38 = .ok (.iload 4, 2) := by decide +kernel
theorem dX1_begin_40 : decode cX1_begin 40 = .ok (.iaload, 1) := by decide +kernel
theorem dX1_begin_41 : decode cX1_begin 41 = .ok (.istore 5, 2) := by decide +kernel
theorem dX1_begin_43 : decode cX1_begin 43 = .ok (.aload_n 0, 1) := by decide +kernel
theorem dX1_begin_44 : decode cX1_begin 44 = .ok (.getfield 24, 3) := by decide +kernel
theorem dX1_begin_47 : decode cX1_begin 47 = .ok (.iload 4, 2) := by decide +kernel
theorem dX1_begin_49 : decode cX1_begin 49 = .ok (.aload_n 0, 1) := by decide +kernel
theorem dX1_begin_50 : decode cX1_begin 50 = .ok (.getfield 15, 3) := by decide +kernel
theorem dX1_begin_53 : decode cX1_begin 53 = .ok (.iload 5, 2) := by decide +kernel
theorem dX1_begin_55 : decode cX1_begin 55 = .ok (.iaload, 1) := by decide +kernel
theorem dX1_begin_56 : decode cX1_begin 56 = .ok (.aload_n 0, 1) := by decide +kernel
theorem dX1_begin_57 : decode cX1_begin 57 = .ok (.iload 5, 2) := by decide +kernel
theorem dX1_begin_59 : decode cX1_begin 59 = .ok (.iload_n 1, 1) := by decide +kernel
theorem tw_616 : (Jvm.Cond.methodLink "MarshBells$Day" (93 : Nat) ({ cls := "MarshBells$Day", name := "way", desc := "(II)I" } : Jvm.MethodName)) ∈ lw_tbl := tk_3 (List.mem_of_getElem? (i := 136) rfl)
theorem tw_619 : (Jvm.Cond.code ({ cls := "MarshBells$Day", name := "way", desc := "(II)I" } : Jvm.MethodName) prog_3_method_6_code (4 : Nat) (Option.some Jvm.ClassFile.FieldType.int)) ∈ lw_tbl := tk_3 (List.mem_of_getElem? (i := 139) rfl)
theorem tw_618 : (Jvm.Cond.instanceMethod ({ cls := "MarshBells$Day", name := "way", desc := "(II)I" } : Jvm.MethodName)) ∈ lw_tbl := tk_3 (List.mem_of_getElem? (i := 138) rfl)
theorem se_X1_way : Cond.selects RX1 yX1_way yX1_way ∈ lw_tbl := List.mem_append_left _ (List.mem_of_getElem? (i := 14) rfl)
theorem li_X1_93 : kLV RX1 93 RX1 yX1_way cX1_way 4 (some .int) 2 := ⟨tw_616, tw_618, se_X1_way, tw_619, tw_7, by decide +kernel⟩
theorem dX1_way_0 : decode cX1_way 0 = .ok (.aload_n 0, 1) := by decide +kernel
theorem dX1_way_1 : decode cX1_way 1 = .ok (.getfield 37, 3) := by decide +kernel
theorem tw_171 : (Jvm.Cond.fieldLinkNest "MarshBells$Day" (117 : Nat) "MarshBells$Plan" "walk" "I" "MarshBells") ∈ lw_tbl := tk_1 (List.mem_of_getElem? (i := 171) rfl)
theorem fl_X1_117 : kFN RX1 117 7 5 3 := ⟨RX7, TX7, rfl, by decide, inWX7, tw_171⟩
theorem dX1_way_4 : decode cX1_way 4 = .ok (.getfield 117, 3) := by decide +kernel
theorem dX1_way_7 : decode cX1_way 7 = .ok (.aload_n 0, 1) := by decide +kernel
theorem dX1_way_8 : decode cX1_way 8 = .ok (.getfield 41, 3) := by decide +kernel
theorem dX1_way_11 : decode cX1_way 11 = .ok (.getfield 120, 3) := by decide +kernel
theorem dX1_way_14 : decode cX1_way 14 = .ok (.iload_n 1, 1) := by decide +kernel
theorem dX1_way_15 : decode cX1_way 15 = .ok (.iaload, 1) := by decide +kernel
theorem dX1_way_16 : decode cX1_way 16 = .ok (.aload_n 0, 1) := by decide +kernel
theorem dX1_way_17 : decode cX1_way 17 = .ok (.getfield 41, 3) := by decide +kernel
theorem dX1_way_20 : decode cX1_way 20 = .ok (.getfield 120, 3) := by decide +kernel
theorem dX1_way_23 : decode cX1_way 23 = .ok (.iload_n 2, 1) := by decide +kernel
theorem dX1_way_24 : decode cX1_way 24 = .ok (.iaload, 1) := by decide +kernel
theorem dX1_way_25 : decode cX1_way 25 = .ok (.isub, 1) := by decide +kernel
theorem tw_620 : (Jvm.Cond.methodLink "MarshBells$Day" (123 : Nat) ({ cls := "java/lang/Math", name := "abs", desc := "(I)I" } : Jvm.MethodName)) ∈ lw_tbl := tk_3 (List.mem_of_getElem? (i := 140) rfl)
theorem tw_621 : (Jvm.Cond.static ({ cls := "java/lang/Math", name := "abs", desc := "(I)I" } : Jvm.MethodName)) ∈ lw_tbl := tk_3 (List.mem_of_getElem? (i := 141) rfl)
theorem tw_18 : (Jvm.Cond.initialized "java/lang/Math") ∈ lw_tbl := tk_1 (List.mem_of_getElem? (i := 18) rfl)
theorem tw_622 : (Jvm.Cond.code ({ cls := "java/lang/Math", name := "abs", desc := "(I)I" } : Jvm.MethodName) prog_21_method_59_code (1 : Nat) (Option.some Jvm.ClassFile.FieldType.int)) ∈ lw_tbl := tk_3 (List.mem_of_getElem? (i := 142) rfl)
theorem lm_X1_123 : kLA RX1 123 Lib.Math.abs.name Lib.Math.abs.code := ⟨tw_620, tw_621, tw_18, tw_622⟩
theorem dX1_way_26 : decode cX1_way 26 = .ok (.invokestatic 123, 3) := by decide +kernel
theorem dX1_way_29 : decode cX1_way 29 = .ok (.imul, 1) := by decide +kernel
theorem dX1_way_30 : decode cX1_way 30 = .ok (.istore_n 3, 1) := by decide +kernel
theorem dX1_way_31 : decode cX1_way 31 = .ok (.aload_n 0, 1) := by decide +kernel
theorem dX1_way_32 : decode cX1_way 32 = .ok (.iload_n 1, 1) := by decide +kernel
theorem tw_623 : (Jvm.Cond.methodLink "MarshBells$Day" (127 : Nat) ({ cls := "MarshBells$Day", name := "isUpstairs", desc := "(I)Z" } : Jvm.MethodName)) ∈ lw_tbl := tk_3 (List.mem_of_getElem? (i := 143) rfl)
theorem tw_626 : (Jvm.Cond.code ({ cls := "MarshBells$Day", name := "isUpstairs", desc := "(I)Z" } : Jvm.MethodName) prog_3_method_7_code (2 : Nat) (Option.some Jvm.ClassFile.FieldType.boolean)) ∈ lw_tbl := tk_3 (List.mem_of_getElem? (i := 146) rfl)
theorem tw_625 : (Jvm.Cond.instanceMethod ({ cls := "MarshBells$Day", name := "isUpstairs", desc := "(I)Z" } : Jvm.MethodName)) ∈ lw_tbl := tk_3 (List.mem_of_getElem? (i := 145) rfl)
theorem se_X1_isUpstairs : Cond.selects RX1 yX1_isUpstairs yX1_isUpstairs ∈ lw_tbl := List.mem_append_left _ (List.mem_of_getElem? (i := 15) rfl)
theorem li_X1_127 : kLV RX1 127 RX1 yX1_isUpstairs cX1_isUpstairs 2 (some .boolean) 1 := ⟨tw_623, tw_625, se_X1_isUpstairs, tw_626, tw_7, by decide +kernel⟩
theorem dX1_way_33 : decode cX1_way 33 = .ok (.invokevirtual 127, 3) := by decide +kernel
theorem dX1_way_36 : decode cX1_way 36 = .ok (.aload_n 0, 1) := by decide +kernel
theorem dX1_way_37 : decode cX1_way 37 = .ok (.iload_n 2, 1) := by decide +kernel
theorem dX1_way_38 : decode cX1_way 38 = .ok (.invokevirtual 127, 3) := by decide +kernel
theorem dX1_way_41 : decode cX1_way 41 = .ok (.if_icmp .eq 14, 3) := by decide +kernel
theorem dX1_way_44 : decode cX1_way 44 = .ok (.aload_n 0, 1) := by decide +kernel
theorem dX1_way_45 : decode cX1_way 45 = .ok (.getfield 37, 3) := by decide +kernel
theorem tw_175 : (Jvm.Cond.fieldLinkNest "MarshBells$Day" (131 : Nat) "MarshBells$Plan" "stair" "I" "MarshBells") ∈ lw_tbl := tk_1 (List.mem_of_getElem? (i := 175) rfl)
theorem fl_X1_131 : kFN RX1 131 7 5 4 := ⟨RX7, TX7, rfl, by decide, inWX7, tw_175⟩
theorem dX1_way_48 : decode cX1_way 48 = .ok (.getfield 131, 3) := by decide +kernel
theorem dX1_way_51 : decode cX1_way 51 = .ok (.iconst 1, 1) := by decide +kernel
theorem dX1_way_52 : decode cX1_way 52 = .ok (.if_icmp .ge 5, 3) := by decide +kernel
theorem dX1_way_57 : decode cX1_way 57 = .ok (.iload_n 3, 1) := by decide +kernel
theorem dX1_way_58 : decode cX1_way 58 = .ok (.aload_n 0, 1) := by decide +kernel
theorem dX1_way_59 : decode cX1_way 59 = .ok (.getfield 37, 3) := by decide +kernel
theorem dX1_way_62 : decode cX1_way 62 = .ok (.getfield 58, 3) := by decide +kernel
theorem dX1_way_65 : decode cX1_way 65 = .ok (.iload_n 1, 1) := by decide +kernel
theorem dX1_way_66 : decode cX1_way 66 = .ok (.aaload, 1) := by decide +kernel
theorem dX1_way_67 : decode cX1_way 67 = .ok (.getfield 134, 3) := by decide +kernel
theorem dX1_way_70 : decode cX1_way 70 = .ok (.aload_n 0, 1) := by decide +kernel
theorem dX1_way_71 : decode cX1_way 71 = .ok (.getfield 37, 3) := by decide +kernel
theorem dX1_way_74 : decode cX1_way 74 = .ok (.getfield 131, 3) := by decide +kernel
theorem dX1_way_77 : decode cX1_way 77 = .ok (.iadd, 1) := by decide +kernel
theorem dX1_way_78 : decode cX1_way 78 = .ok (.iconst 1, 1) := by decide +kernel
theorem dX1_way_79 : decode cX1_way 79 = .ok (.isub, 1) := by decide +kernel
theorem dX1_way_80 : decode cX1_way 80 = .ok (.aload_n 0, 1) := by decide +kernel
theorem dX1_way_81 : decode cX1_way 81 = .ok (.getfield 37, 3) := by decide +kernel
theorem dX1_way_84 : decode cX1_way 84 = .ok (.getfield 131, 3) := by decide +kernel
theorem dX1_way_87 : decode cX1_way 87 = .ok (.idiv, 1) := by decide +kernel
theorem dX1_way_88 : decode cX1_way 88 = .ok (.iadd, 1) := by decide +kernel
theorem dX1_way_89 : decode cX1_way 89 = .ok (.ireturn, 1) := by decide +kernel
theorem dX1_way_55 : decode cX1_way 55 = .ok (.iload_n 3, 1) := by decide +kernel
theorem dX1_way_56 : decode cX1_way 56 = .ok (.ireturn, 1) := by decide +kernel
theorem dX1_begin_60 : decode cX1_begin 60 = .ok (.invokevirtual 93, 3) := by decide +kernel
theorem dX1_begin_63 : decode cX1_begin 63 = .ok (.iadd, 1) := by decide +kernel
theorem dX1_begin_64 : decode cX1_begin 64 = .ok (.aload_n 0, 1) := by decide +kernel
theorem dX1_begin_65 : decode cX1_begin 65 = .ok (.getfield 41, 3) := by decide +kernel
theorem tw_242 : (Jvm.Cond.fieldLinkNest "MarshBells$Day" (96 : Nat) "MarshBells$Held" "gaps" "[I" "MarshBells") ∈ lw_tbl := tk_2 (List.mem_of_getElem? (i := 2) rfl)
theorem fl_X1_96 : kFN RX1 96 3 12 1 := ⟨RX3, TX3, rfl, by decide, inWX3, tw_242⟩
theorem dX1_begin_68 : decode cX1_begin 68 = .ok (.getfield 96, 3) := by decide +kernel
theorem dX1_begin_71 : decode cX1_begin 71 = .ok (.iload_n 1, 1) := by decide +kernel
theorem dX1_begin_72 : decode cX1_begin 72 = .ok (.iaload, 1) := by decide +kernel
theorem dX1_begin_73 : decode cX1_begin 73 = .ok (.isub, 1) := by decide +kernel
theorem dX1_begin_74 : decode cX1_begin 74 = .ok (.iastore, 1) := by decide +kernel
theorem dX1_begin_75 : decode cX1_begin 75 = .ok (.iload_n 3, 1) := by decide +kernel
theorem dX1_begin_76 : decode cX1_begin 76 = .ok (.aload_n 0, 1) := by decide +kernel
theorem dX1_begin_77 : decode cX1_begin 77 = .ok (.getfield 24, 3) := by decide +kernel
theorem dX1_begin_80 : decode cX1_begin 80 = .ok (.iload 4, 2) := by decide +kernel
theorem dX1_begin_82 : decode cX1_begin 82 = .ok (.iaload, 1) := by decide +kernel
theorem tw_627 : (Jvm.Cond.methodLink "MarshBells$Day" (78 : Nat) ({ cls := "java/lang/Math", name := "max", desc := "(II)I" } : Jvm.MethodName)) ∈ lw_tbl := tk_3 (List.mem_of_getElem? (i := 147) rfl)
theorem tw_628 : (Jvm.Cond.static ({ cls := "java/lang/Math", name := "max", desc := "(II)I" } : Jvm.MethodName)) ∈ lw_tbl := tk_3 (List.mem_of_getElem? (i := 148) rfl)
theorem tw_629 : (Jvm.Cond.code ({ cls := "java/lang/Math", name := "max", desc := "(II)I" } : Jvm.MethodName) prog_21_method_65_code (2 : Nat) (Option.some Jvm.ClassFile.FieldType.int)) ∈ lw_tbl := tk_3 (List.mem_of_getElem? (i := 149) rfl)
theorem lm_X1_78 : kLM RX1 78 Lib.Math.max.name Lib.Math.max.code := ⟨tw_627, tw_628, tw_18, tw_629⟩
theorem dX1_begin_83 : decode cX1_begin 83 = .ok (.invokestatic 78, 3) := by decide +kernel
theorem dX1_begin_86 : decode cX1_begin 86 = .ok (.istore_n 3, 1) := by decide +kernel
theorem dX1_begin_87 : decode cX1_begin 87 = .ok (.iinc 4 1, 3) := by decide +kernel
theorem dX1_begin_90 : decode cX1_begin 90 = .ok (.goto (-65), 3) := by decide +kernel
theorem dX1_runOne_13 : decode cX1_runOne 13 = .ok (.invokevirtual 62, 3) := by decide +kernel
theorem dX1_runOne_16 : decode cX1_runOne 16 = .ok (.aload_n 0, 1) := by decide +kernel
theorem tw_308 : (Jvm.Cond.fieldLink "MarshBells$Day" (18 : Nat) "MarshBells$Day" "runsOver" "[I") ∈ lw_tbl := tk_2 (List.mem_of_getElem? (i := 68) rfl)
theorem fl_X1_18 : kFL RX1 18 1 10 3 := ⟨RX1, TX1, rfl, by decide, inWX1, tw_308⟩
theorem dX1_runOne_17 : decode cX1_runOne 17 = .ok (.getfield 18, 3) := by decide +kernel
theorem dX1_runOne_20 : decode cX1_runOne 20 = .ok (.iload_n 1, 1) := by decide +kernel
theorem dX1_runOne_21 : decode cX1_runOne 21 = .ok (.aload_n 0, 1) := by decide +kernel
theorem dX1_runOne_22 : decode cX1_runOne 22 = .ok (.iload_n 1, 1) := by decide +kernel
theorem dX1_runOne_23 : decode cX1_runOne 23 = .ok (.aload_n 2, 1) := by decide +kernel
theorem tw_638 : (Jvm.Cond.methodLink "MarshBells$Day" (66 : Nat) ({ cls := "MarshBells$Day", name := "overrun", desc := "(ILMarshBells$Lesson;)I" } : Jvm.MethodName)) ∈ lw_tbl := tk_3 (List.mem_of_getElem? (i := 158) rfl)
theorem tw_641 : (Jvm.Cond.code ({ cls := "MarshBells$Day", name := "overrun", desc := "(ILMarshBells$Lesson;)I" } : Jvm.MethodName) prog_3_method_10_code (5 : Nat) (Option.some Jvm.ClassFile.FieldType.int)) ∈ lw_tbl := tk_3 (List.mem_of_getElem? (i := 161) rfl)
theorem tw_640 : (Jvm.Cond.instanceMethod ({ cls := "MarshBells$Day", name := "overrun", desc := "(ILMarshBells$Lesson;)I" } : Jvm.MethodName)) ∈ lw_tbl := tk_3 (List.mem_of_getElem? (i := 160) rfl)
theorem se_X1_overrun : Cond.selects RX1 yX1_overrun yX1_overrun ∈ lw_tbl := List.mem_append_left _ (List.mem_of_getElem? (i := 18) rfl)
theorem li_X1_66 : kLV RX1 66 RX1 yX1_overrun cX1_overrun 5 (some .int) 2 := ⟨tw_638, tw_640, se_X1_overrun, tw_641, tw_7, by decide +kernel⟩
theorem dX1_overrun_0 : decode cX1_overrun 0 = .ok (.aload_n 0, 1) := by decide +kernel
theorem tw_320 : (Jvm.Cond.fieldLink "MarshBells$Day" (30 : Nat) "MarshBells$Day" "running" "I") ∈ lw_tbl := tk_2 (List.mem_of_getElem? (i := 80) rfl)
theorem fl_X1_30 : kFL RX1 30 1 10 8 := ⟨RX1, TX1, rfl, by decide, inWX1, tw_320⟩
theorem dX1_overrun_1 : decode cX1_overrun 1 = .ok (.getfield 30, 3) := by decide +kernel
theorem dX1_overrun_4 : decode cX1_overrun 4 = .ok (.iload_n 1, 1) := by decide +kernel
theorem dX1_overrun_5 : decode cX1_overrun 5 = .ok (.ishr, 1) := by decide +kernel
theorem dX1_overrun_6 : decode cX1_overrun 6 = .ok (.iconst 1, 1) := by decide +kernel
theorem dX1_overrun_7 : decode cX1_overrun 7 = .ok (.iand, 1) := by decide +kernel
theorem dX1_overrun_8 : decode cX1_overrun 8 = .ok (.ifCond .ne 5, 3) := by decide +kernel
theorem dX1_overrun_13 : decode cX1_overrun 13 = .ok (.iload_n 1, 1) := by decide +kernel
theorem dX1_overrun_14 : decode cX1_overrun 14 = .ok (.aload_n 0, 1) := by decide +kernel
theorem tw_322 : (Jvm.Cond.fieldLink "MarshBells$Day" (34 : Nat) "MarshBells$Day" "wide" "I") ∈ lw_tbl := tk_2 (List.mem_of_getElem? (i := 82) rfl)
theorem fl_X1_34 : kFL RX1 34 1 10 9 := ⟨RX1, TX1, rfl, by decide, inWX1, tw_322⟩
theorem dX1_overrun_15 : decode cX1_overrun 15 = .ok (.getfield 34, 3) := by decide +kernel
theorem dX1_overrun_18 : decode cX1_overrun 18 = .ok (.if_icmp .ne 9, 3) := by decide +kernel
theorem dX1_overrun_27 : decode cX1_overrun 27 = .ok (.bipush 60, 2) := by decide +kernel
theorem dX1_overrun_21 : decode cX1_overrun 21 = .ok (.sipush 180, 3) := by decide +kernel
theorem dX1_overrun_24 : decode cX1_overrun 24 = .ok (.goto 5, 3) := by decide +kernel
theorem dX1_overrun_29 : decode cX1_overrun 29 = .ok (.istore_n 3, 1) := by decide +kernel
theorem dX1_overrun_30 : decode cX1_overrun 30 = .ok (.aload_n 0, 1) := by decide +kernel
theorem dX1_overrun_31 : decode cX1_overrun 31 = .ok (.getfield 41, 3) := by decide +kernel
theorem tw_239 : (Jvm.Cond.fieldLinkNest "MarshBells$Day" (137 : Nat) "MarshBells$Held" "overs" "[I" "MarshBells") ∈ lw_tbl := tk_1 (List.mem_of_getElem? (i := 239) rfl)
theorem fl_X1_137 : kFN RX1 137 3 12 0 := ⟨RX3, TX3, rfl, by decide, inWX3, tw_239⟩
theorem dX1_overrun_34 : decode cX1_overrun 34 = .ok (.getfield 137, 3) := by decide +kernel
theorem dX1_overrun_37 : decode cX1_overrun 37 = .ok (.iload_n 1, 1) := by decide +kernel
theorem dX1_overrun_38 : decode cX1_overrun 38 = .ok (.iaload, 1) := by decide +kernel
theorem dX1_overrun_39 : decode cX1_overrun 39 = .ok (.istore 4, 2) := by decide +kernel
theorem dX1_overrun_41 : decode cX1_overrun 41 = .ok (.aload_n 0, 1) := by decide +kernel
theorem dX1_overrun_42 : decode cX1_overrun 42 = .ok (.getfield 41, 3) := by decide +kernel
theorem tw_265 : (Jvm.Cond.fieldLinkNest "MarshBells$Day" (140 : Nat) "MarshBells$Held" "rule" "I" "MarshBells") ∈ lw_tbl := tk_2 (List.mem_of_getElem? (i := 25) rfl)
theorem fl_X1_140 : kFN RX1 140 3 12 11 := ⟨RX3, TX3, rfl, by decide, inWX3, tw_265⟩
theorem dX1_overrun_45 : decode cX1_overrun 45 = .ok (.getfield 140, 3) := by decide +kernel
theorem dX1_overrun_48 : decode cX1_overrun 48 = .ok (.iconst (-1), 1) := by decide +kernel
theorem dX1_overrun_49 : decode cX1_overrun 49 = .ok (.if_icmp .eq 102, 3) := by decide +kernel
theorem dX1_overrun_52 : decode cX1_overrun 52 = .ok (.aload_n 0, 1) := by decide +kernel
theorem tw_313 : (Jvm.Cond.fieldLink "MarshBells$Day" (27 : Nat) "MarshBells$Day" "values" "[I") ∈ lw_tbl := tk_2 (List.mem_of_getElem? (i := 73) rfl)
theorem fl_X1_27 : kFL RX1 27 1 10 6 := ⟨RX1, TX1, rfl, by decide, inWX1, tw_313⟩
theorem dX1_overrun_53 : decode cX1_overrun 53 = .ok (.getfield 27, 3) := by decide +kernel
theorem dX1_overrun_56 : decode cX1_overrun 56 = .ok (.iconst 0, 1) := by decide +kernel
theorem dX1_overrun_57 : decode cX1_overrun 57 = .ok (.aload_n 0, 1) := by decide +kernel
theorem dX1_overrun_58 : decode cX1_overrun 58 = .ok (.getfield 41, 3) := by decide +kernel
theorem dX1_overrun_61 : decode cX1_overrun 61 = .ok (.getfield 137, 3) := by decide +kernel
theorem dX1_overrun_64 : decode cX1_overrun 64 = .ok (.iload_n 1, 1) := by decide +kernel
theorem dX1_overrun_65 : decode cX1_overrun 65 = .ok (.iaload, 1) := by decide +kernel
theorem dX1_overrun_66 : decode cX1_overrun 66 = .ok (.iastore, 1) := by decide +kernel
theorem dX1_overrun_67 : decode cX1_overrun 67 = .ok (.aload_n 0, 1) := by decide +kernel
theorem dX1_overrun_68 : decode cX1_overrun 68 = .ok (.getfield 27, 3) := by decide +kernel
theorem dX1_overrun_71 : decode cX1_overrun 71 = .ok (.iconst 1, 1) := by decide +kernel
theorem dX1_overrun_72 : decode cX1_overrun 72 = .ok (.aload_n 0, 1) := by decide +kernel
theorem dX1_overrun_73 : decode cX1_overrun 73 = .ok (.getfield 9, 3) := by decide +kernel
theorem dX1_overrun_76 : decode cX1_overrun 76 = .ok (.iload_n 1, 1) := by decide +kernel
theorem dX1_overrun_77 : decode cX1_overrun 77 = .ok (.iaload, 1) := by decide +kernel
theorem dX1_overrun_78 : decode cX1_overrun 78 = .ok (.aload_n 2, 1) := by decide +kernel
theorem dX1_overrun_79 : decode cX1_overrun 79 = .ok (.getfield 84, 3) := by decide +kernel
theorem dX1_overrun_82 : decode cX1_overrun 82 = .ok (.isub, 1) := by decide +kernel
theorem dX1_overrun_83 : decode cX1_overrun 83 = .ok (.iastore, 1) := by decide +kernel
theorem dX1_overrun_84 : decode cX1_overrun 84 = .ok (.aload_n 0, 1) := by decide +kernel
theorem dX1_overrun_85 : decode cX1_overrun 85 = .ok (.getfield 27, 3) := by decide +kernel
theorem dX1_overrun_88 : decode cX1_overrun 88 = .ok (.iconst 2, 1) := by decide +kernel
theorem dX1_overrun_89 : decode cX1_overrun 89 = .ok (.aload_n 0, 1) := by decide +kernel
theorem dX1_overrun_90 : decode cX1_overrun 90 = .ok (.getfield 9, 3) := by decide +kernel
theorem dX1_overrun_93 : decode cX1_overrun 93 = .ok (.iload_n 1, 1) := by decide +kernel
theorem dX1_overrun_94 : decode cX1_overrun 94 = .ok (.iaload, 1) := by decide +kernel
theorem dX1_overrun_95 : decode cX1_overrun 95 = .ok (.iastore, 1) := by decide +kernel
theorem dX1_overrun_96 : decode cX1_overrun 96 = .ok (.aload_n 0, 1) := by decide +kernel
theorem dX1_overrun_97 : decode cX1_overrun 97 = .ok (.getfield 27, 3) := by decide +kernel
theorem dX1_overrun_100 : decode cX1_overrun 100 = .ok (.iconst 3, 1) := by decide +kernel
theorem dX1_overrun_101 : decode cX1_overrun 101 = .ok (.aload_n 0, 1) := by decide +kernel
theorem dX1_overrun_102 : decode cX1_overrun 102 = .ok (.getfield 41, 3) := by decide +kernel
theorem dX1_overrun_105 : decode cX1_overrun 105 = .ok (.getfield 120, 3) := by decide +kernel
theorem dX1_overrun_108 : decode cX1_overrun 108 = .ok (.iload_n 1, 1) := by decide +kernel
theorem dX1_overrun_109 : decode cX1_overrun 109 = .ok (.iaload, 1) := by decide +kernel
theorem dX1_overrun_110 : decode cX1_overrun 110 = .ok (.iastore, 1) := by decide +kernel
theorem dX1_overrun_111 : decode cX1_overrun 111 = .ok (.aload_n 0, 1) := by decide +kernel
theorem dX1_overrun_112 : decode cX1_overrun 112 = .ok (.getfield 27, 3) := by decide +kernel
theorem dX1_overrun_115 : decode cX1_overrun 115 = .ok (.iconst 4, 1) := by decide +kernel
theorem dX1_overrun_116 : decode cX1_overrun 116 = .ok (.aload_n 2, 1) := by decide +kernel
theorem dX1_overrun_117 : decode cX1_overrun 117 = .ok (.getfield 134, 3) := by decide +kernel
theorem dX1_overrun_120 : decode cX1_overrun 120 = .ok (.iastore, 1) := by decide +kernel
theorem dX1_overrun_121 : decode cX1_overrun 121 = .ok (.aload_n 0, 1) := by decide +kernel
theorem dX1_overrun_122 : decode cX1_overrun 122 = .ok (.getfield 27, 3) := by decide +kernel
theorem dX1_overrun_125 : decode cX1_overrun 125 = .ok (.iconst 5, 1) := by decide +kernel
theorem dX1_overrun_126 : decode cX1_overrun 126 = .ok (.iload_n 1, 1) := by decide +kernel
theorem dX1_overrun_127 : decode cX1_overrun 127 = .ok (.iastore, 1) := by decide +kernel
theorem dX1_overrun_128 : decode cX1_overrun 128 = .ok (.aload_n 0, 1) := by decide +kernel
theorem dX1_overrun_129 : decode cX1_overrun 129 = .ok (.getfield 37, 3) := by decide +kernel
theorem tw_158 : (Jvm.Cond.fieldLinkNest "MarshBells$Day" (143 : Nat) "MarshBells$Plan" "rules" "LMarshBells$Rules;" "MarshBells") ∈ lw_tbl := tk_1 (List.mem_of_getElem? (i := 158) rfl)
theorem fl_X1_143 : kFN RX1 143 7 5 1 := ⟨RX7, TX7, rfl, by decide, inWX7, tw_158⟩
theorem dX1_overrun_132 : decode cX1_overrun 132 = .ok (.getfield 143, 3) := by decide +kernel
theorem dX1_overrun_135 : decode cX1_overrun 135 = .ok (.aload_n 0, 1) := by decide +kernel
theorem dX1_overrun_136 : decode cX1_overrun 136 = .ok (.getfield 41, 3) := by decide +kernel
theorem dX1_overrun_139 : decode cX1_overrun 139 = .ok (.getfield 140, 3) := by decide +kernel
theorem dX1_overrun_142 : decode cX1_overrun 142 = .ok (.aload_n 0, 1) := by decide +kernel
theorem dX1_overrun_143 : decode cX1_overrun 143 = .ok (.getfield 27, 3) := by decide +kernel
theorem tw_642 : (Jvm.Cond.methodLinkNest "MarshBells$Day" (147 : Nat) ({ cls := "MarshBells$Rules", name := "value", desc := "(I[I)I" } : Jvm.MethodName) "MarshBells") ∈ lw_tbl := tk_3 (List.mem_of_getElem? (i := 162) rfl)
theorem tw_3 : (Jvm.Cond.initialized "MarshBells$Rules") ∈ lw_tbl := tk_1 (List.mem_of_getElem? (i := 3) rfl)
theorem tw_645 : (Jvm.Cond.code ({ cls := "MarshBells$Rules", name := "value", desc := "(I[I)I" } : Jvm.MethodName) prog_10_method_5_code (6 : Nat) (Option.some Jvm.ClassFile.FieldType.int)) ∈ lw_tbl := tk_3 (List.mem_of_getElem? (i := 165) rfl)
theorem tw_644 : (Jvm.Cond.instanceMethod ({ cls := "MarshBells$Rules", name := "value", desc := "(I[I)I" } : Jvm.MethodName)) ∈ lw_tbl := tk_3 (List.mem_of_getElem? (i := 164) rfl)
theorem se_X8_value : Cond.selects RX8 yX8_value yX8_value ∈ lw_tbl := List.mem_append_left _ (List.mem_of_getElem? (i := 19) rfl)
theorem li_X1_147 : kLN RX1 147 RX8 yX8_value "MarshBells" cX8_value 6 (some .int) 2 := ⟨tw_642, tw_644, se_X8_value, tw_645, tw_3, by decide +kernel⟩
theorem dX8_value_0 : decode cX8_value 0 = .ok (.iload_n 1, 1) := by decide +kernel
theorem dX8_value_1 : decode cX8_value 1 = .ok (.ifCond .lt 11, 3) := by decide +kernel
theorem dX8_value_4 : decode cX8_value 4 = .ok (.iload_n 1, 1) := by decide +kernel
theorem dX8_value_5 : decode cX8_value 5 = .ok (.aload_n 0, 1) := by decide +kernel
theorem tw_56 : (Jvm.Cond.laysFinal "MarshBells$Rules" "MarshBells$Rules" "steps" "[I") ∈ lw_tbl := tk_1 (List.mem_of_getElem? (i := 56) rfl)
theorem tw_58 : (Jvm.Cond.laysFinal "MarshBells$Rules" "MarshBells$Rules" "bounds" "[I") ∈ lw_tbl := tk_1 (List.mem_of_getElem? (i := 58) rfl)
theorem tw_60 : (Jvm.Cond.laysFinal "MarshBells$Rules" "MarshBells$Rules" "stack" "[I") ∈ lw_tbl := tk_1 (List.mem_of_getElem? (i := 60) rfl)
theorem tw_62 : (Jvm.Cond.lays "MarshBells$Rules" "MarshBells$Rules" "size" "I") ∈ lw_tbl := tk_1 (List.mem_of_getElem? (i := 62) rfl)
theorem tw_64 : (Jvm.Cond.lays "MarshBells$Rules" "MarshBells$Rules" "used" "I") ∈ lw_tbl := tk_1 (List.mem_of_getElem? (i := 64) rfl)
theorem inWX8 : ∀ w ∈ u_ws RX8 TX8 5, w ∈ lw_tbl := by
  have e : ∀ k, k < 5 → u_lay RX8 TX8 k ∈ lw_tbl := fun k hk => match k, hk with | 0, _ => tw_56 | 1, _ => tw_58 | 2, _ => tw_60 | 3, _ => tw_62 | 4, _ => tw_64 | k + 5, hk => absurd hk (by omega)
  intro w h
  obtain ⟨k, hk, rfl⟩ := List.mem_map.mp h
  exact e k (List.mem_range.mp hk)
theorem tw_51 : (Jvm.Cond.fieldLink "MarshBells$Rules" (21 : Nat) "MarshBells$Rules" "size" "I") ∈ lw_tbl := tk_1 (List.mem_of_getElem? (i := 51) rfl)
theorem fl_X8_21 : kFL RX8 21 8 5 3 := ⟨RX8, TX8, rfl, by decide, inWX8, tw_51⟩
theorem dX8_value_6 : decode cX8_value 6 = .ok (.getfield 21, 3) := by decide +kernel
theorem dX8_value_9 : decode cX8_value 9 = .ok (.if_icmp .lt 5, 3) := by decide +kernel
theorem dX8_value_14 : decode cX8_value 14 = .ok (.iconst 0, 1) := by decide +kernel
theorem dX8_value_15 : decode cX8_value 15 = .ok (.istore_n 3, 1) := by decide +kernel
theorem dX8_value_16 : decode cX8_value 16 = .ok (.aload_n 0, 1) := by decide +kernel
theorem tw_49 : (Jvm.Cond.fieldLink "MarshBells$Rules" (15 : Nat) "MarshBells$Rules" "bounds" "[I") ∈ lw_tbl := tk_1 (List.mem_of_getElem? (i := 49) rfl)
theorem fl_X8_15 : kFL RX8 15 8 5 1 := ⟨RX8, TX8, rfl, by decide, inWX8, tw_49⟩
theorem dX8_value_17 : decode cX8_value 17 = .ok (.getfield 15, 3) := by decide +kernel
theorem dX8_value_20 : decode cX8_value 20 = .ok (.iload_n 1, 1) := by decide +kernel
theorem dX8_value_21 : decode cX8_value 21 = .ok (.iaload, 1) := by decide +kernel
theorem dX8_value_22 : decode cX8_value 22 = .ok (.istore 4, 2) := by decide +kernel
theorem dX8_value_24 : decode cX8_value 24 = .ok (.iload 4, 2) := by decide +kernel
theorem dX8_value_26 : decode cX8_value 26 = .ok (.aload_n 0, 1) := by decide +kernel
theorem dX8_value_27 : decode cX8_value 27 = .ok (.getfield 15, 3) := by decide +kernel
theorem dX8_value_30 : decode cX8_value 30 = .ok (.iload_n 1, 1) := by decide +kernel
theorem dX8_value_31 : decode cX8_value 31 = .ok (.iconst 1, 1) := by decide +kernel
theorem dX8_value_32 : decode cX8_value 32 = .ok (.iadd, 1) := by decide +kernel
theorem dX8_value_33 : decode cX8_value 33 = .ok (.iaload, 1) := by decide +kernel
theorem dX8_value_34 : decode cX8_value 34 = .ok (.if_icmp .ge 139, 3) := by decide +kernel
theorem dX8_value_173 : decode cX8_value 173 = .ok (.iload_n 3, 1) := by decide +kernel
theorem dX8_value_174 : decode cX8_value 174 = .ok (.iconst 1, 1) := by decide +kernel
theorem dX8_value_175 : decode cX8_value 175 = .ok (.if_icmp .ne 12, 3) := by decide +kernel
theorem dX8_value_187 : decode cX8_value 187 = .ok (.iconst 0, 1) := by decide +kernel
theorem dX8_value_188 : decode cX8_value 188 = .ok (.ireturn, 1) := by decide +kernel
theorem dX8_value_37 : decode cX8_value 37 = .ok (.aload_n 0, 1) := by decide +kernel
theorem tw_48 : (Jvm.Cond.fieldLink "MarshBells$Rules" (9 : Nat) "MarshBells$Rules" "steps" "[I") ∈ lw_tbl := tk_1 (List.mem_of_getElem? (i := 48) rfl)
theorem fl_X8_9 : kFL RX8 9 8 5 0 := ⟨RX8, TX8, rfl, by decide, inWX8, tw_48⟩
theorem dX8_value_38 : decode cX8_value 38 = .ok (.getfield 9, 3) := by decide +kernel
theorem dX8_value_41 : decode cX8_value 41 = .ok (.iload 4, 2) := by decide +kernel
theorem dX8_value_43 : decode cX8_value 43 = .ok (.iaload, 1) := by decide +kernel
theorem dX8_value_44 : decode cX8_value 44 = .ok (.istore 5, 2) := by decide +kernel
theorem dX8_value_46 : decode cX8_value 46 = .ok (.iload 5, 2) := by decide +kernel
theorem dX8_value_48 : decode cX8_value 48 = .ok (.bipush (-6), 2) := by decide +kernel
theorem dX8_value_50 : decode cX8_value 50 = .ok (.if_icmp .lt 39, 3) := by decide +kernel
theorem dX8_value_89 : decode cX8_value 89 = .ok (.iload 5, 2) := by decide +kernel
theorem dX8_value_91 : decode cX8_value 91 = .ok (.bipush (-15), 2) := by decide +kernel
theorem dX8_value_93 : decode cX8_value 93 = .ok (.if_icmp .ne 37, 3) := by decide +kernel
theorem dX8_value_130 : decode cX8_value 130 = .ok (.iload_n 3, 1) := by decide +kernel
theorem dX8_value_131 : decode cX8_value 131 = .ok (.iconst 2, 1) := by decide +kernel
theorem dX8_value_132 : decode cX8_value 132 = .ok (.if_icmp .ge 5, 3) := by decide +kernel
theorem dX8_value_135 : decode cX8_value 135 = .ok (.iconst 0, 1) := by decide +kernel
theorem dX8_value_136 : decode cX8_value 136 = .ok (.ireturn, 1) := by decide +kernel
theorem dX8_value_96 : decode cX8_value 96 = .ok (.iload_n 3, 1) := by decide +kernel
theorem dX8_value_97 : decode cX8_value 97 = .ok (.iconst 1, 1) := by decide +kernel
theorem dX8_value_98 : decode cX8_value 98 = .ok (.if_icmp .ge 5, 3) := by decide +kernel
theorem dX8_value_101 : decode cX8_value 101 = .ok (.iconst 0, 1) := by decide +kernel
theorem dX8_value_102 : decode cX8_value 102 = .ok (.ireturn, 1) := by decide +kernel
theorem dX8_value_53 : decode cX8_value 53 = .ok (.iload_n 3, 1) := by decide +kernel
theorem dX8_value_54 : decode cX8_value 54 = .ok (.bipush 64, 2) := by decide +kernel
theorem dX8_value_56 : decode cX8_value 56 = .ok (.if_icmp .lt 5, 3) := by decide +kernel
theorem dX8_value_61 : decode cX8_value 61 = .ok (.aload_n 0, 1) := by decide +kernel
theorem tw_50 : (Jvm.Cond.fieldLink "MarshBells$Rules" (18 : Nat) "MarshBells$Rules" "stack" "[I") ∈ lw_tbl := tk_1 (List.mem_of_getElem? (i := 50) rfl)
theorem fl_X8_18 : kFL RX8 18 8 5 2 := ⟨RX8, TX8, rfl, by decide, inWX8, tw_50⟩
theorem dX8_value_62 : decode cX8_value 62 = .ok (.getfield 18, 3) := by decide +kernel
theorem dX8_value_65 : decode cX8_value 65 = .ok (.iload_n 3, 1) := by decide +kernel
theorem dX8_value_66 : decode cX8_value 66 = .ok (.iload 5, 2) := by decide +kernel
theorem dX8_value_68 : decode cX8_value 68 = .ok (.ifCond .lt 8, 3) := by decide +kernel
theorem dX8_value_76 : decode cX8_value 76 = .ok (.aload_n 2, 1) := by decide +kernel
theorem dX8_value_77 : decode cX8_value 77 = .ok (.iconst (-1), 1) := by decide +kernel
theorem dX8_value_78 : decode cX8_value 78 = .ok (.iload 5, 2) := by decide +kernel
theorem dX8_value_80 : decode cX8_value 80 = .ok (.isub, 1) := by decide +kernel
theorem dX8_value_81 : decode cX8_value 81 = .ok (.iaload, 1) := by decide +kernel
theorem dX8_value_71 : decode cX8_value 71 = .ok (.iload 5, 2) := by decide +kernel
theorem dX8_value_73 : decode cX8_value 73 = .ok (.goto 9, 3) := by decide +kernel
theorem dX8_value_82 : decode cX8_value 82 = .ok (.iastore, 1) := by decide +kernel
theorem dX8_value_83 : decode cX8_value 83 = .ok (.iinc 3 1, 3) := by decide +kernel
theorem dX8_value_86 : decode cX8_value 86 = .ok (.goto 81, 3) := by decide +kernel
theorem dX8_value_167 : decode cX8_value 167 = .ok (.iinc 4 1, 3) := by decide +kernel
theorem dX8_value_170 : decode cX8_value 170 = .ok (.goto (-146), 3) := by decide +kernel
theorem dX8_value_178 : decode cX8_value 178 = .ok (.aload_n 0, 1) := by decide +kernel
theorem dX8_value_179 : decode cX8_value 179 = .ok (.getfield 18, 3) := by decide +kernel
theorem dX8_value_182 : decode cX8_value 182 = .ok (.iconst 0, 1) := by decide +kernel
theorem dX8_value_183 : decode cX8_value 183 = .ok (.iaload, 1) := by decide +kernel
theorem dX8_value_184 : decode cX8_value 184 = .ok (.goto 4, 3) := by decide +kernel
theorem dX8_value_103 : decode cX8_value 103 = .ok (.aload_n 0, 1) := by decide +kernel
theorem dX8_value_104 : decode cX8_value 104 = .ok (.getfield 18, 3) := by decide +kernel
theorem dX8_value_107 : decode cX8_value 107 = .ok (.iload_n 3, 1) := by decide +kernel
theorem dX8_value_108 : decode cX8_value 108 = .ok (.iconst 1, 1) := by decide +kernel
theorem dX8_value_109 : decode cX8_value 109 = .ok (.isub, 1) := by decide +kernel
theorem dX8_value_110 : decode cX8_value 110 = .ok (.aload_n 0, 1) := by decide +kernel
theorem dX8_value_111 : decode cX8_value 111 = .ok (.getfield 18, 3) := by decide +kernel
theorem dX8_value_114 : decode cX8_value 114 = .ok (.iload_n 3, 1) := by decide +kernel
theorem dX8_value_115 : decode cX8_value 115 = .ok (.iconst 1, 1) := by decide +kernel
theorem dX8_value_116 : decode cX8_value 116 = .ok (.isub, 1) := by decide +kernel
theorem dX8_value_117 : decode cX8_value 117 = .ok (.iaload, 1) := by decide +kernel
theorem dX8_value_118 : decode cX8_value 118 = .ok (.ifCond .ne 7, 3) := by decide +kernel
theorem dX8_value_125 : decode cX8_value 125 = .ok (.iconst 0, 1) := by decide +kernel
theorem dX8_value_121 : decode cX8_value 121 = .ok (.iconst 1, 1) := by decide +kernel
theorem dX8_value_122 : decode cX8_value 122 = .ok (.goto 4, 3) := by decide +kernel
theorem dX8_value_126 : decode cX8_value 126 = .ok (.iastore, 1) := by decide +kernel
theorem dX8_value_127 : decode cX8_value 127 = .ok (.goto 40, 3) := by decide +kernel
theorem dX8_value_137 : decode cX8_value 137 = .ok (.iinc 3 (-1), 3) := by decide +kernel
theorem dX8_value_140 : decode cX8_value 140 = .ok (.aload_n 0, 1) := by decide +kernel
theorem dX8_value_141 : decode cX8_value 141 = .ok (.getfield 18, 3) := by decide +kernel
theorem dX8_value_144 : decode cX8_value 144 = .ok (.iload_n 3, 1) := by decide +kernel
theorem dX8_value_145 : decode cX8_value 145 = .ok (.iconst 1, 1) := by decide +kernel
theorem dX8_value_146 : decode cX8_value 146 = .ok (.isub, 1) := by decide +kernel
theorem dX8_value_147 : decode cX8_value 147 = .ok (.iload 5, 2) := by decide +kernel
theorem dX8_value_149 : decode cX8_value 149 = .ok (.aload_n 0, 1) := by decide +kernel
theorem dX8_value_150 : decode cX8_value 150 = .ok (.getfield 18, 3) := by decide +kernel
theorem dX8_value_153 : decode cX8_value 153 = .ok (.iload_n 3, 1) := by decide +kernel
theorem dX8_value_154 : decode cX8_value 154 = .ok (.iconst 1, 1) := by decide +kernel
theorem dX8_value_155 : decode cX8_value 155 = .ok (.isub, 1) := by decide +kernel
theorem dX8_value_156 : decode cX8_value 156 = .ok (.iaload, 1) := by decide +kernel
theorem dX8_value_157 : decode cX8_value 157 = .ok (.aload_n 0, 1) := by decide +kernel
theorem dX8_value_158 : decode cX8_value 158 = .ok (.getfield 18, 3) := by decide +kernel
theorem dX8_value_161 : decode cX8_value 161 = .ok (.iload_n 3, 1) := by decide +kernel
theorem dX8_value_162 : decode cX8_value 162 = .ok (.iaload, 1) := by decide +kernel
theorem tw_646 : (Jvm.Cond.methodLink "MarshBells$Rules" (28 : Nat) ({ cls := "MarshBells$Rules", name := "joined", desc := "(III)I" } : Jvm.MethodName)) ∈ lw_tbl := tk_3 (List.mem_of_getElem? (i := 166) rfl)
theorem tw_648 : (Jvm.Cond.code ({ cls := "MarshBells$Rules", name := "joined", desc := "(III)I" } : Jvm.MethodName) prog_10_method_6_code (3 : Nat) (Option.some Jvm.ClassFile.FieldType.int)) ∈ lw_tbl := tk_3 (List.mem_of_getElem? (i := 168) rfl)
theorem tw_647 : (Jvm.Cond.static ({ cls := "MarshBells$Rules", name := "joined", desc := "(III)I" } : Jvm.MethodName)) ∈ lw_tbl := tk_3 (List.mem_of_getElem? (i := 167) rfl)
theorem li_X8_28 : kLS RX8 28 yX8_joined cX8_joined 3 (some .int) 3 := ⟨tw_646, tw_647, tw_648, tw_3, by decide +kernel⟩
theorem dX8_joined_0 : decode cX8_joined 0 = .ok (.iload_n 0, 1) := by decide +kernel
theorem dX8_joined_1 : decode cX8_joined 1 = .ok (.tableswitch 103 (-13) (-7) #[89, 78, 67, 55, 51, 47, 43], 43) := by decide +kernel
theorem dX8_joined_90 : decode cX8_joined 90 = .ok (.iload_n 1, 1) := by decide +kernel
theorem dX8_joined_91 : decode cX8_joined 91 = .ok (.ifCond .eq 11, 3) := by decide +kernel
theorem dX8_joined_94 : decode cX8_joined 94 = .ok (.iload_n 2, 1) := by decide +kernel
theorem dX8_joined_95 : decode cX8_joined 95 = .ok (.ifCond .eq 7, 3) := by decide +kernel
theorem dX8_joined_98 : decode cX8_joined 98 = .ok (.iconst 1, 1) := by decide +kernel
theorem dX8_joined_99 : decode cX8_joined 99 = .ok (.goto 4, 3) := by decide +kernel
theorem dX8_joined_102 : decode cX8_joined 102 = .ok (.iconst 0, 1) := by decide +kernel
theorem dX8_joined_103 : decode cX8_joined 103 = .ok (.ireturn, 1) := by decide +kernel
theorem dX8_joined_79 : decode cX8_joined 79 = .ok (.iload_n 1, 1) := by decide +kernel
theorem dX8_joined_80 : decode cX8_joined 80 = .ok (.iload_n 2, 1) := by decide +kernel
theorem dX8_joined_81 : decode cX8_joined 81 = .ok (.if_icmp .ne 7, 3) := by decide +kernel
theorem dX8_joined_88 : decode cX8_joined 88 = .ok (.iconst 0, 1) := by decide +kernel
theorem dX8_joined_84 : decode cX8_joined 84 = .ok (.iconst 1, 1) := by decide +kernel
theorem dX8_joined_85 : decode cX8_joined 85 = .ok (.goto 4, 3) := by decide +kernel
theorem dX8_joined_89 : decode cX8_joined 89 = .ok (.ireturn, 1) := by decide +kernel
theorem dX8_joined_68 : decode cX8_joined 68 = .ok (.iload_n 1, 1) := by decide +kernel
theorem dX8_joined_69 : decode cX8_joined 69 = .ok (.iload_n 2, 1) := by decide +kernel
theorem dX8_joined_70 : decode cX8_joined 70 = .ok (.if_icmp .ge 7, 3) := by decide +kernel
theorem dX8_joined_77 : decode cX8_joined 77 = .ok (.iconst 0, 1) := by decide +kernel
theorem dX8_joined_73 : decode cX8_joined 73 = .ok (.iconst 1, 1) := by decide +kernel
theorem dX8_joined_74 : decode cX8_joined 74 = .ok (.goto 4, 3) := by decide +kernel
theorem dX8_joined_78 : decode cX8_joined 78 = .ok (.ireturn, 1) := by decide +kernel
theorem dX8_joined_56 : decode cX8_joined 56 = .ok (.iload_n 2, 1) := by decide +kernel
theorem dX8_joined_57 : decode cX8_joined 57 = .ok (.ifCond .ne 7, 3) := by decide +kernel
theorem dX8_joined_64 : decode cX8_joined 64 = .ok (.iload_n 1, 1) := by decide +kernel
theorem dX8_joined_65 : decode cX8_joined 65 = .ok (.iload_n 2, 1) := by decide +kernel
theorem dX8_joined_66 : decode cX8_joined 66 = .ok (.idiv, 1) := by decide +kernel
theorem dX8_joined_60 : decode cX8_joined 60 = .ok (.iconst 0, 1) := by decide +kernel
theorem dX8_joined_61 : decode cX8_joined 61 = .ok (.goto 6, 3) := by decide +kernel
theorem dX8_joined_67 : decode cX8_joined 67 = .ok (.ireturn, 1) := by decide +kernel
theorem dX8_joined_52 : decode cX8_joined 52 = .ok (.iload_n 1, 1) := by decide +kernel
theorem dX8_joined_53 : decode cX8_joined 53 = .ok (.iload_n 2, 1) := by decide +kernel
theorem dX8_joined_54 : decode cX8_joined 54 = .ok (.imul, 1) := by decide +kernel
theorem dX8_joined_55 : decode cX8_joined 55 = .ok (.ireturn, 1) := by decide +kernel
theorem dX8_joined_48 : decode cX8_joined 48 = .ok (.iload_n 1, 1) := by decide +kernel
theorem dX8_joined_49 : decode cX8_joined 49 = .ok (.iload_n 2, 1) := by decide +kernel
theorem dX8_joined_50 : decode cX8_joined 50 = .ok (.isub, 1) := by decide +kernel
theorem dX8_joined_51 : decode cX8_joined 51 = .ok (.ireturn, 1) := by decide +kernel
theorem dX8_joined_44 : decode cX8_joined 44 = .ok (.iload_n 1, 1) := by decide +kernel
theorem dX8_joined_45 : decode cX8_joined 45 = .ok (.iload_n 2, 1) := by decide +kernel
theorem dX8_joined_46 : decode cX8_joined 46 = .ok (.iadd, 1) := by decide +kernel
theorem dX8_joined_47 : decode cX8_joined 47 = .ok (.ireturn, 1) := by decide +kernel
theorem dX8_joined_104 : decode cX8_joined 104 = .ok (.iload_n 1, 1) := by decide +kernel
theorem dX8_joined_105 : decode cX8_joined 105 = .ok (.ifCond .ne 7, 3) := by decide +kernel
theorem dX8_joined_108 : decode cX8_joined 108 = .ok (.iload_n 2, 1) := by decide +kernel
theorem dX8_joined_109 : decode cX8_joined 109 = .ok (.ifCond .eq 7, 3) := by decide +kernel
theorem dX8_joined_116 : decode cX8_joined 116 = .ok (.iconst 0, 1) := by decide +kernel
theorem dX8_joined_112 : decode cX8_joined 112 = .ok (.iconst 1, 1) := by decide +kernel
theorem dX8_joined_113 : decode cX8_joined 113 = .ok (.goto 4, 3) := by decide +kernel
theorem dX8_joined_117 : decode cX8_joined 117 = .ok (.ireturn, 1) := by decide +kernel
theorem dX8_value_163 : decode cX8_value 163 = .ok (.invokestatic 28, 3) := by decide +kernel
theorem dX8_value_166 : decode cX8_value 166 = .ok (.iastore, 1) := by decide +kernel
theorem dX8_value_59 : decode cX8_value 59 = .ok (.iconst 0, 1) := by decide +kernel
theorem dX8_value_60 : decode cX8_value 60 = .ok (.ireturn, 1) := by decide +kernel
theorem dX8_value_12 : decode cX8_value 12 = .ok (.iconst 0, 1) := by decide +kernel
theorem dX8_value_13 : decode cX8_value 13 = .ok (.ireturn, 1) := by decide +kernel
theorem dX1_overrun_146 : decode cX1_overrun 146 = .ok (.invokevirtual 147, 3) := by decide +kernel
theorem dX1_overrun_149 : decode cX1_overrun 149 = .ok (.istore 4, 2) := by decide +kernel
theorem dX1_overrun_151 : decode cX1_overrun 151 = .ok (.iconst 0, 1) := by decide +kernel
theorem dX1_overrun_152 : decode cX1_overrun 152 = .ok (.iload_n 3, 1) := by decide +kernel
theorem dX1_overrun_153 : decode cX1_overrun 153 = .ok (.iload 4, 2) := by decide +kernel
theorem tw_649 : (Jvm.Cond.methodLink "MarshBells$Day" (153 : Nat) ({ cls := "java/lang/Math", name := "min", desc := "(II)I" } : Jvm.MethodName)) ∈ lw_tbl := tk_3 (List.mem_of_getElem? (i := 169) rfl)
theorem tw_650 : (Jvm.Cond.static ({ cls := "java/lang/Math", name := "min", desc := "(II)I" } : Jvm.MethodName)) ∈ lw_tbl := tk_3 (List.mem_of_getElem? (i := 170) rfl)
theorem tw_651 : (Jvm.Cond.code ({ cls := "java/lang/Math", name := "min", desc := "(II)I" } : Jvm.MethodName) prog_21_method_69_code (2 : Nat) (Option.some Jvm.ClassFile.FieldType.int)) ∈ lw_tbl := tk_3 (List.mem_of_getElem? (i := 171) rfl)
theorem lm_X1_153 : kLM RX1 153 Lib.Math.min.name Lib.Math.min.code := ⟨tw_649, tw_650, tw_18, tw_651⟩
theorem dX1_overrun_155 : decode cX1_overrun 155 = .ok (.invokestatic 153, 3) := by decide +kernel
theorem dX1_overrun_158 : decode cX1_overrun 158 = .ok (.invokestatic 78, 3) := by decide +kernel
theorem dX1_overrun_161 : decode cX1_overrun 161 = .ok (.ireturn, 1) := by decide +kernel
theorem dX1_overrun_11 : decode cX1_overrun 11 = .ok (.iconst 0, 1) := by decide +kernel
theorem dX1_overrun_12 : decode cX1_overrun 12 = .ok (.ireturn, 1) := by decide +kernel
theorem dX1_runOne_24 : decode cX1_runOne 24 = .ok (.invokevirtual 66, 3) := by decide +kernel
theorem dX1_runOne_27 : decode cX1_runOne 27 = .ok (.iastore, 1) := by decide +kernel
theorem dX1_runOne_28 : decode cX1_runOne 28 = .ok (.aload_n 0, 1) := by decide +kernel
theorem dX1_runOne_29 : decode cX1_runOne 29 = .ok (.getfield 15, 3) := by decide +kernel
theorem dX1_runOne_32 : decode cX1_runOne 32 = .ok (.iload_n 1, 1) := by decide +kernel
theorem dX1_runOne_33 : decode cX1_runOne 33 = .ok (.aload_n 2, 1) := by decide +kernel
theorem dX1_runOne_34 : decode cX1_runOne 34 = .ok (.getfield 70, 3) := by decide +kernel
theorem dX1_runOne_37 : decode cX1_runOne 37 = .ok (.aload_n 0, 1) := by decide +kernel
theorem dX1_runOne_38 : decode cX1_runOne 38 = .ok (.getfield 9, 3) := by decide +kernel
theorem dX1_runOne_41 : decode cX1_runOne 41 = .ok (.iload_n 1, 1) := by decide +kernel
theorem dX1_runOne_42 : decode cX1_runOne 42 = .ok (.iaload, 1) := by decide +kernel
theorem dX1_runOne_43 : decode cX1_runOne 43 = .ok (.aload_n 2, 1) := by decide +kernel
theorem tw_92 : (Jvm.Cond.fieldLinkNest "MarshBells$Day" (75 : Nat) "MarshBells$Lesson" "least" "I" "MarshBells") ∈ lw_tbl := tk_1 (List.mem_of_getElem? (i := 92) rfl)
theorem fl_X1_75 : kFN RX1 75 5 14 5 := ⟨RX5, TX5, rfl, by decide, inWX5, tw_92⟩
theorem dX1_runOne_44 : decode cX1_runOne 44 = .ok (.getfield 75, 3) := by decide +kernel
theorem dX1_runOne_47 : decode cX1_runOne 47 = .ok (.iadd, 1) := by decide +kernel
theorem dX1_runOne_48 : decode cX1_runOne 48 = .ok (.invokestatic 78, 3) := by decide +kernel
theorem dX1_runOne_51 : decode cX1_runOne 51 = .ok (.aload_n 0, 1) := by decide +kernel
theorem dX1_runOne_52 : decode cX1_runOne 52 = .ok (.getfield 18, 3) := by decide +kernel
theorem dX1_runOne_55 : decode cX1_runOne 55 = .ok (.iload_n 1, 1) := by decide +kernel
theorem dX1_runOne_56 : decode cX1_runOne 56 = .ok (.iaload, 1) := by decide +kernel
theorem dX1_runOne_57 : decode cX1_runOne 57 = .ok (.iadd, 1) := by decide +kernel
theorem dX1_runOne_58 : decode cX1_runOne 58 = .ok (.iastore, 1) := by decide +kernel
theorem dX1_runOne_59 : decode cX1_runOne 59 = .ok (.return_, 1) := by decide +kernel
theorem dX1_runFrom_15 : decode cX1_runFrom 15 = .ok (.invokevirtual 50, 3) := by decide +kernel
theorem dX1_runFrom_18 : decode cX1_runFrom 18 = .ok (.iinc 2 1, 3) := by decide +kernel
theorem dX1_runFrom_21 : decode cX1_runFrom 21 = .ok (.goto (-19), 3) := by decide +kernel
theorem dX1_lostFrom_0 : decode cX1_lostFrom 0 = .ok (.iload_n 1, 1) := by decide +kernel
theorem dX1_lostFrom_1 : decode cX1_lostFrom 1 = .ok (.istore_n 2, 1) := by decide +kernel
theorem dX1_lostFrom_2 : decode cX1_lostFrom 2 = .ok (.iload_n 2, 1) := by decide +kernel
theorem dX1_lostFrom_3 : decode cX1_lostFrom 3 = .ok (.aload_n 0, 1) := by decide +kernel
theorem dX1_lostFrom_4 : decode cX1_lostFrom 4 = .ok (.getfield 37, 3) := by decide +kernel
theorem dX1_lostFrom_7 : decode cX1_lostFrom 7 = .ok (.getfield 45, 3) := by decide +kernel
theorem dX1_lostFrom_10 : decode cX1_lostFrom 10 = .ok (.if_icmp .ge 14, 3) := by decide +kernel
theorem dX1_lostFrom_24 : decode cX1_lostFrom 24 = .ok (.aload_n 0, 1) := by decide +kernel
theorem tw_652 : (Jvm.Cond.methodLink "MarshBells$Day" (54 : Nat) ({ cls := "MarshBells$Day", name := "lost", desc := "()I" } : Jvm.MethodName)) ∈ lw_tbl := tk_3 (List.mem_of_getElem? (i := 172) rfl)
theorem tw_655 : (Jvm.Cond.code ({ cls := "MarshBells$Day", name := "lost", desc := "()I" } : Jvm.MethodName) prog_3_method_12_code (3 : Nat) (Option.some Jvm.ClassFile.FieldType.int)) ∈ lw_tbl := tk_3 (List.mem_of_getElem? (i := 175) rfl)
theorem tw_654 : (Jvm.Cond.instanceMethod ({ cls := "MarshBells$Day", name := "lost", desc := "()I" } : Jvm.MethodName)) ∈ lw_tbl := tk_3 (List.mem_of_getElem? (i := 174) rfl)
theorem se_X1_lost : Cond.selects RX1 yX1_lost yX1_lost ∈ lw_tbl := List.mem_append_left _ (List.mem_of_getElem? (i := 20) rfl)
theorem li_X1_54 : kLV RX1 54 RX1 yX1_lost cX1_lost 3 (some .int) 0 := ⟨tw_652, tw_654, se_X1_lost, tw_655, tw_7, by decide +kernel⟩
theorem dX1_lostFrom_25 : decode cX1_lostFrom 25 = .ok (.invokevirtual 54, 3) := by decide +kernel
theorem dX1_lostFrom_28 : decode cX1_lostFrom 28 = .ok (.ireturn, 1) := by decide +kernel
theorem dX1_lostFrom_13 : decode cX1_lostFrom 13 = .ok (.aload_n 0, 1) := by decide +kernel
theorem dX1_lostFrom_14 : decode cX1_lostFrom 14 = .ok (.iload_n 2, 1) := by decide +kernel
theorem dX1_lostFrom_15 : decode cX1_lostFrom 15 = .ok (.invokevirtual 50, 3) := by decide +kernel
theorem dX1_lostFrom_18 : decode cX1_lostFrom 18 = .ok (.iinc 2 1, 3) := by decide +kernel
theorem dX1_lostFrom_21 : decode cX1_lostFrom 21 = .ok (.goto (-19), 3) := by decide +kernel
theorem dX1_lateOnes_0 : decode cX1_lateOnes 0 = .ok (.iconst 0, 1) := by decide +kernel
theorem dX1_lateOnes_1 : decode cX1_lateOnes 1 = .ok (.istore_n 1, 1) := by decide +kernel
theorem dX1_lateOnes_2 : decode cX1_lateOnes 2 = .ok (.iconst 0, 1) := by decide +kernel
theorem dX1_lateOnes_3 : decode cX1_lateOnes 3 = .ok (.istore_n 2, 1) := by decide +kernel
theorem dX1_lateOnes_4 : decode cX1_lateOnes 4 = .ok (.iload_n 2, 1) := by decide +kernel
theorem dX1_lateOnes_5 : decode cX1_lateOnes 5 = .ok (.aload_n 0, 1) := by decide +kernel
theorem dX1_lateOnes_6 : decode cX1_lateOnes 6 = .ok (.getfield 37, 3) := by decide +kernel
theorem dX1_lateOnes_9 : decode cX1_lateOnes 9 = .ok (.getfield 45, 3) := by decide +kernel
theorem dX1_lateOnes_12 : decode cX1_lateOnes 12 = .ok (.if_icmp .ge 25, 3) := by decide +kernel
theorem dX1_lateOnes_37 : decode cX1_lateOnes 37 = .ok (.iload_n 1, 1) := by decide +kernel
theorem dX1_lateOnes_38 : decode cX1_lateOnes 38 = .ok (.ireturn, 1) := by decide +kernel
theorem dX1_lateOnes_15 : decode cX1_lateOnes 15 = .ok (.iload_n 1, 1) := by decide +kernel
theorem dX1_lateOnes_16 : decode cX1_lateOnes 16 = .ok (.aload_n 0, 1) := by decide +kernel
theorem dX1_lateOnes_17 : decode cX1_lateOnes 17 = .ok (.iload_n 2, 1) := by decide +kernel
theorem dX1_lateOnes_18 : decode cX1_lateOnes 18 = .ok (.invokevirtual 156, 3) := by decide +kernel
theorem dX1_lateOnes_21 : decode cX1_lateOnes 21 = .ok (.ifCond .le 7, 3) := by decide +kernel
theorem dX1_lateOnes_28 : decode cX1_lateOnes 28 = .ok (.iconst 0, 1) := by decide +kernel
theorem dX1_lateOnes_24 : decode cX1_lateOnes 24 = .ok (.iconst 1, 1) := by decide +kernel
theorem dX1_lateOnes_25 : decode cX1_lateOnes 25 = .ok (.goto 4, 3) := by decide +kernel
theorem dX1_lateOnes_29 : decode cX1_lateOnes 29 = .ok (.iadd, 1) := by decide +kernel
theorem dX1_lateOnes_30 : decode cX1_lateOnes 30 = .ok (.istore_n 1, 1) := by decide +kernel
theorem dX1_lateOnes_31 : decode cX1_lateOnes 31 = .ok (.iinc 2 1, 3) := by decide +kernel
theorem dX1_lateOnes_34 : decode cX1_lateOnes 34 = .ok (.goto (-30), 3) := by decide +kernel
theorem dX1_latest_0 : decode cX1_latest 0 = .ok (.iconst 0, 1) := by decide +kernel
theorem dX1_latest_1 : decode cX1_latest 1 = .ok (.istore_n 1, 1) := by decide +kernel
theorem dX1_latest_2 : decode cX1_latest 2 = .ok (.iconst 0, 1) := by decide +kernel
theorem dX1_latest_3 : decode cX1_latest 3 = .ok (.istore_n 2, 1) := by decide +kernel
theorem dX1_latest_4 : decode cX1_latest 4 = .ok (.iload_n 2, 1) := by decide +kernel
theorem dX1_latest_5 : decode cX1_latest 5 = .ok (.aload_n 0, 1) := by decide +kernel
theorem dX1_latest_6 : decode cX1_latest 6 = .ok (.getfield 37, 3) := by decide +kernel
theorem dX1_latest_9 : decode cX1_latest 9 = .ok (.getfield 45, 3) := by decide +kernel
theorem dX1_latest_12 : decode cX1_latest 12 = .ok (.if_icmp .ge 19, 3) := by decide +kernel
theorem dX1_latest_31 : decode cX1_latest 31 = .ok (.iload_n 1, 1) := by decide +kernel
theorem dX1_latest_32 : decode cX1_latest 32 = .ok (.ireturn, 1) := by decide +kernel
theorem dX1_latest_15 : decode cX1_latest 15 = .ok (.iload_n 1, 1) := by decide +kernel
theorem dX1_latest_16 : decode cX1_latest 16 = .ok (.aload_n 0, 1) := by decide +kernel
theorem dX1_latest_17 : decode cX1_latest 17 = .ok (.iload_n 2, 1) := by decide +kernel
theorem dX1_latest_18 : decode cX1_latest 18 = .ok (.invokevirtual 156, 3) := by decide +kernel
theorem dX1_latest_21 : decode cX1_latest 21 = .ok (.invokestatic 78, 3) := by decide +kernel
theorem dX1_latest_24 : decode cX1_latest 24 = .ok (.istore_n 1, 1) := by decide +kernel
theorem dX1_latest_25 : decode cX1_latest 25 = .ok (.iinc 2 1, 3) := by decide +kernel
theorem dX1_latest_28 : decode cX1_latest 28 = .ok (.goto (-24), 3) := by decide +kernel
theorem dX1_begunLater_0 : decode cX1_begunLater 0 = .ok (.iconst 0, 1) := by decide +kernel
theorem dX1_begunLater_1 : decode cX1_begunLater 1 = .ok (.istore_n 1, 1) := by decide +kernel
theorem dX1_begunLater_2 : decode cX1_begunLater 2 = .ok (.iconst 0, 1) := by decide +kernel
theorem dX1_begunLater_3 : decode cX1_begunLater 3 = .ok (.istore_n 2, 1) := by decide +kernel
theorem dX1_begunLater_4 : decode cX1_begunLater 4 = .ok (.iload_n 2, 1) := by decide +kernel
theorem dX1_begunLater_5 : decode cX1_begunLater 5 = .ok (.aload_n 0, 1) := by decide +kernel
theorem dX1_begunLater_6 : decode cX1_begunLater 6 = .ok (.getfield 37, 3) := by decide +kernel
theorem dX1_begunLater_9 : decode cX1_begunLater 9 = .ok (.getfield 45, 3) := by decide +kernel
theorem dX1_begunLater_12 : decode cX1_begunLater 12 = .ok (.if_icmp .ge 38, 3) := by decide +kernel
theorem dX1_begunLater_50 : decode cX1_begunLater 50 = .ok (.iload_n 1, 1) := by decide +kernel
theorem dX1_begunLater_51 : decode cX1_begunLater 51 = .ok (.ireturn, 1) := by decide +kernel
theorem dX1_begunLater_15 : decode cX1_begunLater 15 = .ok (.iload_n 1, 1) := by decide +kernel
theorem dX1_begunLater_16 : decode cX1_begunLater 16 = .ok (.aload_n 0, 1) := by decide +kernel
theorem dX1_begunLater_17 : decode cX1_begunLater 17 = .ok (.getfield 9, 3) := by decide +kernel
theorem dX1_begunLater_20 : decode cX1_begunLater 20 = .ok (.iload_n 2, 1) := by decide +kernel
theorem dX1_begunLater_21 : decode cX1_begunLater 21 = .ok (.iaload, 1) := by decide +kernel
theorem dX1_begunLater_22 : decode cX1_begunLater 22 = .ok (.aload_n 0, 1) := by decide +kernel
theorem dX1_begunLater_23 : decode cX1_begunLater 23 = .ok (.getfield 37, 3) := by decide +kernel
theorem dX1_begunLater_26 : decode cX1_begunLater 26 = .ok (.getfield 58, 3) := by decide +kernel
theorem dX1_begunLater_29 : decode cX1_begunLater 29 = .ok (.iload_n 2, 1) := by decide +kernel
theorem dX1_begunLater_30 : decode cX1_begunLater 30 = .ok (.aaload, 1) := by decide +kernel
theorem dX1_begunLater_31 : decode cX1_begunLater 31 = .ok (.getfield 84, 3) := by decide +kernel
theorem dX1_begunLater_34 : decode cX1_begunLater 34 = .ok (.if_icmp .le 7, 3) := by decide +kernel
theorem dX1_begunLater_41 : decode cX1_begunLater 41 = .ok (.iconst 0, 1) := by decide +kernel
theorem dX1_begunLater_37 : decode cX1_begunLater 37 = .ok (.iconst 1, 1) := by decide +kernel
theorem dX1_begunLater_38 : decode cX1_begunLater 38 = .ok (.goto 4, 3) := by decide +kernel
theorem dX1_begunLater_42 : decode cX1_begunLater 42 = .ok (.iadd, 1) := by decide +kernel
theorem dX1_begunLater_43 : decode cX1_begunLater 43 = .ok (.istore_n 1, 1) := by decide +kernel
theorem dX1_begunLater_44 : decode cX1_begunLater 44 = .ok (.iinc 2 1, 3) := by decide +kernel
theorem dX1_begunLater_47 : decode cX1_begunLater 47 = .ok (.goto (-43), 3) := by decide +kernel
theorem dX1_onBits_0 : decode cX1_onBits 0 = .ok (.iconst 0, 1) := by decide +kernel
theorem dX1_onBits_1 : decode cX1_onBits 1 = .ok (.istore_n 2, 1) := by decide +kernel
theorem dX1_onBits_2 : decode cX1_onBits 2 = .ok (.iconst 0, 1) := by decide +kernel
theorem dX1_onBits_3 : decode cX1_onBits 3 = .ok (.istore_n 3, 1) := by decide +kernel
theorem dX1_onBits_4 : decode cX1_onBits 4 = .ok (.iload_n 3, 1) := by decide +kernel
theorem dX1_onBits_5 : decode cX1_onBits 5 = .ok (.aload_n 0, 1) := by decide +kernel
theorem dX1_onBits_6 : decode cX1_onBits 6 = .ok (.getfield 37, 3) := by decide +kernel
theorem dX1_onBits_9 : decode cX1_onBits 9 = .ok (.getfield 45, 3) := by decide +kernel
theorem dX1_onBits_12 : decode cX1_onBits 12 = .ok (.if_icmp .ge 35, 3) := by decide +kernel
theorem dX1_onBits_47 : decode cX1_onBits 47 = .ok (.iload_n 2, 1) := by decide +kernel
theorem dX1_onBits_48 : decode cX1_onBits 48 = .ok (.ireturn, 1) := by decide +kernel
theorem dX1_onBits_15 : decode cX1_onBits 15 = .ok (.aload_n 0, 1) := by decide +kernel
theorem dX1_onBits_16 : decode cX1_onBits 16 = .ok (.getfield 9, 3) := by decide +kernel
theorem dX1_onBits_19 : decode cX1_onBits 19 = .ok (.iload_n 3, 1) := by decide +kernel
theorem dX1_onBits_20 : decode cX1_onBits 20 = .ok (.iaload, 1) := by decide +kernel
theorem dX1_onBits_21 : decode cX1_onBits 21 = .ok (.iload_n 1, 1) := by decide +kernel
theorem dX1_onBits_22 : decode cX1_onBits 22 = .ok (.if_icmp .gt 19, 3) := by decide +kernel
theorem dX1_onBits_25 : decode cX1_onBits 25 = .ok (.aload_n 0, 1) := by decide +kernel
theorem dX1_onBits_26 : decode cX1_onBits 26 = .ok (.getfield 15, 3) := by decide +kernel
theorem dX1_onBits_29 : decode cX1_onBits 29 = .ok (.iload_n 3, 1) := by decide +kernel
theorem dX1_onBits_30 : decode cX1_onBits 30 = .ok (.iaload, 1) := by decide +kernel
theorem dX1_onBits_31 : decode cX1_onBits 31 = .ok (.iload_n 1, 1) := by decide +kernel
theorem dX1_onBits_32 : decode cX1_onBits 32 = .ok (.if_icmp .le 9, 3) := by decide +kernel
theorem dX1_onBits_35 : decode cX1_onBits 35 = .ok (.iload_n 2, 1) := by decide +kernel
theorem dX1_onBits_36 : decode cX1_onBits 36 = .ok (.iconst 1, 1) := by decide +kernel
theorem dX1_onBits_37 : decode cX1_onBits 37 = .ok (.iload_n 3, 1) := by decide +kernel
theorem dX1_onBits_38 : decode cX1_onBits 38 = .ok (.ishl, 1) := by decide +kernel
theorem dX1_onBits_39 : decode cX1_onBits 39 = .ok (.ior, 1) := by decide +kernel
theorem dX1_onBits_40 : decode cX1_onBits 40 = .ok (.istore_n 2, 1) := by decide +kernel
theorem dX1_onBits_41 : decode cX1_onBits 41 = .ok (.iinc 3 1, 3) := by decide +kernel
theorem dX1_onBits_44 : decode cX1_onBits 44 = .ok (.goto (-40), 3) := by decide +kernel
theorem dX1_clashes_0 : decode cX1_clashes 0 = .ok (.iconst 0, 1) := by decide +kernel
theorem dX1_clashes_1 : decode cX1_clashes 1 = .ok (.istore_n 1, 1) := by decide +kernel
theorem dX1_clashes_2 : decode cX1_clashes 2 = .ok (.iconst 0, 1) := by decide +kernel
theorem dX1_clashes_3 : decode cX1_clashes 3 = .ok (.istore_n 2, 1) := by decide +kernel
theorem dX1_clashes_4 : decode cX1_clashes 4 = .ok (.iload_n 2, 1) := by decide +kernel
theorem dX1_clashes_5 : decode cX1_clashes 5 = .ok (.aload_n 0, 1) := by decide +kernel
theorem dX1_clashes_6 : decode cX1_clashes 6 = .ok (.getfield 37, 3) := by decide +kernel
theorem dX1_clashes_9 : decode cX1_clashes 9 = .ok (.getfield 45, 3) := by decide +kernel
theorem dX1_clashes_12 : decode cX1_clashes 12 = .ok (.if_icmp .ge 48, 3) := by decide +kernel
theorem dX1_clashes_60 : decode cX1_clashes 60 = .ok (.iload_n 1, 1) := by decide +kernel
theorem dX1_clashes_61 : decode cX1_clashes 61 = .ok (.ireturn, 1) := by decide +kernel
theorem dX1_clashes_15 : decode cX1_clashes 15 = .ok (.iload_n 2, 1) := by decide +kernel
theorem dX1_clashes_16 : decode cX1_clashes 16 = .ok (.iconst 1, 1) := by decide +kernel
theorem dX1_clashes_17 : decode cX1_clashes 17 = .ok (.iadd, 1) := by decide +kernel
theorem dX1_clashes_18 : decode cX1_clashes 18 = .ok (.istore_n 3, 1) := by decide +kernel
theorem dX1_clashes_19 : decode cX1_clashes 19 = .ok (.iload_n 3, 1) := by decide +kernel
theorem dX1_clashes_20 : decode cX1_clashes 20 = .ok (.aload_n 0, 1) := by decide +kernel
theorem dX1_clashes_21 : decode cX1_clashes 21 = .ok (.getfield 37, 3) := by decide +kernel
theorem dX1_clashes_24 : decode cX1_clashes 24 = .ok (.getfield 45, 3) := by decide +kernel
theorem dX1_clashes_27 : decode cX1_clashes 27 = .ok (.if_icmp .ge 27, 3) := by decide +kernel
theorem dX1_clashes_54 : decode cX1_clashes 54 = .ok (.iinc 2 1, 3) := by decide +kernel
theorem dX1_clashes_57 : decode cX1_clashes 57 = .ok (.goto (-53), 3) := by decide +kernel
theorem dX1_clashes_30 : decode cX1_clashes 30 = .ok (.iload_n 1, 1) := by decide +kernel
theorem dX1_clashes_31 : decode cX1_clashes 31 = .ok (.aload_n 0, 1) := by decide +kernel
theorem dX1_clashes_32 : decode cX1_clashes 32 = .ok (.iload_n 2, 1) := by decide +kernel
theorem dX1_clashes_33 : decode cX1_clashes 33 = .ok (.iload_n 3, 1) := by decide +kernel
theorem tw_1349 : (Jvm.Cond.methodLink "MarshBells$Day" (159 : Nat) ({ cls := "MarshBells$Day", name := "clashOf", desc := "(II)I" } : Jvm.MethodName)) ∈ lw_tbl := tk_6 (List.mem_of_getElem? (i := 149) rfl)
theorem tw_1352 : (Jvm.Cond.code ({ cls := "MarshBells$Day", name := "clashOf", desc := "(II)I" } : Jvm.MethodName) prog_3_method_17_code (5 : Nat) (Option.some Jvm.ClassFile.FieldType.int)) ∈ lw_tbl := tk_6 (List.mem_of_getElem? (i := 152) rfl)
theorem tw_1351 : (Jvm.Cond.instanceMethod ({ cls := "MarshBells$Day", name := "clashOf", desc := "(II)I" } : Jvm.MethodName)) ∈ lw_tbl := tk_6 (List.mem_of_getElem? (i := 151) rfl)
theorem se_X1_clashOf : Cond.selects RX1 yX1_clashOf yX1_clashOf ∈ lw_tbl := List.mem_append_left _ (List.mem_of_getElem? (i := 100) rfl)
theorem li_X1_159 : kLV RX1 159 RX1 yX1_clashOf cX1_clashOf 5 (some .int) 2 := ⟨tw_1349, tw_1351, se_X1_clashOf, tw_1352, tw_7, by decide +kernel⟩
theorem dX1_clashOf_0 : decode cX1_clashOf 0 = .ok (.aload_n 0, 1) := by decide +kernel
theorem dX1_clashOf_1 : decode cX1_clashOf 1 = .ok (.getfield 9, 3) := by decide +kernel
theorem dX1_clashOf_4 : decode cX1_clashOf 4 = .ok (.iload_n 1, 1) := by decide +kernel
theorem dX1_clashOf_5 : decode cX1_clashOf 5 = .ok (.iaload, 1) := by decide +kernel
theorem dX1_clashOf_6 : decode cX1_clashOf 6 = .ok (.aload_n 0, 1) := by decide +kernel
theorem dX1_clashOf_7 : decode cX1_clashOf 7 = .ok (.getfield 9, 3) := by decide +kernel
theorem dX1_clashOf_10 : decode cX1_clashOf 10 = .ok (.iload_n 2, 1) := by decide +kernel
theorem dX1_clashOf_11 : decode cX1_clashOf 11 = .ok (.iaload, 1) := by decide +kernel
theorem dX1_clashOf_12 : decode cX1_clashOf 12 = .ok (.invokestatic 78, 3) := by decide +kernel
theorem dX1_clashOf_15 : decode cX1_clashOf 15 = .ok (.istore_n 3, 1) := by decide +kernel
theorem dX1_clashOf_16 : decode cX1_clashOf 16 = .ok (.iload_n 3, 1) := by decide +kernel
theorem dX1_clashOf_17 : decode cX1_clashOf 17 = .ok (.aload_n 0, 1) := by decide +kernel
theorem dX1_clashOf_18 : decode cX1_clashOf 18 = .ok (.getfield 15, 3) := by decide +kernel
theorem dX1_clashOf_21 : decode cX1_clashOf 21 = .ok (.iload_n 1, 1) := by decide +kernel
theorem dX1_clashOf_22 : decode cX1_clashOf 22 = .ok (.iaload, 1) := by decide +kernel
theorem dX1_clashOf_23 : decode cX1_clashOf 23 = .ok (.aload_n 0, 1) := by decide +kernel
theorem dX1_clashOf_24 : decode cX1_clashOf 24 = .ok (.getfield 15, 3) := by decide +kernel
theorem dX1_clashOf_27 : decode cX1_clashOf 27 = .ok (.iload_n 2, 1) := by decide +kernel
theorem dX1_clashOf_28 : decode cX1_clashOf 28 = .ok (.iaload, 1) := by decide +kernel
theorem dX1_clashOf_29 : decode cX1_clashOf 29 = .ok (.invokestatic 153, 3) := by decide +kernel
theorem dX1_clashOf_32 : decode cX1_clashOf 32 = .ok (.if_icmp .ge 7, 3) := by decide +kernel
theorem dX1_clashOf_39 : decode cX1_clashOf 39 = .ok (.iconst 0, 1) := by decide +kernel
theorem dX1_clashOf_35 : decode cX1_clashOf 35 = .ok (.iconst 1, 1) := by decide +kernel
theorem dX1_clashOf_36 : decode cX1_clashOf 36 = .ok (.goto 4, 3) := by decide +kernel
theorem dX1_clashOf_40 : decode cX1_clashOf 40 = .ok (.istore 4, 2) := by decide +kernel
theorem dX1_clashOf_42 : decode cX1_clashOf 42 = .ok (.iload 4, 2) := by decide +kernel
theorem dX1_clashOf_44 : decode cX1_clashOf 44 = .ok (.ifCond .eq 28, 3) := by decide +kernel
theorem dX1_clashOf_47 : decode cX1_clashOf 47 = .ok (.aload_n 0, 1) := by decide +kernel
theorem dX1_clashOf_48 : decode cX1_clashOf 48 = .ok (.getfield 41, 3) := by decide +kernel
theorem dX1_clashOf_51 : decode cX1_clashOf 51 = .ok (.getfield 120, 3) := by decide +kernel
theorem dX1_clashOf_54 : decode cX1_clashOf 54 = .ok (.iload_n 1, 1) := by decide +kernel
theorem dX1_clashOf_55 : decode cX1_clashOf 55 = .ok (.iaload, 1) := by decide +kernel
theorem dX1_clashOf_56 : decode cX1_clashOf 56 = .ok (.aload_n 0, 1) := by decide +kernel
theorem dX1_clashOf_57 : decode cX1_clashOf 57 = .ok (.getfield 41, 3) := by decide +kernel
theorem dX1_clashOf_60 : decode cX1_clashOf 60 = .ok (.getfield 120, 3) := by decide +kernel
theorem dX1_clashOf_63 : decode cX1_clashOf 63 = .ok (.iload_n 2, 1) := by decide +kernel
theorem dX1_clashOf_64 : decode cX1_clashOf 64 = .ok (.iaload, 1) := by decide +kernel
theorem dX1_clashOf_65 : decode cX1_clashOf 65 = .ok (.if_icmp .ne 7, 3) := by decide +kernel
theorem dX1_clashOf_68 : decode cX1_clashOf 68 = .ok (.iload_n 3, 1) := by decide +kernel
theorem dX1_clashOf_69 : decode cX1_clashOf 69 = .ok (.goto 4, 3) := by decide +kernel
theorem dX1_clashOf_72 : decode cX1_clashOf 72 = .ok (.iconst (-1), 1) := by decide +kernel
theorem dX1_clashOf_73 : decode cX1_clashOf 73 = .ok (.ireturn, 1) := by decide +kernel
theorem dX1_clashes_34 : decode cX1_clashes 34 = .ok (.invokevirtual 159, 3) := by decide +kernel
theorem dX1_clashes_37 : decode cX1_clashes 37 = .ok (.iconst (-1), 1) := by decide +kernel
theorem dX1_clashes_38 : decode cX1_clashes 38 = .ok (.if_icmp .eq 7, 3) := by decide +kernel
theorem dX1_clashes_45 : decode cX1_clashes 45 = .ok (.iconst 0, 1) := by decide +kernel
theorem dX1_clashes_41 : decode cX1_clashes 41 = .ok (.iconst 1, 1) := by decide +kernel
theorem dX1_clashes_42 : decode cX1_clashes 42 = .ok (.goto 4, 3) := by decide +kernel
theorem dX1_clashes_46 : decode cX1_clashes 46 = .ok (.iadd, 1) := by decide +kernel
theorem dX1_clashes_47 : decode cX1_clashes 47 = .ok (.istore_n 1, 1) := by decide +kernel
theorem dX1_clashes_48 : decode cX1_clashes 48 = .ok (.iinc 3 1, 3) := by decide +kernel
theorem dX1_clashes_51 : decode cX1_clashes 51 = .ok (.goto (-32), 3) := by decide +kernel
theorem dX1_firstClash_0 : decode cX1_firstClash 0 = .ok (.iconst (-1), 1) := by decide +kernel
theorem dX1_firstClash_1 : decode cX1_firstClash 1 = .ok (.istore_n 1, 1) := by decide +kernel
theorem dX1_firstClash_2 : decode cX1_firstClash 2 = .ok (.iconst 0, 1) := by decide +kernel
theorem dX1_firstClash_3 : decode cX1_firstClash 3 = .ok (.istore_n 2, 1) := by decide +kernel
theorem dX1_firstClash_4 : decode cX1_firstClash 4 = .ok (.iload_n 2, 1) := by decide +kernel
theorem dX1_firstClash_5 : decode cX1_firstClash 5 = .ok (.aload_n 0, 1) := by decide +kernel
theorem dX1_firstClash_6 : decode cX1_firstClash 6 = .ok (.getfield 37, 3) := by decide +kernel
theorem dX1_firstClash_9 : decode cX1_firstClash 9 = .ok (.getfield 45, 3) := by decide +kernel
theorem dX1_firstClash_12 : decode cX1_firstClash 12 = .ok (.if_icmp .ge 58, 3) := by decide +kernel
theorem dX1_firstClash_70 : decode cX1_firstClash 70 = .ok (.iload_n 1, 1) := by decide +kernel
theorem dX1_firstClash_71 : decode cX1_firstClash 71 = .ok (.ireturn, 1) := by decide +kernel
theorem dX1_firstClash_15 : decode cX1_firstClash 15 = .ok (.iload_n 2, 1) := by decide +kernel
theorem dX1_firstClash_16 : decode cX1_firstClash 16 = .ok (.iconst 1, 1) := by decide +kernel
theorem dX1_firstClash_17 : decode cX1_firstClash 17 = .ok (.iadd, 1) := by decide +kernel
theorem dX1_firstClash_18 : decode cX1_firstClash 18 = .ok (.istore_n 3, 1) := by decide +kernel
theorem dX1_firstClash_19 : decode cX1_firstClash 19 = .ok (.iload_n 3, 1) := by decide +kernel
theorem dX1_firstClash_20 : decode cX1_firstClash 20 = .ok (.aload_n 0, 1) := by decide +kernel
theorem dX1_firstClash_21 : decode cX1_firstClash 21 = .ok (.getfield 37, 3) := by decide +kernel
theorem dX1_firstClash_24 : decode cX1_firstClash 24 = .ok (.getfield 45, 3) := by decide +kernel
theorem dX1_firstClash_27 : decode cX1_firstClash 27 = .ok (.if_icmp .ge 37, 3) := by decide +kernel
theorem dX1_firstClash_64 : decode cX1_firstClash 64 = .ok (.iinc 2 1, 3) := by decide +kernel
theorem dX1_firstClash_67 : decode cX1_firstClash 67 = .ok (.goto (-63), 3) := by decide +kernel
theorem dX1_firstClash_30 : decode cX1_firstClash 30 = .ok (.aload_n 0, 1) := by decide +kernel
theorem dX1_firstClash_31 : decode cX1_firstClash 31 = .ok (.iload_n 2, 1) := by decide +kernel
theorem dX1_firstClash_32 : decode cX1_firstClash 32 = .ok (.iload_n 3, 1) := by decide +kernel
theorem dX1_firstClash_33 : decode cX1_firstClash 33 = .ok (.invokevirtual 159, 3) := by decide +kernel
theorem dX1_firstClash_36 : decode cX1_firstClash 36 = .ok (.istore 4, 2) := by decide +kernel
theorem dX1_firstClash_38 : decode cX1_firstClash 38 = .ok (.iload 4, 2) := by decide +kernel
theorem dX1_firstClash_40 : decode cX1_firstClash 40 = .ok (.iconst (-1), 1) := by decide +kernel
theorem dX1_firstClash_41 : decode cX1_firstClash 41 = .ok (.if_icmp .eq 17, 3) := by decide +kernel
theorem dX1_firstClash_44 : decode cX1_firstClash 44 = .ok (.iload_n 1, 1) := by decide +kernel
theorem dX1_firstClash_45 : decode cX1_firstClash 45 = .ok (.iconst (-1), 1) := by decide +kernel
theorem dX1_firstClash_46 : decode cX1_firstClash 46 = .ok (.if_icmp .eq 9, 3) := by decide +kernel
theorem dX1_firstClash_55 : decode cX1_firstClash 55 = .ok (.iload 4, 2) := by decide +kernel
theorem dX1_firstClash_57 : decode cX1_firstClash 57 = .ok (.istore_n 1, 1) := by decide +kernel
theorem dX1_firstClash_58 : decode cX1_firstClash 58 = .ok (.iinc 3 1, 3) := by decide +kernel
theorem dX1_firstClash_61 : decode cX1_firstClash 61 = .ok (.goto (-42), 3) := by decide +kernel
theorem dX1_firstClash_49 : decode cX1_firstClash 49 = .ok (.iload 4, 2) := by decide +kernel
theorem dX1_firstClash_51 : decode cX1_firstClash 51 = .ok (.iload_n 1, 1) := by decide +kernel
theorem dX1_firstClash_52 : decode cX1_firstClash 52 = .ok (.if_icmp .ge 6, 3) := by decide +kernel
theorem dX1_idleMinutes_0 : decode cX1_idleMinutes 0 = .ok (.iconst 0, 1) := by decide +kernel
theorem dX1_idleMinutes_1 : decode cX1_idleMinutes 1 = .ok (.istore_n 1, 1) := by decide +kernel
theorem dX1_idleMinutes_2 : decode cX1_idleMinutes 2 = .ok (.iconst 0, 1) := by decide +kernel
theorem dX1_idleMinutes_3 : decode cX1_idleMinutes 3 = .ok (.istore_n 2, 1) := by decide +kernel
theorem dX1_idleMinutes_4 : decode cX1_idleMinutes 4 = .ok (.iload_n 2, 1) := by decide +kernel
theorem dX1_idleMinutes_5 : decode cX1_idleMinutes 5 = .ok (.aload_n 0, 1) := by decide +kernel
theorem dX1_idleMinutes_6 : decode cX1_idleMinutes 6 = .ok (.getfield 37, 3) := by decide +kernel
theorem dX1_idleMinutes_9 : decode cX1_idleMinutes 9 = .ok (.getfield 45, 3) := by decide +kernel
theorem dX1_idleMinutes_12 : decode cX1_idleMinutes 12 = .ok (.if_icmp .ge 103, 3) := by decide +kernel
theorem dX1_idleMinutes_115 : decode cX1_idleMinutes 115 = .ok (.iload_n 1, 1) := by decide +kernel
theorem dX1_idleMinutes_116 : decode cX1_idleMinutes 116 = .ok (.ireturn, 1) := by decide +kernel
theorem dX1_idleMinutes_15 : decode cX1_idleMinutes 15 = .ok (.aload_n 0, 1) := by decide +kernel
theorem dX1_idleMinutes_16 : decode cX1_idleMinutes 16 = .ok (.getfield 37, 3) := by decide +kernel
theorem dX1_idleMinutes_19 : decode cX1_idleMinutes 19 = .ok (.getfield 58, 3) := by decide +kernel
theorem dX1_idleMinutes_22 : decode cX1_idleMinutes 22 = .ok (.iload_n 2, 1) := by decide +kernel
theorem dX1_idleMinutes_23 : decode cX1_idleMinutes 23 = .ok (.aaload, 1) := by decide +kernel
theorem dX1_idleMinutes_24 : decode cX1_idleMinutes 24 = .ok (.astore_n 3, 1) := by decide +kernel
theorem dX1_idleMinutes_25 : decode cX1_idleMinutes 25 = .ok (.iconst 0, 1) := by decide +kernel
theorem dX1_idleMinutes_26 : decode cX1_idleMinutes 26 = .ok (.istore 4, 2) := by decide +kernel
theorem dX1_idleMinutes_28 : decode cX1_idleMinutes 28 = .ok (.iload 4, 2) := by decide +kernel
theorem dX1_idleMinutes_30 : decode cX1_idleMinutes 30 = .ok (.aload_n 3, 1) := by decide +kernel
theorem dX1_idleMinutes_31 : decode cX1_idleMinutes 31 = .ok (.getfield 87, 3) := by decide +kernel
theorem dX1_idleMinutes_34 : decode cX1_idleMinutes 34 = .ok (.if_icmp .ge 75, 3) := by decide +kernel
theorem dX1_idleMinutes_109 : decode cX1_idleMinutes 109 = .ok (.iinc 2 1, 3) := by decide +kernel
theorem dX1_idleMinutes_112 : decode cX1_idleMinutes 112 = .ok (.goto (-108), 3) := by decide +kernel
theorem dX1_idleMinutes_37 : decode cX1_idleMinutes 37 = .ok (.aload_n 3, 1) := by decide +kernel
theorem dX1_idleMinutes_38 : decode cX1_idleMinutes 38 = .ok (.getfield 90, 3) := by decide +kernel
theorem dX1_idleMinutes_41 : decode cX1_idleMinutes 41 = .ok (.iload 4, 2) := by decide +kernel
theorem dX1_idleMinutes_43 : decode cX1_idleMinutes 43 = .ok (.iaload, 1) := by decide +kernel
theorem dX1_idleMinutes_44 : decode cX1_idleMinutes 44 = .ok (.istore 5, 2) := by decide +kernel
theorem dX1_idleMinutes_46 : decode cX1_idleMinutes 46 = .ok (.aload_n 0, 1) := by decide +kernel
theorem dX1_idleMinutes_47 : decode cX1_idleMinutes 47 = .ok (.getfield 15, 3) := by decide +kernel
theorem dX1_idleMinutes_50 : decode cX1_idleMinutes 50 = .ok (.iload 5, 2) := by decide +kernel
theorem dX1_idleMinutes_52 : decode cX1_idleMinutes 52 = .ok (.iaload, 1) := by decide +kernel
theorem dX1_idleMinutes_53 : decode cX1_idleMinutes 53 = .ok (.aload_n 0, 1) := by decide +kernel
theorem dX1_idleMinutes_54 : decode cX1_idleMinutes 54 = .ok (.iload 5, 2) := by decide +kernel
theorem dX1_idleMinutes_56 : decode cX1_idleMinutes 56 = .ok (.iload_n 2, 1) := by decide +kernel
theorem dX1_idleMinutes_57 : decode cX1_idleMinutes 57 = .ok (.invokevirtual 93, 3) := by decide +kernel
theorem dX1_idleMinutes_60 : decode cX1_idleMinutes 60 = .ok (.iadd, 1) := by decide +kernel
theorem dX1_idleMinutes_61 : decode cX1_idleMinutes 61 = .ok (.aload_n 0, 1) := by decide +kernel
theorem dX1_idleMinutes_62 : decode cX1_idleMinutes 62 = .ok (.getfield 41, 3) := by decide +kernel
theorem dX1_idleMinutes_65 : decode cX1_idleMinutes 65 = .ok (.getfield 96, 3) := by decide +kernel
theorem dX1_idleMinutes_68 : decode cX1_idleMinutes 68 = .ok (.iload_n 2, 1) := by decide +kernel
theorem dX1_idleMinutes_69 : decode cX1_idleMinutes 69 = .ok (.iaload, 1) := by decide +kernel
theorem dX1_idleMinutes_70 : decode cX1_idleMinutes 70 = .ok (.isub, 1) := by decide +kernel
theorem dX1_idleMinutes_71 : decode cX1_idleMinutes 71 = .ok (.istore 6, 2) := by decide +kernel
theorem dX1_idleMinutes_73 : decode cX1_idleMinutes 73 = .ok (.iload_n 1, 1) := by decide +kernel
theorem dX1_idleMinutes_74 : decode cX1_idleMinutes 74 = .ok (.aload_n 0, 1) := by decide +kernel
theorem dX1_idleMinutes_75 : decode cX1_idleMinutes 75 = .ok (.getfield 37, 3) := by decide +kernel
theorem dX1_idleMinutes_78 : decode cX1_idleMinutes 78 = .ok (.getfield 58, 3) := by decide +kernel
theorem dX1_idleMinutes_81 : decode cX1_idleMinutes 81 = .ok (.iload 5, 2) := by decide +kernel
theorem dX1_idleMinutes_83 : decode cX1_idleMinutes 83 = .ok (.aaload, 1) := by decide +kernel
theorem dX1_idleMinutes_84 : decode cX1_idleMinutes 84 = .ok (.getfield 134, 3) := by decide +kernel
theorem dX1_idleMinutes_87 : decode cX1_idleMinutes 87 = .ok (.iconst 0, 1) := by decide +kernel
theorem dX1_idleMinutes_88 : decode cX1_idleMinutes 88 = .ok (.aload_n 0, 1) := by decide +kernel
theorem dX1_idleMinutes_89 : decode cX1_idleMinutes 89 = .ok (.getfield 9, 3) := by decide +kernel
theorem dX1_idleMinutes_92 : decode cX1_idleMinutes 92 = .ok (.iload_n 2, 1) := by decide +kernel
theorem dX1_idleMinutes_93 : decode cX1_idleMinutes 93 = .ok (.iaload, 1) := by decide +kernel
theorem dX1_idleMinutes_94 : decode cX1_idleMinutes 94 = .ok (.iload 6, 2) := by decide +kernel
theorem dX1_idleMinutes_96 : decode cX1_idleMinutes 96 = .ok (.isub, 1) := by decide +kernel
theorem dX1_idleMinutes_97 : decode cX1_idleMinutes 97 = .ok (.invokestatic 78, 3) := by decide +kernel
theorem dX1_idleMinutes_100 : decode cX1_idleMinutes 100 = .ok (.imul, 1) := by decide +kernel
theorem dX1_idleMinutes_101 : decode cX1_idleMinutes 101 = .ok (.iadd, 1) := by decide +kernel
theorem dX1_idleMinutes_102 : decode cX1_idleMinutes 102 = .ok (.istore_n 1, 1) := by decide +kernel
theorem dX1_idleMinutes_103 : decode cX1_idleMinutes 103 = .ok (.iinc 4 1, 3) := by decide +kernel
theorem dX1_idleMinutes_106 : decode cX1_idleMinutes 106 = .ok (.goto (-78), 3) := by decide +kernel
set_option maxHeartbeats 4000000 in
set_option maxRecDepth 100000 in
theorem zX1_isUpstairs_8 (l : Launch) (G : kG) (sz : Nat) (b : Nat) (a : Nat → Nat) (g0 : Nat → Nat → Int32) (L0 : Nat → Nat → Int64) (hI : zI XT g0) (p1 : Int32) (hp1 : 0 ≤ p1.toInt ∧ p1.toInt ≤ 11) : kM l yX1_isUpstairs cX1_isUpstairs 2 (some .boolean) { frames := 6, cells := 0, slots := 0, locals := 110 } G [.ref (a 8), .int p1] (zw G (XS b) 105 a g0 L0) sz (kQi G (S := zS) (fun r u => zI XT u.1 ∧ u.1 0 = g0 0 ∧ (0 ≤ r.toInt ∧ r.toInt ≤ 1) ∧ u.1 12 5 = g0 12 5) (fun u => zw G (XS b) 105 a u.1 u.2)) := by
  refine kM.of (by decide) (Nat.le_of_ble_eq_true rfl) ?_
  intro p e s m below meth c A ls H C hr hlk hnm hP hD hS hl
  have C : kC G p s m c cX1_isUpstairs 2 RX1 A := C
  have hx := C.1
  have hb := C.2.1
  have hl : lv_has ls 2 [(0, .ref (a 8)), (1, .int p1)] := hl
  obtain ⟨w1, k0_0⟩ : ∃ w : Int32, g0 12 5 = w := ⟨_, rfl⟩
  have kz_0 := k0_0
  have kb_0 := hI 12 5 0 72 rfl
  rw [k0_0] at kb_0
  have h0c : g0 0 = g0 0 := rfl
  obtain ⟨locs, hlocs⟩ : ∃ q : List Loc, q = [] := ⟨_, rfl⟩
  rw [← hlocs] at hS
  rw [← hlocs]
  refine lv_aload_n hx hb dX1_isUpstairs_0 rfl (lv_at hl 0 rfl) ?_
  refine x_getr (Or.inl fl_X1_41) C hP (by decide) xs_8 rfl dX1_isUpstairs_1 ?_
  refine x_getr (Or.inr fl_X1_120) C hP (by decide) xs_6 rfl dX1_isUpstairs_4 ?_
  refine lv_iload_n hx hb dX1_isUpstairs_7 rfl (lv_at hl 1 rfl) ?_
  refine x_ald C hP (by decide) xs_27 (by omega) (by omega) dX1_isUpstairs_8 (fun x2 e3 => ?_)
  refine lv_iconst (v := 5) hx hb dX1_isUpstairs_9 (by decide) ?_
  have J8 : ∀ (x9 : Int32) (g : Nat → Nat → Int32) (L : Nat → Nat → Int64) (H : Heap) (locs : List Loc) (ls : Array Slot), (0 ≤ x9.toInt ∧ x9.toInt ≤ 1) → g 12 5 = w1 → zI XT g → g 0 = g0 0 → va_P G.1 vwCl (zw G (XS b) 105 a g L) H → va_D A (zw G (XS b) 105 a g L) → va_S A s.heap H locs → lv_has ls 2 [] → W p l e { frames := 6, cells := 0, slots := 0, locals := 110 } s m [.ref (a 8), .int p1].toArray below meth c H locs 0 0 (MQ below ((kQi G (S := zS) (fun r u => zI XT u.1 ∧ u.1 0 = g0 0 ∧ (0 ≤ r.toInt ∧ r.toInt ≤ 1) ∧ u.1 12 5 = g0 12 5) (fun u => zw G (XS b) 105 a u.1 u.2)) A) [.ref (a 8), .int p1].toArray s 0 0 A) (F0 m 18 ls [.int x9]) := by
    intro x9 g L H locs ls b10 kf11 hI h0c hP hD hS hl
    exact x_zret C hr hlk (z_bool (by omega)) hP hD hS (g, L) rfl ⟨hI, h0c, by omega, (kf11.trans k0_0.symm)⟩ (Nat.le_of_ble_eq_true rfl) (Nat.le_of_ble_eq_true rfl) dX1_isUpstairs_18
  refine lv_icmp_lt (x := x2) (y := 5) (tgt := 17) hx hb dX1_isUpstairs_10 (by decide) (fun c12 => ?_) (fun c12 => ?_)
  ·
    have c12 := icc_lt (m := x2.toInt) (n := 5) rfl (by decide) c12
    refine lv_iconst (v := 0) hx hb dX1_isUpstairs_17 (by decide) ?_
    exact J8 0 g0 L0 H locs ls (by decide) kz_0 hI h0c hP hD hS (lv_sub hl [] rfl)
  ·
    have c12 := icc_nlt (m := x2.toInt) (n := 5) rfl (by decide) c12
    refine lv_iconst (v := 1) hx hb dX1_isUpstairs_13 (by decide) ?_
    refine lv_goto (tgt := 18) hx hb dX1_isUpstairs_14 (by decide) ?_
    exact J8 1 g0 L0 H locs ls (by decide) kz_0 hI h0c hP hD hS (lv_sub hl [] rfl)
set_option maxHeartbeats 4000000 in
set_option maxRecDepth 100000 in
theorem zX1_late_8 (l : Launch) (G : kG) (sz : Nat) (b : Nat) (a : Nat → Nat) (g0 : Nat → Nat → Int32) (L0 : Nat → Nat → Int64) (hI : zI XT g0) (p1 : Int32) (hp1 : 0 ≤ p1.toInt ∧ p1.toInt ≤ 11) : kM l yX1_late cX1_late 2 (some .int) { frames := 6, cells := 0, slots := 0, locals := 110 } G [.ref (a 8), .int p1] (zw G (XS b) 105 a g0 L0) sz (kQi G (S := zS) (fun r u => zI XT u.1 ∧ u.1 0 = g0 0) (fun u => zw G (XS b) 105 a u.1 u.2)) := by
  refine kM.of (by decide) (Nat.le_of_ble_eq_true rfl) ?_
  intro p e s m below meth c A ls H C hr hlk hnm hP hD hS hl
  have C : kC G p s m c cX1_late 2 RX1 A := C
  have hx := C.1
  have hb := C.2.1
  have hl : lv_has ls 2 [(0, .ref (a 8)), (1, .int p1)] := hl
  have h0c : g0 0 = g0 0 := rfl
  obtain ⟨locs, hlocs⟩ : ∃ q : List Loc, q = [] := ⟨_, rfl⟩
  rw [← hlocs] at hS
  rw [← hlocs]
  refine lv_aload_n hx hb dX1_late_0 rfl (lv_at hl 0 rfl) ?_
  refine x_getr (Or.inl fl_X1_15) C hP (by decide) xs_8 rfl dX1_late_1 ?_
  refine lv_iload_n hx hb dX1_late_4 rfl (lv_at hl 1 rfl) ?_
  refine x_ald C hP (by decide) xs_44 (by omega) (by omega) dX1_late_5 (fun x1 e2 => ?_)
  refine lv_aload_n hx hb dX1_late_6 rfl (lv_at hl 0 rfl) ?_
  refine x_getr (Or.inl fl_X1_37) C hP (by decide) xs_8 rfl dX1_late_7 ?_
  refine x_getr (Or.inr fl_X1_58) C hP (by decide) xs_1 rfl dX1_late_10 ?_
  refine lv_iload_n hx hb dX1_late_13 rfl (lv_at hl 1 rfl) ?_
  refine x_aaldQ (t := 57) C hP (by decide) xs_17 (by omega) (by omega) dX1_late_14 (fun q3 q3l q3h => ?_)
  refine x_geti (Or.inr fl_X1_70) C hP (by omega) (xs_les (by omega) (by omega)) rfl dX1_late_15 (fun x4 e5 => ?_)
  refine lv_isub hx hb dX1_late_18 ?_
  refine x_any (fun x6 => ?_)
  exact x_iret C hr hlk hP hD hS (g0, L0) rfl ⟨hI, h0c⟩ (Nat.le_of_ble_eq_true rfl) (Nat.le_of_ble_eq_true rfl) dX1_late_19
set_option maxHeartbeats 4000000 in
set_option maxRecDepth 100000 in
theorem zX1_lost_8 (l : Launch) (G : kG) (sz : Nat) (b : Nat) (a : Nat → Nat) (g0 : Nat → Nat → Int32) (L0 : Nat → Nat → Int64) (hI : zI XT g0) : kM l yX1_lost cX1_lost 3 (some .int) { frames := 7, cells := 0, slots := 0, locals := 131 } G [.ref (a 8)] (zw G (XS b) 105 a g0 L0) sz (kQi G (S := zS) (fun r u => zI XT u.1 ∧ u.1 0 = g0 0) (fun u => zw G (XS b) 105 a u.1 u.2)) := by
  refine kM.of (by decide) (Nat.le_of_ble_eq_true rfl) ?_
  intro p e s m below meth c A ls H C hr hlk hnm hP hD hS hl
  have C : kC G p s m c cX1_lost 3 RX1 A := C
  have hx := C.1
  have hb := C.2.1
  have hl : lv_has ls 3 [(0, .ref (a 8))] := hl
  have h0c : g0 0 = g0 0 := rfl
  obtain ⟨locs, hlocs⟩ : ∃ q : List Loc, q = [] := ⟨_, rfl⟩
  rw [← hlocs] at hS
  rw [← hlocs]
  refine lv_iconst (v := 0) hx hb dX1_lost_0 (by decide) ?_
  refine lv_istore_n (lv' := [(1, .int 0), (0, .ref (a 8))]) hx hb dX1_lost_1 rfl hl (by decide) rfl (fun ls hl => ?_)
  refine lv_iconst (v := 0) hx hb dX1_lost_2 (by decide) ?_
  refine lv_istore_n (lv' := [(2, .int 0), (1, .int 0), (0, .ref (a 8))]) hx hb dX1_lost_3 rfl hl (by decide) rfl (fun ls hl => ?_)
  have lp190 : ∀ fu : Nat, ∀ (x187 : Int32) (x188 : Int32) (g : Nat → Nat → Int32) (L : Nat → Nat → Int64) (H : Heap) (locs : List Loc) (ls : Array Slot), (0 ≤ x188.toInt ∧ x188.toInt ≤ 12) → zI XT g → g 0 = g0 0 → va_P G.1 vwCl (zw G (XS b) 105 a g L) H → va_D A (zw G (XS b) 105 a g L) → va_S A s.heap H locs → lv_has ls 3 [(0, .ref (a 8)), (1, .int x187), (2, .int x188)] → 12 - x188.toInt < (fu : Int) → W p l e { frames := 7, cells := 0, slots := 0, locals := 131 } s m [.ref (a 8)].toArray below meth c H locs 0 0 (MQ below ((kQi G (S := zS) (fun r u => zI XT u.1 ∧ u.1 0 = g0 0) (fun u => zw G (XS b) 105 a u.1 u.2)) A) [.ref (a 8)].toArray s 0 0 A) (F0 m 4 ls []) := by
    intro fu
    induction fu with
    | zero => intro x187 x188 g L H locs ls b189 hI h0c hP hD hS hl hm; exact absurd hm (by omega)
    | succ fu ih =>
      intro x187 x188 g L H locs ls b189 hI h0c hP hD hS hl hm
      have ih191 := ih
      refine lv_iload_n hx hb dX1_lost_4 rfl (lv_at hl 2 rfl) ?_
      refine lv_aload_n hx hb dX1_lost_5 rfl (lv_at hl 0 rfl) ?_
      refine x_getr (Or.inl fl_X1_37) C hP (by decide) xs_8 rfl dX1_lost_6 ?_
      refine x_getT hI rfl (Or.inr fl_X1_45) C hP (by decide) xs_1 rfl dX1_lost_9 (fun x192 e193 b194 => ?_)
      refine lv_icmp_ge (x := x188) (y := x192) (tgt := 42) hx hb dX1_lost_12 (by decide) (fun c195 => ?_) (fun c195 => ?_)
      ·
        have c195 := icc_le (m := x192.toInt) (n := x188.toInt) rfl rfl c195
        refine lv_iload_n hx hb dX1_lost_42 rfl (lv_at hl 1 rfl) ?_
        exact x_iret C hr hlk hP hD hS (g, L) rfl ⟨hI, h0c⟩ (Nat.le_of_ble_eq_true rfl) (Nat.le_of_ble_eq_true rfl) dX1_lost_43
      ·
        have c195 := icc_nle (m := x192.toInt) (n := x188.toInt) rfl rfl c195
        refine lv_iload_n hx hb dX1_lost_15 rfl (lv_at hl 1 rfl) ?_
        refine lv_aload_n hx hb dX1_lost_16 rfl (lv_at hl 0 rfl) ?_
        refine x_getr (Or.inl fl_X1_37) C hP (by decide) xs_8 rfl dX1_lost_17 ?_
        refine x_getr (Or.inr fl_X1_58) C hP (by decide) xs_1 rfl dX1_lost_20 ?_
        refine lv_iload_n hx hb dX1_lost_23 rfl (lv_at hl 2 rfl) ?_
        refine x_aaldQ (t := 57) C hP (by decide) xs_17 (by omega) (by omega) dX1_lost_24 (fun q196 q196l q196h => ?_)
        refine x_geti (Or.inr fl_X1_134) C hP (by omega) (xs_les (by omega) (by omega)) rfl dX1_lost_25 (fun x197 e198 => ?_)
        refine lv_aload_n hx hb dX1_lost_28 rfl (lv_at hl 0 rfl) ?_
        refine lv_iload_n hx hb dX1_lost_29 rfl (lv_at hl 2 rfl) ?_
        refine x_callVi (rest := [.int x197, .int x187]) li_X1_156 C (zX1_late_8 l G H.size b a g L hI x188 (by omega)) (kR rfl) hP hD hS 8 1 rfl (zat (by decide) xs_8) rfl hl.1 rfl (Nat.le_of_ble_eq_true rfl) dX1_lost_30 (fun x200 u201 H locs hw199 hP hD hS => ?_)
        obtain ⟨g, L⟩ := u201
        obtain ⟨hI, h0n⟩ := hw199
        have h0c : g 0 = g0 0 := h0n.trans h0c
        have hI : zI XT g := hI
        have hP : va_P G.1 vwCl (zw G (XS b) 105 a g L) H := hP
        have hD : va_D A (zw G (XS b) 105 a g L) := hD
        refine lv_imul hx hb dX1_lost_33 ?_
        refine x_any (fun x204 => ?_)
        refine lv_iadd hx hb dX1_lost_34 ?_
        refine x_any (fun x205 => ?_)
        refine lv_istore_n (lv' := [(1, .int x205), (0, .ref (a 8)), (2, .int x188)]) hx hb dX1_lost_35 rfl hl (by decide) rfl (fun ls hl => ?_)
        obtain ⟨x206, e207q, e207⟩ : ∃ z : Int32, x188 + Int32.ofInt (1) = z ∧ z.toInt = x188.toInt + (1) := ⟨_, rfl, ic_addc rfl (by decide) (by omega) (by omega)⟩
        refine lv_iinc (v := x206) (lv' := [(2, .int x206), (1, .int x205), (0, .ref (a 8))]) hx hb dX1_lost_36 hl (k := 2) rfl e207q (by decide) rfl (fun ls hl => ?_)
        refine lv_goto (tgt := 4) hx hb dX1_lost_39 (by decide) ?_
        exact ih191 x205 x206 g L H locs ls (by omega) hI h0c hP hD hS (lv_sub hl [2, 1, 0] rfl) (by omega)
  have hc_ : (0 : Int32).toInt = 0 := by decide
  exact lp190 14 0 0 g0 L0 H locs ls (by decide) hI h0c hP hD hS (lv_sub hl [2, 1, 0] rfl) (by omega)
set_option maxHeartbeats 4000000 in
set_option maxRecDepth 100000 in
theorem zX1_comingOf_8 (l : Launch) (G : kG) (sz : Nat) (b : Nat) (a : Nat → Nat) (g0 : Nat → Nat → Int32) (L0 : Nat → Nat → Int64) (hI : zI XT g0) (p1 : Int32) (p2 : Int32) (p3 : Int32) (hp2 : 0 ≤ p2.toInt ∧ p2.toInt ≤ 6) : kM l yX1_comingOf cX1_comingOf 8 (some .int) { frames := 6, cells := 0, slots := 0, locals := 110 } G [.ref (a 8), .int p1, .int p2, .int p3] (zw G (XS b) 105 a g0 L0) sz (kQi G (S := zS) (fun r u => zI XT u.1 ∧ u.1 0 = g0 0) (fun u => zw G (XS b) 105 a u.1 u.2)) := by
  refine kM.of (by decide) (Nat.le_of_ble_eq_true rfl) ?_
  intro p e s m below meth c A ls H C hr hlk hnm hP hD hS hl
  have C : kC G p s m c cX1_comingOf 8 RX1 A := C
  have hx := C.1
  have hb := C.2.1
  have hl : lv_has ls 8 [(0, .ref (a 8)), (1, .int p1), (2, .int p2), (3, .int p3)] := hl
  have h0c : g0 0 = g0 0 := rfl
  obtain ⟨locs, hlocs⟩ : ∃ q : List Loc, q = [] := ⟨_, rfl⟩
  rw [← hlocs] at hS
  rw [← hlocs]
  refine lv_iload_n hx hb dX1_comingOf_0 rfl (lv_at hl 3 rfl) ?_
  refine lv_istore (lv' := [(4, .int p3), (0, .ref (a 8)), (1, .int p1), (2, .int p2), (3, .int p3)]) hx hb dX1_comingOf_1 hl (by decide) rfl (fun ls hl => ?_)
  refine lv_iconst (v := 0) hx hb dX1_comingOf_3 (by decide) ?_
  refine lv_istore (lv' := [(5, .int 0), (4, .int p3), (0, .ref (a 8)), (1, .int p1), (2, .int p2), (3, .int p3)]) hx hb dX1_comingOf_4 hl (by decide) rfl (fun ls hl => ?_)
  have lp5127 : ∀ fu : Nat, ∀ (x5124 : Int32) (x5125 : Int32) (g : Nat → Nat → Int32) (L : Nat → Nat → Int64) (H : Heap) (locs : List Loc) (ls : Array Slot), (0 ≤ x5125.toInt ∧ x5125.toInt ≤ 6) → zI XT g → g 0 = g0 0 → va_P G.1 vwCl (zw G (XS b) 105 a g L) H → va_D A (zw G (XS b) 105 a g L) → va_S A s.heap H locs → lv_has ls 8 [(0, .ref (a 8)), (1, .int p1), (2, .int p2), (4, .int x5124), (5, .int x5125)] → 6 - x5125.toInt < (fu : Int) → W p l e { frames := 6, cells := 0, slots := 0, locals := 110 } s m [.ref (a 8), .int p1, .int p2, .int p3].toArray below meth c H locs 0 0 (MQ below ((kQi G (S := zS) (fun r u => zI XT u.1 ∧ u.1 0 = g0 0) (fun u => zw G (XS b) 105 a u.1 u.2)) A) [.ref (a 8), .int p1, .int p2, .int p3].toArray s 0 0 A) (F0 m 6 ls []) := by
    intro fu
    induction fu with
    | zero => intro x5124 x5125 g L H locs ls b5126 hI h0c hP hD hS hl hm; exact absurd hm (by omega)
    | succ fu ih =>
      intro x5124 x5125 g L H locs ls b5126 hI h0c hP hD hS hl hm
      have ih5128 := ih
      refine lv_iload hx hb dX1_comingOf_6 (lv_at hl 4 rfl) ?_
      refine lv_iload_n hx hb dX1_comingOf_8 rfl (lv_at hl 2 rfl) ?_
      refine lv_icmp_ge (x := x5125) (y := p2) (tgt := 90) hx hb dX1_comingOf_9 (by decide) (fun c5129 => ?_) (fun c5129 => ?_)
      ·
        have c5129 := icc_le (m := p2.toInt) (n := x5125.toInt) rfl rfl c5129
        refine lv_iload hx hb dX1_comingOf_90 (lv_at hl 3 rfl) ?_
        exact x_iret C hr hlk hP hD hS (g, L) rfl ⟨hI, h0c⟩ (Nat.le_of_ble_eq_true rfl) (Nat.le_of_ble_eq_true rfl) dX1_comingOf_92
      ·
        have c5129 := icc_nle (m := p2.toInt) (n := x5125.toInt) rfl rfl c5129
        refine lv_iconst (v := 0) hx hb dX1_comingOf_12 (by decide) ?_
        refine lv_istore (lv' := [(6, .int 0), (0, .ref (a 8)), (1, .int p1), (2, .int p2), (4, .int x5124), (5, .int x5125)]) hx hb dX1_comingOf_13 hl (by decide) rfl (fun ls hl => ?_)
        refine lv_iconst (v := 0) hx hb dX1_comingOf_15 (by decide) ?_
        refine lv_istore (lv' := [(7, .int 0), (6, .int 0), (0, .ref (a 8)), (1, .int p1), (2, .int p2), (4, .int x5124), (5, .int x5125)]) hx hb dX1_comingOf_16 hl (by decide) rfl (fun ls hl => ?_)
        have lp5829 : ∀ fu : Nat, ∀ (x5826 : Int32) (x5827 : Int32) (g : Nat → Nat → Int32) (L : Nat → Nat → Int64) (H : Heap) (locs : List Loc) (ls : Array Slot), (0 ≤ x5827.toInt ∧ x5827.toInt ≤ 6) → zI XT g → g 0 = g0 0 → va_P G.1 vwCl (zw G (XS b) 105 a g L) H → va_D A (zw G (XS b) 105 a g L) → va_S A s.heap H locs → lv_has ls 8 [(0, .ref (a 8)), (1, .int p1), (2, .int p2), (4, .int x5124), (5, .int x5125), (6, .int x5826), (7, .int x5827)] → 6 - x5827.toInt < (fu : Int) → W p l e { frames := 6, cells := 0, slots := 0, locals := 110 } s m [.ref (a 8), .int p1, .int p2, .int p3].toArray below meth c H locs 0 0 (MQ below ((kQi G (S := zS) (fun r u => zI XT u.1 ∧ u.1 0 = g0 0) (fun u => zw G (XS b) 105 a u.1 u.2)) A) [.ref (a 8), .int p1, .int p2, .int p3].toArray s 0 0 A) (F0 m 18 ls []) := by
          intro fu
          induction fu with
          | zero => intro x5826 x5827 g L H locs ls b5828 hI h0c hP hD hS hl hm; exact absurd hm (by omega)
          | succ fu ih =>
            intro x5826 x5827 g L H locs ls b5828 hI h0c hP hD hS hl hm
            have ih5830 := ih
            refine lv_iload hx hb dX1_comingOf_18 (lv_at hl 6 rfl) ?_
            refine lv_iload_n hx hb dX1_comingOf_20 rfl (lv_at hl 2 rfl) ?_
            refine lv_icmp_ge (x := x5827) (y := p2) (tgt := 57) hx hb dX1_comingOf_21 (by decide) (fun c5831 => ?_) (fun c5831 => ?_)
            ·
              have c5831 := icc_le (m := p2.toInt) (n := x5827.toInt) rfl rfl c5831
              refine lv_iload hx hb dX1_comingOf_57 (lv_at hl 5 rfl) ?_
              refine lv_iload_n hx hb dX1_comingOf_59 rfl (lv_at hl 1 rfl) ?_
              have J5841 : ∀ (x5842 : Int32) (g : Nat → Nat → Int32) (L : Nat → Nat → Int64) (H : Heap) (locs : List Loc) (ls : Array Slot), zI XT g → g 0 = g0 0 → va_P G.1 vwCl (zw G (XS b) 105 a g L) H → va_D A (zw G (XS b) 105 a g L) → va_S A s.heap H locs → lv_has ls 8 [(0, .ref (a 8)), (1, .int p1), (2, .int p2), (4, .int x5842), (5, .int x5125)] → W p l e { frames := 6, cells := 0, slots := 0, locals := 110 } s m [.ref (a 8), .int p1, .int p2, .int p3].toArray below meth c H locs 0 0 (MQ below ((kQi G (S := zS) (fun r u => zI XT u.1 ∧ u.1 0 = g0 0) (fun u => zw G (XS b) 105 a u.1 u.2)) A) [.ref (a 8), .int p1, .int p2, .int p3].toArray s 0 0 A) (F0 m 84 ls []) := by
                intro x5842 g L H locs ls hI h0c hP hD hS hl
                obtain ⟨x5843, e5844q, e5844⟩ : ∃ z : Int32, x5125 + Int32.ofInt (1) = z ∧ z.toInt = x5125.toInt + (1) := ⟨_, rfl, ic_addc rfl (by decide) (by omega) (by omega)⟩
                refine lv_iinc (v := x5843) (lv' := [(5, .int x5843), (0, .ref (a 8)), (1, .int p1), (2, .int p2), (4, .int x5842)]) hx hb dX1_comingOf_84 hl (k := 4) rfl e5844q (by decide) rfl (fun ls hl => ?_)
                refine lv_goto (tgt := 6) hx hb dX1_comingOf_87 (by decide) ?_
                exact ih5128 x5842 x5843 g L H locs ls (by omega) hI h0c hP hD hS (lv_sub hl [1, 2, 3, 4, 0] rfl) (by omega)
              refine lv_icmp_lt (x := x5826) (y := p1) (tgt := 84) hx hb dX1_comingOf_60 (by decide) (fun c5845 => ?_) (fun c5845 => ?_)
              ·
                have c5845 := icc_lt (m := x5826.toInt) (n := p1.toInt) rfl rfl c5845
                exact J5841 x5124 g L H locs ls hI h0c hP hD hS (lv_sub hl [0, 1, 2, 3, 4] rfl)
              ·
                have c5845 := icc_nlt (m := x5826.toInt) (n := p1.toInt) rfl rfl c5845
                refine lv_aload_n hx hb dX1_comingOf_63 rfl (lv_at hl 0 rfl) ?_
                refine x_getr (Or.inl fl_X1_24) C hP (by decide) xs_8 rfl dX1_comingOf_64 ?_
                refine lv_iload hx hb dX1_comingOf_67 (lv_at hl 4 rfl) ?_
                refine x_ald C hP (by decide) xs_47 (by omega) (by omega) dX1_comingOf_69 (fun x5846 e5847 => ?_)
                refine lv_iload hx hb dX1_comingOf_70 (lv_at hl 3 rfl) ?_
                refine lv_icmp_ge (x := x5846) (y := x5124) (tgt := 84) hx hb dX1_comingOf_72 (by decide) (fun c5848 => ?_) (fun c5848 => ?_)
                ·
                  have c5848 := icc_le (m := x5124.toInt) (n := x5846.toInt) rfl rfl c5848
                  exact J5841 x5124 g L H locs ls hI h0c hP hD hS (lv_sub hl [0, 1, 2, 3, 4] rfl)
                ·
                  have c5848 := icc_nle (m := x5124.toInt) (n := x5846.toInt) rfl rfl c5848
                  refine lv_aload_n hx hb dX1_comingOf_75 rfl (lv_at hl 0 rfl) ?_
                  refine x_getr (Or.inl fl_X1_24) C hP (by decide) xs_8 rfl dX1_comingOf_76 ?_
                  refine lv_iload hx hb dX1_comingOf_79 (lv_at hl 4 rfl) ?_
                  refine x_ald C hP (by decide) xs_47 (by omega) (by omega) dX1_comingOf_81 (fun x5849 e5850 => ?_)
                  refine lv_istore (lv' := [(4, .int x5849), (0, .ref (a 8)), (1, .int p1), (2, .int p2), (5, .int x5125), (6, .int x5826), (7, .int x5827)]) hx hb dX1_comingOf_82 hl (by decide) rfl (fun ls hl => ?_)
                  exact J5841 x5849 g L H locs ls hI h0c hP hD hS (lv_sub hl [1, 2, 3, 0, 4] rfl)
            ·
              have c5831 := icc_nle (m := p2.toInt) (n := x5827.toInt) rfl rfl c5831
              refine lv_iload hx hb dX1_comingOf_24 (lv_at hl 5 rfl) ?_
              refine lv_aload_n hx hb dX1_comingOf_26 rfl (lv_at hl 0 rfl) ?_
              refine x_getr (Or.inl fl_X1_24) C hP (by decide) xs_8 rfl dX1_comingOf_27 ?_
              refine lv_iload hx hb dX1_comingOf_30 (lv_at hl 6 rfl) ?_
              refine x_ald C hP (by decide) xs_47 (by omega) (by omega) dX1_comingOf_32 (fun x5851 e5852 => ?_)
              refine lv_aload_n hx hb dX1_comingOf_33 rfl (lv_at hl 0 rfl) ?_
              refine x_getr (Or.inl fl_X1_24) C hP (by decide) xs_8 rfl dX1_comingOf_34 ?_
              refine lv_iload hx hb dX1_comingOf_37 (lv_at hl 4 rfl) ?_
              refine x_ald C hP (by decide) xs_47 (by omega) (by omega) dX1_comingOf_39 (fun x5853 e5854 => ?_)
              have J5861 : ∀ (x5862 : Int32) (g : Nat → Nat → Int32) (L : Nat → Nat → Int64) (H : Heap) (locs : List Loc) (ls : Array Slot), (0 ≤ x5862.toInt ∧ x5862.toInt ≤ 1) → zI XT g → g 0 = g0 0 → va_P G.1 vwCl (zw G (XS b) 105 a g L) H → va_D A (zw G (XS b) 105 a g L) → va_S A s.heap H locs → lv_has ls 8 [(0, .ref (a 8)), (1, .int p1), (2, .int p2), (4, .int x5124), (5, .int x5125), (7, .int x5827)] → W p l e { frames := 6, cells := 0, slots := 0, locals := 110 } s m [.ref (a 8), .int p1, .int p2, .int p3].toArray below meth c H locs 0 0 (MQ below ((kQi G (S := zS) (fun r u => zI XT u.1 ∧ u.1 0 = g0 0) (fun u => zw G (XS b) 105 a u.1 u.2)) A) [.ref (a 8), .int p1, .int p2, .int p3].toArray s 0 0 A) (F0 m 48 ls [.int x5862, .int x5826]) := by
                intro x5862 g L H locs ls b5863 hI h0c hP hD hS hl
                refine lv_iadd hx hb dX1_comingOf_48 ?_
                refine x_any (fun x5864 => ?_)
                refine lv_istore (lv' := [(6, .int x5864), (0, .ref (a 8)), (1, .int p1), (2, .int p2), (4, .int x5124), (5, .int x5125), (7, .int x5827)]) hx hb dX1_comingOf_49 hl (by decide) rfl (fun ls hl => ?_)
                obtain ⟨x5865, e5866q, e5866⟩ : ∃ z : Int32, x5827 + Int32.ofInt (1) = z ∧ z.toInt = x5827.toInt + (1) := ⟨_, rfl, ic_addc rfl (by decide) (by omega) (by omega)⟩
                refine lv_iinc (v := x5865) (lv' := [(7, .int x5865), (6, .int x5864), (0, .ref (a 8)), (1, .int p1), (2, .int p2), (4, .int x5124), (5, .int x5125)]) hx hb dX1_comingOf_51 hl (k := 6) rfl e5866q (by decide) rfl (fun ls hl => ?_)
                refine lv_goto (tgt := 18) hx hb dX1_comingOf_54 (by decide) ?_
                exact ih5830 x5864 x5865 g L H locs ls (by omega) hI h0c hP hD hS (lv_sub hl [2, 3, 4, 5, 6, 1, 0] rfl) (by omega)
              refine lv_icmp_gt (x := x5851) (y := x5853) (tgt := 47) hx hb dX1_comingOf_40 (by decide) (fun c5867 => ?_) (fun c5867 => ?_)
              ·
                have c5867 := icc_lt (m := x5853.toInt) (n := x5851.toInt) rfl rfl c5867
                refine lv_iconst (v := 0) hx hb dX1_comingOf_47 (by decide) ?_
                exact J5861 0 g L H locs ls (by decide) hI h0c hP hD hS (lv_sub hl [0, 1, 2, 3, 4, 6] rfl)
              ·
                have c5867 := icc_nlt (m := x5853.toInt) (n := x5851.toInt) rfl rfl c5867
                refine lv_iconst (v := 1) hx hb dX1_comingOf_43 (by decide) ?_
                refine lv_goto (tgt := 48) hx hb dX1_comingOf_44 (by decide) ?_
                exact J5861 1 g L H locs ls (by decide) hI h0c hP hD hS (lv_sub hl [0, 1, 2, 3, 4, 6] rfl)
        have hc_ : (0 : Int32).toInt = 0 := by decide
        exact lp5829 8 0 0 g L H locs ls (by decide) hI h0c hP hD hS (lv_sub hl [2, 3, 4, 5, 6, 1, 0] rfl) (by omega)
  have hc_ : (0 : Int32).toInt = 0 := by decide
  exact lp5127 8 p3 0 g0 L0 H locs ls (by decide) hI h0c hP hD hS (lv_sub hl [2, 3, 4, 1, 0] rfl) (by omega)
set_option maxHeartbeats 4000000 in
set_option maxRecDepth 100000 in
theorem zX1_firstComingAt_8_les (l : Launch) (G : kG) (sz : Nat) (b : Nat) (a : Nat → Nat) (g0 : Nat → Nat → Int32) (L0 : Nat → Nat → Int64) (hI : zI XT g0) (p1 : Int32) (q1_ : Nat) (q1_l : 57 ≤ q1_) (q1_h : q1_ < 81) : kM l yX1_firstComingAt cX1_firstComingAt 4 (some .int) { frames := 6, cells := 0, slots := 0, locals := 110 } G [.ref (a 8), .int p1, .ref (a q1_)] (zw G (XS b) 105 a g0 L0) sz (kQi G (S := zS) (fun r u => zI XT u.1 ∧ u.1 0 = g0 0 ∧ ((-1) ≤ r.toInt ∧ r.toInt ≤ 11)) (fun u => zw G (XS b) 105 a u.1 u.2)) := by
  refine kM.of (by decide) (Nat.le_of_ble_eq_true rfl) ?_
  intro p e s m below meth c A ls H C hr hlk hnm hP hD hS hl
  have C : kC G p s m c cX1_firstComingAt 4 RX1 A := C
  have hx := C.1
  have hb := C.2.1
  have hl : lv_has ls 4 [(0, .ref (a 8)), (1, .int p1), (2, .ref (a q1_))] := hl
  have h0c : g0 0 = g0 0 := rfl
  obtain ⟨locs, hlocs⟩ : ∃ q : List Loc, q = [] := ⟨_, rfl⟩
  rw [← hlocs] at hS
  rw [← hlocs]
  refine lv_iconst (v := 0) hx hb dX1_firstComingAt_0 (by decide) ?_
  refine lv_istore_n (lv' := [(3, .int 0), (0, .ref (a 8)), (1, .int p1), (2, .ref (a q1_))]) hx hb dX1_firstComingAt_1 rfl hl (by decide) rfl (fun ls hl => ?_)
  have lp97 : ∀ fu : Nat, ∀ (x95 : Int32) (g : Nat → Nat → Int32) (L : Nat → Nat → Int64) (H : Heap) (locs : List Loc) (ls : Array Slot), (0 ≤ x95.toInt ∧ x95.toInt ≤ 6) → zI XT g → g 0 = g0 0 → va_P G.1 vwCl (zw G (XS b) 105 a g L) H → va_D A (zw G (XS b) 105 a g L) → va_S A s.heap H locs → lv_has ls 4 [(0, .ref (a 8)), (1, .int p1), (2, .ref (a q1_)), (3, .int x95)] → 6 - x95.toInt < (fu : Int) → W p l e { frames := 6, cells := 0, slots := 0, locals := 110 } s m [.ref (a 8), .int p1, .ref (a q1_)].toArray below meth c H locs 0 0 (MQ below ((kQi G (S := zS) (fun r u => zI XT u.1 ∧ u.1 0 = g0 0 ∧ ((-1) ≤ r.toInt ∧ r.toInt ≤ 11)) (fun u => zw G (XS b) 105 a u.1 u.2)) A) [.ref (a 8), .int p1, .ref (a q1_)].toArray s 0 0 A) (F0 m 2 ls []) := by
    intro fu
    induction fu with
    | zero => intro x95 g L H locs ls b96 hI h0c hP hD hS hl hm; exact absurd hm (by omega)
    | succ fu ih =>
      intro x95 g L H locs ls b96 hI h0c hP hD hS hl hm
      have ih98 := ih
      refine lv_iload_n hx hb dX1_firstComingAt_2 rfl (lv_at hl 3 rfl) ?_
      refine lv_aload_n hx hb dX1_firstComingAt_3 rfl (lv_at hl 2 rfl) ?_
      refine x_getT hI (xt_les (by omega) (by omega)) (Or.inr fl_X1_87) C hP (by omega) (xs_les (by omega) (by omega)) rfl dX1_firstComingAt_4 (fun x99 e100 b101 => ?_)
      refine lv_icmp_ge (x := x95) (y := x99) (tgt := 33) hx hb dX1_firstComingAt_7 (by decide) (fun c102 => ?_) (fun c102 => ?_)
      ·
        have c102 := icc_le (m := x99.toInt) (n := x95.toInt) rfl rfl c102
        refine lv_iconst (v := -1) hx hb dX1_firstComingAt_33 (by decide) ?_
        exact x_iret C hr hlk hP hD hS (g, L) rfl ⟨hI, h0c, by decide⟩ (Nat.le_of_ble_eq_true rfl) (Nat.le_of_ble_eq_true rfl) dX1_firstComingAt_34
      ·
        have c102 := icc_nle (m := x99.toInt) (n := x95.toInt) rfl rfl c102
        refine lv_aload_n hx hb dX1_firstComingAt_10 rfl (lv_at hl 0 rfl) ?_
        refine x_getr (Or.inl fl_X1_24) C hP (by decide) xs_8 rfl dX1_firstComingAt_11 ?_
        refine lv_iload_n hx hb dX1_firstComingAt_14 rfl (lv_at hl 3 rfl) ?_
        refine x_ald C hP (by decide) xs_47 (by omega) (by omega) dX1_firstComingAt_15 (fun x103 e104 => ?_)
        refine lv_iload_n hx hb dX1_firstComingAt_16 rfl (lv_at hl 1 rfl) ?_
        refine lv_icmp_ne (x := x103) (y := p1) (tgt := 27) hx hb dX1_firstComingAt_17 (by decide) (fun c105 => ?_) (fun c105 => ?_)
        ·
          have c105 := icc_neq (m := x103.toInt) (n := p1.toInt) rfl rfl c105
          obtain ⟨x106, e107q, e107⟩ : ∃ z : Int32, x95 + Int32.ofInt (1) = z ∧ z.toInt = x95.toInt + (1) := ⟨_, rfl, ic_addc rfl (by decide) (by omega) (by omega)⟩
          refine lv_iinc (v := x106) (lv' := [(3, .int x106), (0, .ref (a 8)), (1, .int p1), (2, .ref (a q1_))]) hx hb dX1_firstComingAt_27 hl (k := 3) rfl e107q (by decide) rfl (fun ls hl => ?_)
          refine lv_goto (tgt := 2) hx hb dX1_firstComingAt_30 (by decide) ?_
          exact ih98 x106 g L H locs ls (by omega) hI h0c hP hD hS (lv_sub hl [1, 2, 3, 0] rfl) (by omega)
        ·
          have c105 := icc_eq (m := x103.toInt) (n := p1.toInt) rfl rfl c105
          refine lv_aload_n hx hb dX1_firstComingAt_20 rfl (lv_at hl 2 rfl) ?_
          refine x_getr (Or.inr fl_X1_90) C hP (by omega) (xs_les (by omega) (by omega)) rfl dX1_firstComingAt_21 ?_
          refine lv_iload_n hx hb dX1_firstComingAt_24 rfl (lv_at hl 3 rfl) ?_
          refine x_aldT hI (xt_wai (by omega)) C hP (by omega) (xs_wai (by omega)) (by omega) (by omega) dX1_firstComingAt_25 (fun x108 e109 b110 => ?_)
          exact x_iret C hr hlk hP hD hS (g, L) rfl ⟨hI, h0c, by omega⟩ (Nat.le_of_ble_eq_true rfl) (Nat.le_of_ble_eq_true rfl) dX1_firstComingAt_26
  have hc_ : (0 : Int32).toInt = 0 := by decide
  exact lp97 8 0 g0 L0 H locs ls (by decide) hI h0c hP hD hS (lv_sub hl [1, 2, 3, 0] rfl) (by omega)
set_option maxHeartbeats 4000000 in
set_option maxRecDepth 100000 in
theorem zX1_way_8 (l : Launch) (G : kG) (sz : Nat) (b : Nat) (a : Nat → Nat) (g0 : Nat → Nat → Int32) (L0 : Nat → Nat → Int64) (hI : zI XT g0) (p1 : Int32) (p2 : Int32) (hp1 : 0 ≤ p1.toInt ∧ p1.toInt ≤ 11) (hp2 : 0 ≤ p2.toInt ∧ p2.toInt ≤ 11) : kM l yX1_way cX1_way 4 (some .int) { frames := 7, cells := 0, slots := 0, locals := 131 } G [.ref (a 8), .int p1, .int p2] (zw G (XS b) 105 a g0 L0) sz (kQi G (S := zS) (fun r u => zI XT u.1 ∧ u.1 0 = g0 0 ∧ u.1 12 5 = g0 12 5) (fun u => zw G (XS b) 105 a u.1 u.2)) := by
  refine kM.of (by decide) (Nat.le_of_ble_eq_true rfl) ?_
  intro p e s m below meth c A ls H C hr hlk hnm hP hD hS hl
  have C : kC G p s m c cX1_way 4 RX1 A := C
  have hx := C.1
  have hb := C.2.1
  have hl : lv_has ls 4 [(0, .ref (a 8)), (1, .int p1), (2, .int p2)] := hl
  obtain ⟨w1, k0_0⟩ : ∃ w : Int32, g0 12 5 = w := ⟨_, rfl⟩
  have kz_0 := k0_0
  have kb_0 := hI 12 5 0 72 rfl
  rw [k0_0] at kb_0
  have h0c : g0 0 = g0 0 := rfl
  obtain ⟨locs, hlocs⟩ : ∃ q : List Loc, q = [] := ⟨_, rfl⟩
  rw [← hlocs] at hS
  rw [← hlocs]
  refine lv_aload_n hx hb dX1_way_0 rfl (lv_at hl 0 rfl) ?_
  refine x_getr (Or.inl fl_X1_37) C hP (by decide) xs_8 rfl dX1_way_1 ?_
  refine x_geti (Or.inr fl_X1_117) C hP (by decide) xs_1 rfl dX1_way_4 (fun x2 e3 => ?_)
  refine lv_aload_n hx hb dX1_way_7 rfl (lv_at hl 0 rfl) ?_
  refine x_getr (Or.inl fl_X1_41) C hP (by decide) xs_8 rfl dX1_way_8 ?_
  refine x_getr (Or.inr fl_X1_120) C hP (by decide) xs_6 rfl dX1_way_11 ?_
  refine lv_iload_n hx hb dX1_way_14 rfl (lv_at hl 1 rfl) ?_
  refine x_ald C hP (by decide) xs_27 (by omega) (by omega) dX1_way_15 (fun x4 e5 => ?_)
  refine lv_aload_n hx hb dX1_way_16 rfl (lv_at hl 0 rfl) ?_
  refine x_getr (Or.inl fl_X1_41) C hP (by decide) xs_8 rfl dX1_way_17 ?_
  refine x_getr (Or.inr fl_X1_120) C hP (by decide) xs_6 rfl dX1_way_20 ?_
  refine lv_iload_n hx hb dX1_way_23 rfl (lv_at hl 2 rfl) ?_
  refine x_ald C hP (by decide) xs_27 (by omega) (by omega) dX1_way_24 (fun x6 e7 => ?_)
  refine lv_isub hx hb dX1_way_25 ?_
  refine x_any (fun x8 => ?_)
  refine k_abs lm_X1_123 C hl.1 (Nat.le_of_ble_eq_true rfl) (Nat.le_of_ble_eq_true rfl) (Nat.le_of_ble_eq_true rfl) (Nat.le_of_ble_eq_true rfl) dX1_way_26 ?_
  refine x_any (fun x9 => ?_)
  refine lv_imul hx hb dX1_way_29 ?_
  refine x_any (fun x10 => ?_)
  refine lv_istore_n (lv' := [(3, .int x10), (0, .ref (a 8)), (1, .int p1), (2, .int p2)]) hx hb dX1_way_30 rfl hl (by decide) rfl (fun ls hl => ?_)
  refine lv_aload_n hx hb dX1_way_31 rfl (lv_at hl 1 rfl) ?_
  refine lv_iload_n hx hb dX1_way_32 rfl (lv_at hl 2 rfl) ?_
  refine x_callVi (rest := []) li_X1_127 C (zX1_isUpstairs_8 l G H.size b a g0 L0 hI p1 (by omega)) (kR rfl) hP hD hS 8 1 rfl (zat (by decide) xs_8) rfl hl.1 rfl (Nat.le_of_ble_eq_true rfl) dX1_way_33 (fun x12 u13 H locs hw11 hP hD hS => ?_)
  obtain ⟨g, L⟩ := u13
  obtain ⟨hI, h0n, b14, kk0⟩ := hw11
  have h0c : g 0 = g0 0 := h0n.trans h0c
  have kz_0 : g 12 5 = w1 := kk0.trans kz_0
  have hI : zI XT g := hI
  have hP : va_P G.1 vwCl (zw G (XS b) 105 a g L) H := hP
  have hD : va_D A (zw G (XS b) 105 a g L) := hD
  refine lv_aload_n hx hb dX1_way_36 rfl (lv_at hl 1 rfl) ?_
  refine lv_iload_n hx hb dX1_way_37 rfl (lv_at hl 3 rfl) ?_
  refine x_callVi (rest := [.int x12]) li_X1_127 C (zX1_isUpstairs_8 l G H.size b a g L hI p2 (by omega)) (kR rfl) hP hD hS 8 1 rfl (zat (by decide) xs_8) rfl hl.1 rfl (Nat.le_of_ble_eq_true rfl) dX1_way_38 (fun x17 u18 H locs hw16 hP hD hS => ?_)
  obtain ⟨g, L⟩ := u18
  obtain ⟨hI, h0n, b19, kk0⟩ := hw16
  have h0c : g 0 = g0 0 := h0n.trans h0c
  have kz_0 : g 12 5 = w1 := kk0.trans kz_0
  have hI : zI XT g := hI
  have hP : va_P G.1 vwCl (zw G (XS b) 105 a g L) H := hP
  have hD : va_D A (zw G (XS b) 105 a g L) := hD
  have J33 : ∀ (g : Nat → Nat → Int32) (L : Nat → Nat → Int64) (H : Heap) (locs : List Loc) (ls : Array Slot), g 12 5 = w1 → zI XT g → g 0 = g0 0 → va_P G.1 vwCl (zw G (XS b) 105 a g L) H → va_D A (zw G (XS b) 105 a g L) → va_S A s.heap H locs → lv_has ls 4 [(3, .int x10)] → W p l e { frames := 7, cells := 0, slots := 0, locals := 131 } s m [.ref (a 8), .int p1, .int p2].toArray below meth c H locs 0 0 (MQ below ((kQi G (S := zS) (fun r u => zI XT u.1 ∧ u.1 0 = g0 0 ∧ u.1 12 5 = g0 12 5) (fun u => zw G (XS b) 105 a u.1 u.2)) A) [.ref (a 8), .int p1, .int p2].toArray s 0 0 A) (F0 m 55 ls []) := by
    intro g L H locs ls kf34 hI h0c hP hD hS hl
    refine lv_iload_n hx hb dX1_way_55 rfl (lv_at hl 0 rfl) ?_
    exact x_iret C hr hlk hP hD hS (g, L) rfl ⟨hI, h0c, (kf34.trans k0_0.symm)⟩ (Nat.le_of_ble_eq_true rfl) (Nat.le_of_ble_eq_true rfl) dX1_way_56
  refine lv_icmp_eq (x := x12) (y := x17) (tgt := 55) hx hb dX1_way_41 (by decide) (fun c35 => ?_) (fun c35 => ?_)
  ·
    have c35 := icc_eq (m := x12.toInt) (n := x17.toInt) rfl rfl c35
    exact J33 g L H locs ls kz_0 hI h0c hP hD hS (lv_sub hl [0] rfl)
  ·
    have c35 := icc_neq (m := x12.toInt) (n := x17.toInt) rfl rfl c35
    refine lv_aload_n hx hb dX1_way_44 rfl (lv_at hl 1 rfl) ?_
    refine x_getr (Or.inl fl_X1_37) C hP (by decide) xs_8 rfl dX1_way_45 ?_
    refine x_geti (Or.inr fl_X1_131) C hP (by decide) xs_1 rfl dX1_way_48 (fun x36 e37 => ?_)
    refine lv_iconst (v := 1) hx hb dX1_way_51 (by decide) ?_
    refine lv_icmp_ge (x := x36) (y := 1) (tgt := 57) hx hb dX1_way_52 (by decide) (fun c38 => ?_) (fun c38 => ?_)
    ·
      have c38 := icc_le (m := 1) (n := x36.toInt) (by decide) rfl c38
      refine lv_iload_n hx hb dX1_way_57 rfl (lv_at hl 0 rfl) ?_
      refine lv_aload_n hx hb dX1_way_58 rfl (lv_at hl 1 rfl) ?_
      refine x_getr (Or.inl fl_X1_37) C hP (by decide) xs_8 rfl dX1_way_59 ?_
      refine x_getr (Or.inr fl_X1_58) C hP (by decide) xs_1 rfl dX1_way_62 ?_
      refine lv_iload_n hx hb dX1_way_65 rfl (lv_at hl 2 rfl) ?_
      refine x_aaldQ (t := 57) C hP (by decide) xs_17 (by omega) (by omega) dX1_way_66 (fun q39 q39l q39h => ?_)
      refine x_geti (Or.inr fl_X1_134) C hP (by omega) (xs_les (by omega) (by omega)) rfl dX1_way_67 (fun x40 e41 => ?_)
      refine lv_aload_n hx hb dX1_way_70 rfl (lv_at hl 1 rfl) ?_
      refine x_getr (Or.inl fl_X1_37) C hP (by decide) xs_8 rfl dX1_way_71 ?_
      refine x_getv (v := .int x36) (Or.inr fl_X1_131) C hP (by decide) xs_1 (congrArg Value.int e37) dX1_way_74 ?_
      refine lv_iadd hx hb dX1_way_77 ?_
      refine x_any (fun x42 => ?_)
      refine lv_iconst (v := 1) hx hb dX1_way_78 (by decide) ?_
      refine lv_isub hx hb dX1_way_79 ?_
      refine x_any (fun x43 => ?_)
      refine lv_aload_n hx hb dX1_way_80 rfl (lv_at hl 1 rfl) ?_
      refine x_getr (Or.inl fl_X1_37) C hP (by decide) xs_8 rfl dX1_way_81 ?_
      refine x_getv (v := .int x36) (Or.inr fl_X1_131) C hP (by decide) xs_1 (congrArg Value.int e37) dX1_way_84 ?_
      refine lv_idiv hx hb dX1_way_87 (fun h => absurd (icc_eq (n := 0) rfl (by decide) h) (by omega)) ?_
      refine x_any (fun x44 => ?_)
      refine lv_iadd hx hb dX1_way_88 ?_
      refine x_any (fun x45 => ?_)
      exact x_iret C hr hlk hP hD hS (g, L) rfl ⟨hI, h0c, (kz_0.trans k0_0.symm)⟩ (Nat.le_of_ble_eq_true rfl) (Nat.le_of_ble_eq_true rfl) dX1_way_89
    ·
      have c38 := icc_nle (m := 1) (n := x36.toInt) (by decide) rfl c38
      exact J33 g L H locs ls kz_0 hI h0c hP hD hS (lv_sub hl [0] rfl)
set_option maxHeartbeats 4000000 in
set_option maxRecDepth 100000 in
theorem zX1_begin_8_les (l : Launch) (G : kG) (sz : Nat) (b : Nat) (a : Nat → Nat) (g0 : Nat → Nat → Int32) (L0 : Nat → Nat → Int64) (hI : zI XT g0) (p1 : Int32) (q1_ : Nat) (hp1 : 0 ≤ p1.toInt ∧ p1.toInt ≤ 11) (q1_l : 57 ≤ q1_) (q1_h : q1_ < 81) : kM l yX1_begin cX1_begin 6 none { frames := 8, cells := 0, slots := 0, locals := 154 } G [.ref (a 8), .int p1, .ref (a q1_)] (zw G (XS b) 105 a g0 L0) sz (kQv G (S := zS) (fun u => zI XT u.1 ∧ u.1 0 = g0 0) (fun u => zw G (XS b) 105 a u.1 u.2)) := by
  refine kM.of (by decide) (Nat.le_of_ble_eq_true rfl) ?_
  intro p e s m below meth c A ls H C hr hlk hnm hP hD hS hl
  have C : kC G p s m c cX1_begin 6 RX1 A := C
  have hx := C.1
  have hb := C.2.1
  have hl : lv_has ls 6 [(0, .ref (a 8)), (1, .int p1), (2, .ref (a q1_))] := hl
  have h0c : g0 0 = g0 0 := rfl
  obtain ⟨locs, hlocs⟩ : ∃ q : List Loc, q = [] := ⟨_, rfl⟩
  rw [← hlocs] at hS
  rw [← hlocs]
  refine lv_aload_n hx hb dX1_begin_0 rfl (lv_at hl 0 rfl) ?_
  refine x_getr (Or.inl fl_X1_9) C hP (by decide) xs_8 rfl dX1_begin_1 ?_
  refine lv_iload_n hx hb dX1_begin_4 rfl (lv_at hl 1 rfl) ?_
  refine lv_aload_n hx hb dX1_begin_5 rfl (lv_at hl 2 rfl) ?_
  refine x_geti (Or.inr fl_X1_84) C hP (by omega) (xs_les (by omega) (by omega)) rfl dX1_begin_6 (fun x1 e2 => ?_)
  refine x_ast (hI.updN rfl) C hP hD hS (by decide) xs_43 (by omega) (by omega) dX1_begin_9 (fun g H locs eg hI hP hD hS => ?_)
  have h0c : g 0 = g0 0 := by rw [eg]; exact h0c
  refine lv_aload_n hx hb dX1_begin_10 rfl (lv_at hl 0 rfl) ?_
  refine x_getr (Or.inl fl_X1_21) C hP (by decide) xs_8 rfl dX1_begin_11 ?_
  refine lv_iload_n hx hb dX1_begin_14 rfl (lv_at hl 1 rfl) ?_
  refine lv_iconst (v := -1) hx hb dX1_begin_15 (by decide) ?_
  refine x_ast (hI.upd rfl (by decide) (by decide)) C hP hD hS (by decide) xs_46 (by omega) (by omega) dX1_begin_16 (fun g H locs eg hI hP hD hS => ?_)
  have h0c : g 0 = g0 0 := by rw [eg]; exact h0c
  refine lv_aload_n hx hb dX1_begin_17 rfl (lv_at hl 2 rfl) ?_
  refine x_geti (Or.inr fl_X1_84) C hP (by omega) (xs_les (by omega) (by omega)) rfl dX1_begin_18 (fun x3 e4 => ?_)
  refine lv_istore_n (lv' := [(3, .int x3), (0, .ref (a 8)), (1, .int p1), (2, .ref (a q1_))]) hx hb dX1_begin_21 rfl hl (by decide) rfl (fun ls hl => ?_)
  refine lv_iconst (v := 0) hx hb dX1_begin_22 (by decide) ?_
  refine lv_istore (lv' := [(4, .int 0), (3, .int x3), (0, .ref (a 8)), (1, .int p1), (2, .ref (a q1_))]) hx hb dX1_begin_23 hl (by decide) rfl (fun ls hl => ?_)
  have lp577 : ∀ fu : Nat, ∀ (x574 : Int32) (x575 : Int32) (g : Nat → Nat → Int32) (L : Nat → Nat → Int64) (H : Heap) (locs : List Loc) (ls : Array Slot), (0 ≤ x575.toInt ∧ x575.toInt ≤ 6) → zI XT g → g 0 = g0 0 → va_P G.1 vwCl (zw G (XS b) 105 a g L) H → va_D A (zw G (XS b) 105 a g L) → va_S A s.heap H locs → lv_has ls 6 [(0, .ref (a 8)), (1, .int p1), (2, .ref (a q1_)), (3, .int x574), (4, .int x575)] → 6 - x575.toInt < (fu : Int) → W p l e { frames := 8, cells := 0, slots := 0, locals := 154 } s m [.ref (a 8), .int p1, .ref (a q1_)].toArray below meth c H locs 0 0 (MQ below ((kQv G (S := zS) (fun u => zI XT u.1 ∧ u.1 0 = g0 0) (fun u => zw G (XS b) 105 a u.1 u.2)) A) [.ref (a 8), .int p1, .ref (a q1_)].toArray s 0 0 A) (F0 m 25 ls []) := by
    intro fu
    induction fu with
    | zero => intro x574 x575 g L H locs ls b576 hI h0c hP hD hS hl hm; exact absurd hm (by omega)
    | succ fu ih =>
      intro x574 x575 g L H locs ls b576 hI h0c hP hD hS hl hm
      have ih578 := ih
      refine lv_iload hx hb dX1_begin_25 (lv_at hl 4 rfl) ?_
      refine lv_aload_n hx hb dX1_begin_27 rfl (lv_at hl 2 rfl) ?_
      refine x_getT hI (xt_les (by omega) (by omega)) (Or.inr fl_X1_87) C hP (by omega) (xs_les (by omega) (by omega)) rfl dX1_begin_28 (fun x579 e580 b581 => ?_)
      refine lv_icmp_ge (x := x575) (y := x579) (tgt := 93) hx hb dX1_begin_31 (by decide) (fun c582 => ?_) (fun c582 => ?_)
      ·
        have c582 := icc_le (m := x579.toInt) (n := x575.toInt) rfl rfl c582
        refine lv_aload_n hx hb dX1_begin_93 rfl (lv_at hl 2 rfl) ?_
        refine x_geti (Or.inr fl_X1_101) C hP (by omega) (xs_les (by omega) (by omega)) rfl dX1_begin_94 (fun x583 e584 => ?_)
        refine lv_iconst (v := 1) hx hb dX1_begin_97 (by decide) ?_
        have J611 : ∀ (x612 : Int32) (g : Nat → Nat → Int32) (L : Nat → Nat → Int64) (H : Heap) (locs : List Loc) (ls : Array Slot), zI XT g → g 0 = g0 0 → va_P G.1 vwCl (zw G (XS b) 105 a g L) H → va_D A (zw G (XS b) 105 a g L) → va_S A s.heap H locs → lv_has ls 6 [(0, .ref (a 8)), (1, .int p1), (2, .ref (a q1_)), (3, .int x612)] → W p l e { frames := 8, cells := 0, slots := 0, locals := 154 } s m [.ref (a 8), .int p1, .ref (a q1_)].toArray below meth c H locs 0 0 (MQ below ((kQv G (S := zS) (fun u => zI XT u.1 ∧ u.1 0 = g0 0) (fun u => zw G (XS b) 105 a u.1 u.2)) A) [.ref (a 8), .int p1, .ref (a q1_)].toArray s 0 0 A) (F0 m 115 ls []) := by
          intro x612 g L H locs ls hI h0c hP hD hS hl
          refine lv_iload_n hx hb dX1_begin_115 rfl (lv_at hl 3 rfl) ?_
          refine lv_aload_n hx hb dX1_begin_116 rfl (lv_at hl 2 rfl) ?_
          refine x_geti (Or.inr fl_X1_84) C hP (by omega) (xs_les (by omega) (by omega)) rfl dX1_begin_117 (fun x613 e614 => ?_)
          refine lv_icmp_gt (x := x612) (y := x613) (tgt := 124) hx hb dX1_begin_120 (by decide) (fun c615 => ?_) (fun c615 => ?_)
          ·
            have c615 := icc_lt (m := x613.toInt) (n := x612.toInt) rfl rfl c615
            refine lv_aload_n hx hb dX1_begin_124 rfl (lv_at hl 2 rfl) ?_
            refine x_geti (Or.inr fl_X1_84) C hP (by omega) (xs_les (by omega) (by omega)) rfl dX1_begin_125 (fun x616 e617 => ?_)
            refine lv_aload_n hx hb dX1_begin_128 rfl (lv_at hl 0 rfl) ?_
            refine x_getr (Or.inl fl_X1_41) C hP (by decide) xs_8 rfl dX1_begin_129 ?_
            refine x_getr (Or.inr fl_X1_111) C hP (by decide) xs_6 rfl dX1_begin_132 ?_
            refine lv_iload_n hx hb dX1_begin_135 rfl (lv_at hl 1 rfl) ?_
            refine x_ald C hP (by decide) xs_28 (by omega) (by omega) dX1_begin_136 (fun x618 e619 => ?_)
            refine lv_iadd hx hb dX1_begin_137 ?_
            refine x_any (fun x620 => ?_)
            refine lv_istore (lv' := [(4, .int x620), (0, .ref (a 8)), (1, .int p1), (2, .ref (a q1_)), (3, .int x612)]) hx hb dX1_begin_138 hl (by decide) rfl (fun ls hl => ?_)
            refine lv_iload_n hx hb dX1_begin_140 rfl (lv_at hl 4 rfl) ?_
            refine lv_iload hx hb dX1_begin_141 (lv_at hl 0 rfl) ?_
            refine lv_icmp_le (x := x612) (y := x620) (tgt := 155) hx hb dX1_begin_143 (by decide) (fun c621 => ?_) (fun c621 => ?_)
            ·
              have c621 := icc_le (m := x612.toInt) (n := x620.toInt) rfl rfl c621
              refine lv_aload_n hx hb dX1_begin_155 rfl (lv_at hl 1 rfl) ?_
              refine x_getr (Or.inl fl_X1_9) C hP (by decide) xs_8 rfl dX1_begin_156 ?_
              refine lv_iload_n hx hb dX1_begin_159 rfl (lv_at hl 2 rfl) ?_
              refine lv_iload_n hx hb dX1_begin_160 rfl (lv_at hl 4 rfl) ?_
              refine x_ast (hI.updN rfl) C hP hD hS (by decide) xs_43 (by omega) (by omega) dX1_begin_161 (fun g H locs eg hI hP hD hS => ?_)
              have h0c : g 0 = g0 0 := by rw [eg]; exact h0c
              refine lv_aload_n hx hb dX1_begin_162 rfl (lv_at hl 1 rfl) ?_
              refine x_getr (Or.inl fl_X1_21) C hP (by decide) xs_8 rfl dX1_begin_163 ?_
              refine lv_iload_n hx hb dX1_begin_166 rfl (lv_at hl 2 rfl) ?_
              refine lv_aload_n hx hb dX1_begin_167 rfl (lv_at hl 1 rfl) ?_
              refine lv_iload_n hx hb dX1_begin_168 rfl (lv_at hl 4 rfl) ?_
              refine lv_aload_n hx hb dX1_begin_169 rfl (lv_at hl 3 rfl) ?_
              refine x_callVi (rest := [.int p1, .ref (a 46)]) li_X1_114 C (zX1_firstComingAt_8_les l G H.size b a g L hI x612 q1_ (by omega) (by omega)) (kR rfl) hP hD hS 8 1 rfl (zat (by decide) xs_8) rfl hl.1 rfl (Nat.le_of_ble_eq_true rfl) dX1_begin_170 (fun x623 u624 H locs hw622 hP hD hS => ?_)
              obtain ⟨g, L⟩ := u624
              obtain ⟨hI, h0n, b625⟩ := hw622
              have h0c : g 0 = g0 0 := h0n.trans h0c
              have hI : zI XT g := hI
              have hP : va_P G.1 vwCl (zw G (XS b) 105 a g L) H := hP
              have hD : va_D A (zw G (XS b) 105 a g L) := hD
              refine x_ast (hI.upd rfl (by omega) (by omega)) C hP hD hS (by decide) xs_46 (by omega) (by omega) dX1_begin_173 (fun g H locs eg hI hP hD hS => ?_)
              have h0c : g 0 = g0 0 := by rw [eg]; exact h0c
              exact x_vret C hr hlk hP hD hS (g, L) rfl ⟨hI, h0c⟩ (Nat.le_of_ble_eq_true rfl) (Nat.le_of_ble_eq_true rfl) dX1_begin_174
            ·
              have c621 := icc_nle (m := x612.toInt) (n := x620.toInt) rfl rfl c621
              refine lv_aload_n hx hb dX1_begin_146 rfl (lv_at hl 1 rfl) ?_
              refine x_getr (Or.inl fl_X1_9) C hP (by decide) xs_8 rfl dX1_begin_147 ?_
              refine lv_iload_n hx hb dX1_begin_150 rfl (lv_at hl 2 rfl) ?_
              refine lv_iload hx hb dX1_begin_151 (lv_at hl 0 rfl) ?_
              refine x_ast (hI.updN rfl) C hP hD hS (by decide) xs_43 (by omega) (by omega) dX1_begin_153 (fun g H locs eg hI hP hD hS => ?_)
              have h0c : g 0 = g0 0 := by rw [eg]; exact h0c
              exact x_vret C hr hlk hP hD hS (g, L) rfl ⟨hI, h0c⟩ (Nat.le_of_ble_eq_true rfl) (Nat.le_of_ble_eq_true rfl) dX1_begin_154
          ·
            have c615 := icc_nlt (m := x613.toInt) (n := x612.toInt) rfl rfl c615
            exact x_vret C hr hlk hP hD hS (g, L) rfl ⟨hI, h0c⟩ (Nat.le_of_ble_eq_true rfl) (Nat.le_of_ble_eq_true rfl) dX1_begin_123
        refine lv_icmp_ne (x := x583) (y := 1) (tgt := 115) hx hb dX1_begin_98 (by decide) (fun c627 => ?_) (fun c627 => ?_)
        ·
          have c627 := icc_neq (m := x583.toInt) (n := 1) rfl (by decide) c627
          exact J611 x574 g L H locs ls hI h0c hP hD hS (lv_sub hl [0, 1, 2, 3] rfl)
        ·
          have c627 := icc_eq (m := x583.toInt) (n := 1) rfl (by decide) c627
          refine lv_aload_n hx hb dX1_begin_101 rfl (lv_at hl 0 rfl) ?_
          refine lv_aload_n hx hb dX1_begin_102 rfl (lv_at hl 2 rfl) ?_
          refine x_geti (Or.inr fl_X1_104) C hP (by omega) (xs_les (by omega) (by omega)) rfl dX1_begin_103 (fun x628 e629 => ?_)
          refine lv_aload_n hx hb dX1_begin_106 rfl (lv_at hl 2 rfl) ?_
          refine x_getT hI (xt_les (by omega) (by omega)) (Or.inr fl_X1_87) C hP (by omega) (xs_les (by omega) (by omega)) rfl dX1_begin_107 (fun x630 e631 b632 => ?_)
          refine lv_iload_n hx hb dX1_begin_110 rfl (lv_at hl 3 rfl) ?_
          refine x_callVi (rest := []) li_X1_107 C (zX1_comingOf_8 l G H.size b a g L hI x628 x630 x574 (by omega)) (kR rfl) hP hD hS 8 1 rfl (zat (by decide) xs_8) rfl hl.1 rfl (Nat.le_of_ble_eq_true rfl) dX1_begin_111 (fun x634 u635 H locs hw633 hP hD hS => ?_)
          obtain ⟨g, L⟩ := u635
          obtain ⟨hI, h0n⟩ := hw633
          have h0c : g 0 = g0 0 := h0n.trans h0c
          have hI : zI XT g := hI
          have hP : va_P G.1 vwCl (zw G (XS b) 105 a g L) H := hP
          have hD : va_D A (zw G (XS b) 105 a g L) := hD
          refine lv_istore_n (lv' := [(3, .int x634), (0, .ref (a 8)), (1, .int p1), (2, .ref (a q1_)), (4, .int x575)]) hx hb dX1_begin_114 rfl hl (by decide) rfl (fun ls hl => ?_)
          exact J611 x634 g L H locs ls hI h0c hP hD hS (lv_sub hl [1, 2, 3, 0] rfl)
      ·
        have c582 := icc_nle (m := x579.toInt) (n := x575.toInt) rfl rfl c582
        refine lv_aload_n hx hb dX1_begin_34 rfl (lv_at hl 2 rfl) ?_
        refine x_getr (Or.inr fl_X1_90) C hP (by omega) (xs_les (by omega) (by omega)) rfl dX1_begin_35 ?_
        refine lv_iload hx hb dX1_begin_38 (lv_at hl 4 rfl) ?_
        refine x_aldT hI (xt_wai (by omega)) C hP (by omega) (xs_wai (by omega)) (by omega) (by omega) dX1_begin_40 (fun x638 e639 b640 => ?_)
        refine lv_istore (lv' := [(5, .int x638), (0, .ref (a 8)), (1, .int p1), (2, .ref (a q1_)), (3, .int x574), (4, .int x575)]) hx hb dX1_begin_41 hl (by decide) rfl (fun ls hl => ?_)
        refine lv_aload_n hx hb dX1_begin_43 rfl (lv_at hl 1 rfl) ?_
        refine x_getr (Or.inl fl_X1_24) C hP (by decide) xs_8 rfl dX1_begin_44 ?_
        refine lv_iload hx hb dX1_begin_47 (lv_at hl 5 rfl) ?_
        refine lv_aload_n hx hb dX1_begin_49 rfl (lv_at hl 1 rfl) ?_
        refine x_getr (Or.inl fl_X1_15) C hP (by decide) xs_8 rfl dX1_begin_50 ?_
        refine lv_iload hx hb dX1_begin_53 (lv_at hl 0 rfl) ?_
        refine x_ald C hP (by decide) xs_44 (by omega) (by omega) dX1_begin_55 (fun x641 e642 => ?_)
        refine lv_aload_n hx hb dX1_begin_56 rfl (lv_at hl 1 rfl) ?_
        refine lv_iload hx hb dX1_begin_57 (lv_at hl 0 rfl) ?_
        refine lv_iload_n hx hb dX1_begin_59 rfl (lv_at hl 2 rfl) ?_
        refine x_callVi (rest := [.int x641, .int x575, .ref (a 47)]) li_X1_93 C (zX1_way_8 l G H.size b a g L hI x638 p1 (by omega) (by omega)) (kR rfl) hP hD hS 8 1 rfl (zat (by decide) xs_8) rfl hl.1 rfl (Nat.le_of_ble_eq_true rfl) dX1_begin_60 (fun x644 u645 H locs hw643 hP hD hS => ?_)
        obtain ⟨g, L⟩ := u645
        obtain ⟨hI, h0n, kk0⟩ := hw643
        have h0c : g 0 = g0 0 := h0n.trans h0c
        have hI : zI XT g := hI
        have hP : va_P G.1 vwCl (zw G (XS b) 105 a g L) H := hP
        have hD : va_D A (zw G (XS b) 105 a g L) := hD
        refine lv_iadd hx hb dX1_begin_63 ?_
        refine x_any (fun x648 => ?_)
        refine lv_aload_n hx hb dX1_begin_64 rfl (lv_at hl 1 rfl) ?_
        refine x_getr (Or.inl fl_X1_41) C hP (by decide) xs_8 rfl dX1_begin_65 ?_
        refine x_getr (Or.inr fl_X1_96) C hP (by decide) xs_6 rfl dX1_begin_68 ?_
        refine lv_iload_n hx hb dX1_begin_71 rfl (lv_at hl 2 rfl) ?_
        refine x_ald C hP (by decide) xs_26 (by omega) (by omega) dX1_begin_72 (fun x649 e650 => ?_)
        refine lv_isub hx hb dX1_begin_73 ?_
        refine x_any (fun x651 => ?_)
        refine x_ast (hI.updN rfl) C hP hD hS (by decide) xs_47 (by omega) (by omega) dX1_begin_74 (fun g H locs eg hI hP hD hS => ?_)
        have h0c : g 0 = g0 0 := by rw [eg]; exact h0c
        refine lv_iload_n hx hb dX1_begin_75 rfl (lv_at hl 4 rfl) ?_
        refine lv_aload_n hx hb dX1_begin_76 rfl (lv_at hl 1 rfl) ?_
        refine x_getr (Or.inl fl_X1_24) C hP (by decide) xs_8 rfl dX1_begin_77 ?_
        refine lv_iload hx hb dX1_begin_80 (lv_at hl 5 rfl) ?_
        refine x_ald C hP (by decide) xs_47 (by omega) (by omega) dX1_begin_82 (fun x652 e653 => ?_)
        refine k_max lm_X1_78 C hl.1 (Nat.le_of_ble_eq_true rfl) (Nat.le_of_ble_eq_true rfl) (Nat.le_of_ble_eq_true rfl) (Nat.le_of_ble_eq_true rfl) dX1_begin_83 ?_
        refine x_max (mm := x574.toInt) (nn := x652.toInt) rfl rfl (fun x654 e655 => ?_)
        refine lv_istore_n (lv' := [(3, .int x654), (5, .int x638), (0, .ref (a 8)), (1, .int p1), (2, .ref (a q1_)), (4, .int x575)]) hx hb dX1_begin_86 rfl hl (by decide) rfl (fun ls hl => ?_)
        obtain ⟨x656, e657q, e657⟩ : ∃ z : Int32, x575 + Int32.ofInt (1) = z ∧ z.toInt = x575.toInt + (1) := ⟨_, rfl, ic_addc rfl (by decide) (by omega) (by omega)⟩
        refine lv_iinc (v := x656) (lv' := [(4, .int x656), (3, .int x654), (5, .int x638), (0, .ref (a 8)), (1, .int p1), (2, .ref (a q1_))]) hx hb dX1_begin_87 hl (k := 5) rfl e657q (by decide) rfl (fun ls hl => ?_)
        refine lv_goto (tgt := 25) hx hb dX1_begin_90 (by decide) ?_
        exact ih578 x654 x656 g L H locs ls (by omega) hI h0c hP hD hS (lv_sub hl [3, 4, 5, 1, 0] rfl) (by omega)
  have hc_ : (0 : Int32).toInt = 0 := by decide
  exact lp577 8 x3 0 g L0 H locs ls (by decide) hI h0c hP hD hS (lv_sub hl [2, 3, 4, 1, 0] rfl) (by omega)
set_option maxHeartbeats 4000000 in
set_option maxRecDepth 100000 in
theorem zX8_joined (l : Launch) (G : kG) (sz : Nat) (b : Nat) (a : Nat → Nat) (g0 : Nat → Nat → Int32) (L0 : Nat → Nat → Int64) (hI : zI XT g0) (p1 : Int32) (p2 : Int32) (p3 : Int32) : kM l yX8_joined cX8_joined 3 (some .int) { frames := 6, cells := 0, slots := 0, locals := 110 } G [.int p1, .int p2, .int p3] (zw G (XS b) 105 a g0 L0) sz (kQi G (S := zS) (fun r u => zI XT u.1 ∧ u.1 0 = g0 0) (fun u => zw G (XS b) 105 a u.1 u.2)) := by
  refine kM.of (by decide) (Nat.le_of_ble_eq_true rfl) ?_
  intro p e s m below meth c A ls H C hr hlk hnm hP hD hS hl
  have C : kC G p s m c cX8_joined 3 RX8 A := C
  have hx := C.1
  have hb := C.2.1
  have hl : lv_has ls 3 [(0, .int p1), (1, .int p2), (2, .int p3)] := hl
  have h0c : g0 0 = g0 0 := rfl
  obtain ⟨locs, hlocs⟩ : ∃ q : List Loc, q = [] := ⟨_, rfl⟩
  rw [← hlocs] at hS
  rw [← hlocs]
  refine lv_iload_n hx hb dX8_joined_0 rfl (lv_at hl 0 rfl) ?_
  by_cases c2 : p1.toInt = (-13)
  ·
    refine lv_tableIn (off := 89) (tgt := 90) hx hb dX8_joined_1 (by omega) (by omega) (by rw [c2]; rfl) (by decide) ?_
    refine lv_iload_n hx hb dX8_joined_90 rfl (lv_at hl 1 rfl) ?_
    have J7 : ∀ (x8 : Int32) (g : Nat → Nat → Int32) (L : Nat → Nat → Int64) (H : Heap) (locs : List Loc) (ls : Array Slot), (0 ≤ x8.toInt ∧ x8.toInt ≤ 1) → zI XT g → g 0 = g0 0 → va_P G.1 vwCl (zw G (XS b) 105 a g L) H → va_D A (zw G (XS b) 105 a g L) → va_S A s.heap H locs → lv_has ls 3 [] → W p l e { frames := 6, cells := 0, slots := 0, locals := 110 } s m [.int p1, .int p2, .int p3].toArray below meth c H locs 0 0 (MQ below ((kQi G (S := zS) (fun r u => zI XT u.1 ∧ u.1 0 = g0 0) (fun u => zw G (XS b) 105 a u.1 u.2)) A) [.int p1, .int p2, .int p3].toArray s 0 0 A) (F0 m 103 ls [.int x8]) := by
      intro x8 g L H locs ls b9 hI h0c hP hD hS hl
      exact x_iret C hr hlk hP hD hS (g, L) rfl ⟨hI, h0c⟩ (Nat.le_of_ble_eq_true rfl) (Nat.le_of_ble_eq_true rfl) dX8_joined_103
    have J10 : ∀ (g : Nat → Nat → Int32) (L : Nat → Nat → Int64) (H : Heap) (locs : List Loc) (ls : Array Slot), zI XT g → g 0 = g0 0 → va_P G.1 vwCl (zw G (XS b) 105 a g L) H → va_D A (zw G (XS b) 105 a g L) → va_S A s.heap H locs → lv_has ls 3 [] → W p l e { frames := 6, cells := 0, slots := 0, locals := 110 } s m [.int p1, .int p2, .int p3].toArray below meth c H locs 0 0 (MQ below ((kQi G (S := zS) (fun r u => zI XT u.1 ∧ u.1 0 = g0 0) (fun u => zw G (XS b) 105 a u.1 u.2)) A) [.int p1, .int p2, .int p3].toArray s 0 0 A) (F0 m 102 ls []) := by
      intro g L H locs ls hI h0c hP hD hS hl
      refine lv_iconst (v := 0) hx hb dX8_joined_102 (by decide) ?_
      exact J7 0 g L H locs ls (by decide) hI h0c hP hD hS (lv_sub hl [] rfl)
    refine lv_if_eq (x := p2) (tgt := 102) hx hb dX8_joined_91 (by decide) (fun c11 => ?_) (fun c11 => ?_)
    ·
      have c11 := icc_eq (m := p2.toInt) (n := 0) rfl (by decide) c11
      exact J10 g0 L0 H locs ls hI h0c hP hD hS (lv_sub hl [] rfl)
    ·
      have c11 := icc_neq (m := p2.toInt) (n := 0) rfl (by decide) c11
      refine lv_iload_n hx hb dX8_joined_94 rfl (lv_at hl 2 rfl) ?_
      refine lv_if_eq (x := p3) (tgt := 102) hx hb dX8_joined_95 (by decide) (fun c12 => ?_) (fun c12 => ?_)
      ·
        have c12 := icc_eq (m := p3.toInt) (n := 0) rfl (by decide) c12
        exact J10 g0 L0 H locs ls hI h0c hP hD hS (lv_sub hl [] rfl)
      ·
        have c12 := icc_neq (m := p3.toInt) (n := 0) rfl (by decide) c12
        refine lv_iconst (v := 1) hx hb dX8_joined_98 (by decide) ?_
        refine lv_goto (tgt := 103) hx hb dX8_joined_99 (by decide) ?_
        exact J7 1 g0 L0 H locs ls (by decide) hI h0c hP hD hS (lv_sub hl [] rfl)
  by_cases c13 : p1.toInt = (-12)
  ·
    refine lv_tableIn (off := 78) (tgt := 79) hx hb dX8_joined_1 (by omega) (by omega) (by rw [c13]; rfl) (by decide) ?_
    refine lv_iload_n hx hb dX8_joined_79 rfl (lv_at hl 1 rfl) ?_
    refine lv_iload_n hx hb dX8_joined_80 rfl (lv_at hl 2 rfl) ?_
    have J17 : ∀ (x18 : Int32) (g : Nat → Nat → Int32) (L : Nat → Nat → Int64) (H : Heap) (locs : List Loc) (ls : Array Slot), (0 ≤ x18.toInt ∧ x18.toInt ≤ 1) → zI XT g → g 0 = g0 0 → va_P G.1 vwCl (zw G (XS b) 105 a g L) H → va_D A (zw G (XS b) 105 a g L) → va_S A s.heap H locs → lv_has ls 3 [] → W p l e { frames := 6, cells := 0, slots := 0, locals := 110 } s m [.int p1, .int p2, .int p3].toArray below meth c H locs 0 0 (MQ below ((kQi G (S := zS) (fun r u => zI XT u.1 ∧ u.1 0 = g0 0) (fun u => zw G (XS b) 105 a u.1 u.2)) A) [.int p1, .int p2, .int p3].toArray s 0 0 A) (F0 m 89 ls [.int x18]) := by
      intro x18 g L H locs ls b19 hI h0c hP hD hS hl
      exact x_iret C hr hlk hP hD hS (g, L) rfl ⟨hI, h0c⟩ (Nat.le_of_ble_eq_true rfl) (Nat.le_of_ble_eq_true rfl) dX8_joined_89
    refine lv_icmp_ne (x := p2) (y := p3) (tgt := 88) hx hb dX8_joined_81 (by decide) (fun c20 => ?_) (fun c20 => ?_)
    ·
      have c20 := icc_neq (m := p2.toInt) (n := p3.toInt) rfl rfl c20
      refine lv_iconst (v := 0) hx hb dX8_joined_88 (by decide) ?_
      exact J17 0 g0 L0 H locs ls (by decide) hI h0c hP hD hS (lv_sub hl [] rfl)
    ·
      have c20 := icc_eq (m := p2.toInt) (n := p3.toInt) rfl rfl c20
      refine lv_iconst (v := 1) hx hb dX8_joined_84 (by decide) ?_
      refine lv_goto (tgt := 89) hx hb dX8_joined_85 (by decide) ?_
      exact J17 1 g0 L0 H locs ls (by decide) hI h0c hP hD hS (lv_sub hl [] rfl)
  by_cases c21 : p1.toInt = (-11)
  ·
    refine lv_tableIn (off := 67) (tgt := 68) hx hb dX8_joined_1 (by omega) (by omega) (by rw [c21]; rfl) (by decide) ?_
    refine lv_iload_n hx hb dX8_joined_68 rfl (lv_at hl 1 rfl) ?_
    refine lv_iload_n hx hb dX8_joined_69 rfl (lv_at hl 2 rfl) ?_
    have J25 : ∀ (x26 : Int32) (g : Nat → Nat → Int32) (L : Nat → Nat → Int64) (H : Heap) (locs : List Loc) (ls : Array Slot), (0 ≤ x26.toInt ∧ x26.toInt ≤ 1) → zI XT g → g 0 = g0 0 → va_P G.1 vwCl (zw G (XS b) 105 a g L) H → va_D A (zw G (XS b) 105 a g L) → va_S A s.heap H locs → lv_has ls 3 [] → W p l e { frames := 6, cells := 0, slots := 0, locals := 110 } s m [.int p1, .int p2, .int p3].toArray below meth c H locs 0 0 (MQ below ((kQi G (S := zS) (fun r u => zI XT u.1 ∧ u.1 0 = g0 0) (fun u => zw G (XS b) 105 a u.1 u.2)) A) [.int p1, .int p2, .int p3].toArray s 0 0 A) (F0 m 78 ls [.int x26]) := by
      intro x26 g L H locs ls b27 hI h0c hP hD hS hl
      exact x_iret C hr hlk hP hD hS (g, L) rfl ⟨hI, h0c⟩ (Nat.le_of_ble_eq_true rfl) (Nat.le_of_ble_eq_true rfl) dX8_joined_78
    refine lv_icmp_ge (x := p2) (y := p3) (tgt := 77) hx hb dX8_joined_70 (by decide) (fun c28 => ?_) (fun c28 => ?_)
    ·
      have c28 := icc_le (m := p3.toInt) (n := p2.toInt) rfl rfl c28
      refine lv_iconst (v := 0) hx hb dX8_joined_77 (by decide) ?_
      exact J25 0 g0 L0 H locs ls (by decide) hI h0c hP hD hS (lv_sub hl [] rfl)
    ·
      have c28 := icc_nle (m := p3.toInt) (n := p2.toInt) rfl rfl c28
      refine lv_iconst (v := 1) hx hb dX8_joined_73 (by decide) ?_
      refine lv_goto (tgt := 78) hx hb dX8_joined_74 (by decide) ?_
      exact J25 1 g0 L0 H locs ls (by decide) hI h0c hP hD hS (lv_sub hl [] rfl)
  by_cases c29 : p1.toInt = (-10)
  ·
    refine lv_tableIn (off := 55) (tgt := 56) hx hb dX8_joined_1 (by omega) (by omega) (by rw [c29]; rfl) (by decide) ?_
    refine lv_iload_n hx hb dX8_joined_56 rfl (lv_at hl 2 rfl) ?_
    have J33 : ∀ (x34 : Int32) (g : Nat → Nat → Int32) (L : Nat → Nat → Int64) (H : Heap) (locs : List Loc) (ls : Array Slot), zI XT g → g 0 = g0 0 → va_P G.1 vwCl (zw G (XS b) 105 a g L) H → va_D A (zw G (XS b) 105 a g L) → va_S A s.heap H locs → lv_has ls 3 [] → W p l e { frames := 6, cells := 0, slots := 0, locals := 110 } s m [.int p1, .int p2, .int p3].toArray below meth c H locs 0 0 (MQ below ((kQi G (S := zS) (fun r u => zI XT u.1 ∧ u.1 0 = g0 0) (fun u => zw G (XS b) 105 a u.1 u.2)) A) [.int p1, .int p2, .int p3].toArray s 0 0 A) (F0 m 67 ls [.int x34]) := by
      intro x34 g L H locs ls hI h0c hP hD hS hl
      exact x_iret C hr hlk hP hD hS (g, L) rfl ⟨hI, h0c⟩ (Nat.le_of_ble_eq_true rfl) (Nat.le_of_ble_eq_true rfl) dX8_joined_67
    refine lv_if_ne (x := p3) (tgt := 64) hx hb dX8_joined_57 (by decide) (fun c35 => ?_) (fun c35 => ?_)
    ·
      have c35 := icc_neq (m := p3.toInt) (n := 0) rfl (by decide) c35
      refine lv_iload_n hx hb dX8_joined_64 rfl (lv_at hl 1 rfl) ?_
      refine lv_iload_n hx hb dX8_joined_65 rfl (lv_at hl 2 rfl) ?_
      refine lv_idiv hx hb dX8_joined_66 (fun h => absurd (icc_eq (n := 0) rfl (by decide) h) (by omega)) ?_
      refine x_any (fun x36 => ?_)
      exact J33 x36 g0 L0 H locs ls hI h0c hP hD hS (lv_sub hl [] rfl)
    ·
      have c35 := icc_eq (m := p3.toInt) (n := 0) rfl (by decide) c35
      refine lv_iconst (v := 0) hx hb dX8_joined_60 (by decide) ?_
      refine lv_goto (tgt := 67) hx hb dX8_joined_61 (by decide) ?_
      exact J33 0 g0 L0 H locs ls hI h0c hP hD hS (lv_sub hl [] rfl)
  by_cases c37 : p1.toInt = (-9)
  ·
    refine lv_tableIn (off := 51) (tgt := 52) hx hb dX8_joined_1 (by omega) (by omega) (by rw [c37]; rfl) (by decide) ?_
    refine lv_iload_n hx hb dX8_joined_52 rfl (lv_at hl 1 rfl) ?_
    refine lv_iload_n hx hb dX8_joined_53 rfl (lv_at hl 2 rfl) ?_
    refine lv_imul hx hb dX8_joined_54 ?_
    refine x_any (fun x38 => ?_)
    exact x_iret C hr hlk hP hD hS (g0, L0) rfl ⟨hI, h0c⟩ (Nat.le_of_ble_eq_true rfl) (Nat.le_of_ble_eq_true rfl) dX8_joined_55
  by_cases c39 : p1.toInt = (-8)
  ·
    refine lv_tableIn (off := 47) (tgt := 48) hx hb dX8_joined_1 (by omega) (by omega) (by rw [c39]; rfl) (by decide) ?_
    refine lv_iload_n hx hb dX8_joined_48 rfl (lv_at hl 1 rfl) ?_
    refine lv_iload_n hx hb dX8_joined_49 rfl (lv_at hl 2 rfl) ?_
    refine lv_isub hx hb dX8_joined_50 ?_
    refine x_any (fun x40 => ?_)
    exact x_iret C hr hlk hP hD hS (g0, L0) rfl ⟨hI, h0c⟩ (Nat.le_of_ble_eq_true rfl) (Nat.le_of_ble_eq_true rfl) dX8_joined_51
  by_cases c41 : p1.toInt = (-7)
  ·
    refine lv_tableIn (off := 43) (tgt := 44) hx hb dX8_joined_1 (by omega) (by omega) (by rw [c41]; rfl) (by decide) ?_
    refine lv_iload_n hx hb dX8_joined_44 rfl (lv_at hl 1 rfl) ?_
    refine lv_iload_n hx hb dX8_joined_45 rfl (lv_at hl 2 rfl) ?_
    refine lv_iadd hx hb dX8_joined_46 ?_
    refine x_any (fun x42 => ?_)
    exact x_iret C hr hlk hP hD hS (g0, L0) rfl ⟨hI, h0c⟩ (Nat.le_of_ble_eq_true rfl) (Nat.le_of_ble_eq_true rfl) dX8_joined_47
  refine lv_tableOut (tgt := 104) hx hb dX8_joined_1 (by omega) (by decide) ?_
  refine lv_iload_n hx hb dX8_joined_104 rfl (lv_at hl 1 rfl) ?_
  have J47 : ∀ (x48 : Int32) (g : Nat → Nat → Int32) (L : Nat → Nat → Int64) (H : Heap) (locs : List Loc) (ls : Array Slot), (0 ≤ x48.toInt ∧ x48.toInt ≤ 1) → zI XT g → g 0 = g0 0 → va_P G.1 vwCl (zw G (XS b) 105 a g L) H → va_D A (zw G (XS b) 105 a g L) → va_S A s.heap H locs → lv_has ls 3 [] → W p l e { frames := 6, cells := 0, slots := 0, locals := 110 } s m [.int p1, .int p2, .int p3].toArray below meth c H locs 0 0 (MQ below ((kQi G (S := zS) (fun r u => zI XT u.1 ∧ u.1 0 = g0 0) (fun u => zw G (XS b) 105 a u.1 u.2)) A) [.int p1, .int p2, .int p3].toArray s 0 0 A) (F0 m 117 ls [.int x48]) := by
    intro x48 g L H locs ls b49 hI h0c hP hD hS hl
    exact x_iret C hr hlk hP hD hS (g, L) rfl ⟨hI, h0c⟩ (Nat.le_of_ble_eq_true rfl) (Nat.le_of_ble_eq_true rfl) dX8_joined_117
  have J50 : ∀ (g : Nat → Nat → Int32) (L : Nat → Nat → Int64) (H : Heap) (locs : List Loc) (ls : Array Slot), zI XT g → g 0 = g0 0 → va_P G.1 vwCl (zw G (XS b) 105 a g L) H → va_D A (zw G (XS b) 105 a g L) → va_S A s.heap H locs → lv_has ls 3 [] → W p l e { frames := 6, cells := 0, slots := 0, locals := 110 } s m [.int p1, .int p2, .int p3].toArray below meth c H locs 0 0 (MQ below ((kQi G (S := zS) (fun r u => zI XT u.1 ∧ u.1 0 = g0 0) (fun u => zw G (XS b) 105 a u.1 u.2)) A) [.int p1, .int p2, .int p3].toArray s 0 0 A) (F0 m 112 ls []) := by
    intro g L H locs ls hI h0c hP hD hS hl
    refine lv_iconst (v := 1) hx hb dX8_joined_112 (by decide) ?_
    refine lv_goto (tgt := 117) hx hb dX8_joined_113 (by decide) ?_
    exact J47 1 g L H locs ls (by decide) hI h0c hP hD hS (lv_sub hl [] rfl)
  refine lv_if_ne (x := p2) (tgt := 112) hx hb dX8_joined_105 (by decide) (fun c51 => ?_) (fun c51 => ?_)
  ·
    have c51 := icc_neq (m := p2.toInt) (n := 0) rfl (by decide) c51
    exact J50 g0 L0 H locs ls hI h0c hP hD hS (lv_sub hl [] rfl)
  ·
    have c51 := icc_eq (m := p2.toInt) (n := 0) rfl (by decide) c51
    refine lv_iload_n hx hb dX8_joined_108 rfl (lv_at hl 2 rfl) ?_
    refine lv_if_eq (x := p3) (tgt := 116) hx hb dX8_joined_109 (by decide) (fun c52 => ?_) (fun c52 => ?_)
    ·
      have c52 := icc_eq (m := p3.toInt) (n := 0) rfl (by decide) c52
      refine lv_iconst (v := 0) hx hb dX8_joined_116 (by decide) ?_
      exact J47 0 g0 L0 H locs ls (by decide) hI h0c hP hD hS (lv_sub hl [] rfl)
    ·
      have c52 := icc_neq (m := p3.toInt) (n := 0) rfl (by decide) c52
      exact J50 g0 L0 H locs ls hI h0c hP hD hS (lv_sub hl [] rfl)
set_option maxHeartbeats 4000000 in
set_option maxRecDepth 100000 in
theorem zX8_value_3_48 (l : Launch) (G : kG) (sz : Nat) (b : Nat) (a : Nat → Nat) (g0 : Nat → Nat → Int32) (L0 : Nat → Nat → Int64) (hI : zI XT g0) (p1 : Int32) : kM l yX8_value cX8_value 6 (some .int) { frames := 7, cells := 0, slots := 0, locals := 132 } G [.ref (a 3), .int p1, .ref (a 48)] (zw G (XS b) 105 a g0 L0) sz (kQi G (S := zS) (fun r u => zI XT u.1 ∧ u.1 0 = g0 0) (fun u => zw G (XS b) 105 a u.1 u.2)) := by
  refine kM.of (by decide) (Nat.le_of_ble_eq_true rfl) ?_
  intro p e s m below meth c A ls H C hr hlk hnm hP hD hS hl
  have C : kC G p s m c cX8_value 6 RX8 A := C
  have hx := C.1
  have hb := C.2.1
  have hl : lv_has ls 6 [(0, .ref (a 3)), (1, .int p1), (2, .ref (a 48))] := hl
  have h0c : g0 0 = g0 0 := rfl
  obtain ⟨locs, hlocs⟩ : ∃ q : List Loc, q = [] := ⟨_, rfl⟩
  rw [← hlocs] at hS
  rw [← hlocs]
  refine lv_iload_n hx hb dX8_value_0 rfl (lv_at hl 1 rfl) ?_
  have J1852 : ∀ (g : Nat → Nat → Int32) (L : Nat → Nat → Int64) (H : Heap) (locs : List Loc) (ls : Array Slot), zI XT g → g 0 = g0 0 → va_P G.1 vwCl (zw G (XS b) 105 a g L) H → va_D A (zw G (XS b) 105 a g L) → va_S A s.heap H locs → lv_has ls 6 [] → W p l e { frames := 7, cells := 0, slots := 0, locals := 132 } s m [.ref (a 3), .int p1, .ref (a 48)].toArray below meth c H locs 0 0 (MQ below ((kQi G (S := zS) (fun r u => zI XT u.1 ∧ u.1 0 = g0 0) (fun u => zw G (XS b) 105 a u.1 u.2)) A) [.ref (a 3), .int p1, .ref (a 48)].toArray s 0 0 A) (F0 m 12 ls []) := by
    intro g L H locs ls hI h0c hP hD hS hl
    refine lv_iconst (v := 0) hx hb dX8_value_12 (by decide) ?_
    exact x_iret C hr hlk hP hD hS (g, L) rfl ⟨hI, h0c⟩ (Nat.le_of_ble_eq_true rfl) (Nat.le_of_ble_eq_true rfl) dX8_value_13
  refine lv_if_lt (x := p1) (tgt := 12) hx hb dX8_value_1 (by decide) (fun c1853 => ?_) (fun c1853 => ?_)
  ·
    have c1853 := icc_lt (m := p1.toInt) (n := 0) rfl (by decide) c1853
    exact J1852 g0 L0 H locs ls hI h0c hP hD hS (lv_sub hl [] rfl)
  ·
    have c1853 := icc_nlt (m := p1.toInt) (n := 0) rfl (by decide) c1853
    refine lv_iload_n hx hb dX8_value_4 rfl (lv_at hl 1 rfl) ?_
    refine lv_aload_n hx hb dX8_value_5 rfl (lv_at hl 0 rfl) ?_
    refine x_getT hI rfl (Or.inl fl_X8_21) C hP (by decide) xs_3 rfl dX8_value_6 (fun x1854 e1855 b1856 => ?_)
    refine lv_icmp_lt (x := p1) (y := x1854) (tgt := 14) hx hb dX8_value_9 (by decide) (fun c1857 => ?_) (fun c1857 => ?_)
    ·
      have c1857 := icc_lt (m := p1.toInt) (n := x1854.toInt) rfl rfl c1857
      refine lv_iconst (v := 0) hx hb dX8_value_14 (by decide) ?_
      refine lv_istore_n (lv' := [(3, .int 0), (0, .ref (a 3)), (1, .int p1), (2, .ref (a 48))]) hx hb dX8_value_15 rfl hl (by decide) rfl (fun ls hl => ?_)
      refine lv_aload_n hx hb dX8_value_16 rfl (lv_at hl 1 rfl) ?_
      refine x_getr (Or.inl fl_X8_15) C hP (by decide) xs_3 rfl dX8_value_17 ?_
      refine lv_iload_n hx hb dX8_value_20 rfl (lv_at hl 2 rfl) ?_
      refine x_aldT hI rfl C hP (by decide) xs_20 (by omega) (by omega) dX8_value_21 (fun x1858 e1859 b1860 => ?_)
      refine lv_istore (lv' := [(4, .int x1858), (3, .int 0), (0, .ref (a 3)), (1, .int p1), (2, .ref (a 48))]) hx hb dX8_value_22 hl (by decide) rfl (fun ls hl => ?_)
      have lp3576 : ∀ fu : Nat, ∀ (x3572 : Int32) (x3574 : Int32) (g : Nat → Nat → Int32) (L : Nat → Nat → Int64) (H : Heap) (locs : List Loc) (ls : Array Slot), (0 ≤ x3572.toInt ∧ x3572.toInt ≤ 64) → (0 ≤ x3574.toInt ∧ x3574.toInt ≤ 700) → zI XT g → g 0 = g0 0 → va_P G.1 vwCl (zw G (XS b) 105 a g L) H → va_D A (zw G (XS b) 105 a g L) → va_S A s.heap H locs → lv_has ls 6 [(0, .ref (a 3)), (1, .int p1), (2, .ref (a 48)), (3, .int x3572), (4, .int x3574)] → 700 - x3574.toInt < (fu : Int) → W p l e { frames := 7, cells := 0, slots := 0, locals := 132 } s m [.ref (a 3), .int p1, .ref (a 48)].toArray below meth c H locs 0 0 (MQ below ((kQi G (S := zS) (fun r u => zI XT u.1 ∧ u.1 0 = g0 0) (fun u => zw G (XS b) 105 a u.1 u.2)) A) [.ref (a 3), .int p1, .ref (a 48)].toArray s 0 0 A) (F0 m 24 ls []) := by
        intro fu
        induction fu with
        | zero => intro x3572 x3574 g L H locs ls b3573 b3575 hI h0c hP hD hS hl hm; exact absurd hm (by omega)
        | succ fu ih =>
          intro x3572 x3574 g L H locs ls b3573 b3575 hI h0c hP hD hS hl hm
          have ih3577 := ih
          refine lv_iload hx hb dX8_value_24 (lv_at hl 4 rfl) ?_
          refine lv_aload_n hx hb dX8_value_26 rfl (lv_at hl 0 rfl) ?_
          refine x_getr (Or.inl fl_X8_15) C hP (by decide) xs_3 rfl dX8_value_27 ?_
          refine lv_iload_n hx hb dX8_value_30 rfl (lv_at hl 1 rfl) ?_
          refine lv_iconst (v := 1) hx hb dX8_value_31 (by decide) ?_
          refine lv_iadd hx hb dX8_value_32 ?_
          refine x_val (ic_addc (m := p1.toInt) (n := 1) rfl (by decide) (by omega) (by omega)) (fun x3578 e3579 => ?_)
          refine x_aldT hI rfl C hP (by decide) xs_20 (by omega) (by omega) dX8_value_33 (fun x3580 e3581 b3582 => ?_)
          refine lv_icmp_ge (x := x3574) (y := x3580) (tgt := 173) hx hb dX8_value_34 (by decide) (fun c3583 => ?_) (fun c3583 => ?_)
          ·
            have c3583 := icc_le (m := x3580.toInt) (n := x3574.toInt) rfl rfl c3583
            refine lv_iload_n hx hb dX8_value_173 rfl (lv_at hl 3 rfl) ?_
            refine lv_iconst (v := 1) hx hb dX8_value_174 (by decide) ?_
            have J3588 : ∀ (x3589 : Int32) (g : Nat → Nat → Int32) (L : Nat → Nat → Int64) (H : Heap) (locs : List Loc) (ls : Array Slot), zI XT g → g 0 = g0 0 → va_P G.1 vwCl (zw G (XS b) 105 a g L) H → va_D A (zw G (XS b) 105 a g L) → va_S A s.heap H locs → lv_has ls 6 [] → W p l e { frames := 7, cells := 0, slots := 0, locals := 132 } s m [.ref (a 3), .int p1, .ref (a 48)].toArray below meth c H locs 0 0 (MQ below ((kQi G (S := zS) (fun r u => zI XT u.1 ∧ u.1 0 = g0 0) (fun u => zw G (XS b) 105 a u.1 u.2)) A) [.ref (a 3), .int p1, .ref (a 48)].toArray s 0 0 A) (F0 m 188 ls [.int x3589]) := by
              intro x3589 g L H locs ls hI h0c hP hD hS hl
              exact x_iret C hr hlk hP hD hS (g, L) rfl ⟨hI, h0c⟩ (Nat.le_of_ble_eq_true rfl) (Nat.le_of_ble_eq_true rfl) dX8_value_188
            refine lv_icmp_ne (x := x3572) (y := 1) (tgt := 187) hx hb dX8_value_175 (by decide) (fun c3590 => ?_) (fun c3590 => ?_)
            ·
              have c3590 := icc_neq (m := x3572.toInt) (n := 1) rfl (by decide) c3590
              refine lv_iconst (v := 0) hx hb dX8_value_187 (by decide) ?_
              exact J3588 0 g L H locs ls hI h0c hP hD hS (lv_sub hl [] rfl)
            ·
              have c3590 := icc_eq (m := x3572.toInt) (n := 1) rfl (by decide) c3590
              refine lv_aload_n hx hb dX8_value_178 rfl (lv_at hl 0 rfl) ?_
              refine x_getr (Or.inl fl_X8_18) C hP (by decide) xs_3 rfl dX8_value_179 ?_
              refine lv_iconst (v := 0) hx hb dX8_value_182 (by decide) ?_
              refine x_ald C hP (by decide) xs_21 (by decide) (by decide) dX8_value_183 (fun x3591 e3592 => ?_)
              refine lv_goto (tgt := 188) hx hb dX8_value_184 (by decide) ?_
              exact J3588 x3591 g L H locs ls hI h0c hP hD hS (lv_sub hl [] rfl)
          ·
            have c3583 := icc_nle (m := x3580.toInt) (n := x3574.toInt) rfl rfl c3583
            refine lv_aload_n hx hb dX8_value_37 rfl (lv_at hl 0 rfl) ?_
            refine x_getr (Or.inl fl_X8_9) C hP (by decide) xs_3 rfl dX8_value_38 ?_
            refine lv_iload hx hb dX8_value_41 (lv_at hl 4 rfl) ?_
            refine x_ald C hP (by decide) xs_19 (by omega) (by omega) dX8_value_43 (fun x3593 e3594 => ?_)
            refine lv_istore (lv' := [(5, .int x3593), (0, .ref (a 3)), (1, .int p1), (2, .ref (a 48)), (3, .int x3572), (4, .int x3574)]) hx hb dX8_value_44 hl (by decide) rfl (fun ls hl => ?_)
            refine lv_iload hx hb dX8_value_46 (lv_at hl 0 rfl) ?_
            refine lv_bipush (v := -6) hx hb dX8_value_48 (by decide) ?_
            have J3649 : ∀ (x3650 : Int32) (g : Nat → Nat → Int32) (L : Nat → Nat → Int64) (H : Heap) (locs : List Loc) (ls : Array Slot), (1 ≤ x3650.toInt ∧ x3650.toInt ≤ 64) → zI XT g → g 0 = g0 0 → va_P G.1 vwCl (zw G (XS b) 105 a g L) H → va_D A (zw G (XS b) 105 a g L) → va_S A s.heap H locs → lv_has ls 6 [(0, .ref (a 3)), (1, .int p1), (2, .ref (a 48)), (3, .int x3650), (4, .int x3574)] → W p l e { frames := 7, cells := 0, slots := 0, locals := 132 } s m [.ref (a 3), .int p1, .ref (a 48)].toArray below meth c H locs 0 0 (MQ below ((kQi G (S := zS) (fun r u => zI XT u.1 ∧ u.1 0 = g0 0) (fun u => zw G (XS b) 105 a u.1 u.2)) A) [.ref (a 3), .int p1, .ref (a 48)].toArray s 0 0 A) (F0 m 167 ls []) := by
              intro x3650 g L H locs ls b3651 hI h0c hP hD hS hl
              obtain ⟨x3652, e3653q, e3653⟩ : ∃ z : Int32, x3574 + Int32.ofInt (1) = z ∧ z.toInt = x3574.toInt + (1) := ⟨_, rfl, ic_addc rfl (by decide) (by omega) (by omega)⟩
              refine lv_iinc (v := x3652) (lv' := [(4, .int x3652), (0, .ref (a 3)), (1, .int p1), (2, .ref (a 48)), (3, .int x3650)]) hx hb dX8_value_167 hl (k := 4) rfl e3653q (by decide) rfl (fun ls hl => ?_)
              refine lv_goto (tgt := 24) hx hb dX8_value_170 (by decide) ?_
              exact ih3577 x3650 x3652 g L H locs ls (by omega) (by omega) hI h0c hP hD hS (lv_sub hl [1, 2, 3, 4, 0] rfl) (by omega)
            refine lv_icmp_lt (x := x3593) (y := (-6)) (tgt := 89) hx hb dX8_value_50 (by decide) (fun c3654 => ?_) (fun c3654 => ?_)
            ·
              have c3654 := icc_lt (m := x3593.toInt) (n := (-6)) rfl (by decide) c3654
              refine lv_iload hx hb dX8_value_89 (lv_at hl 0 rfl) ?_
              refine lv_bipush (v := -15) hx hb dX8_value_91 (by decide) ?_
              refine lv_icmp_ne (x := x3593) (y := (-15)) (tgt := 130) hx hb dX8_value_93 (by decide) (fun c3655 => ?_) (fun c3655 => ?_)
              ·
                have c3655 := icc_neq (m := x3593.toInt) (n := (-15)) rfl (by decide) c3655
                refine lv_iload_n hx hb dX8_value_130 rfl (lv_at hl 4 rfl) ?_
                refine lv_iconst (v := 2) hx hb dX8_value_131 (by decide) ?_
                refine lv_icmp_ge (x := x3572) (y := 2) (tgt := 137) hx hb dX8_value_132 (by decide) (fun c3656 => ?_) (fun c3656 => ?_)
                ·
                  have c3656 := icc_le (m := 2) (n := x3572.toInt) (by decide) rfl c3656
                  obtain ⟨x3657, e3658q, e3658⟩ : ∃ z : Int32, x3572 + Int32.ofInt (-1) = z ∧ z.toInt = x3572.toInt + (-1) := ⟨_, rfl, ic_addc rfl (by decide) (by omega) (by omega)⟩
                  refine lv_iinc (v := x3657) (lv' := [(3, .int x3657), (5, .int x3593), (0, .ref (a 3)), (1, .int p1), (2, .ref (a 48)), (4, .int x3574)]) hx hb dX8_value_137 hl (k := 4) rfl e3658q (by decide) rfl (fun ls hl => ?_)
                  refine lv_aload_n hx hb dX8_value_140 rfl (lv_at hl 2 rfl) ?_
                  refine x_getr (Or.inl fl_X8_18) C hP (by decide) xs_3 rfl dX8_value_141 ?_
                  refine lv_iload_n hx hb dX8_value_144 rfl (lv_at hl 0 rfl) ?_
                  refine lv_iconst (v := 1) hx hb dX8_value_145 (by decide) ?_
                  refine lv_isub hx hb dX8_value_146 ?_
                  refine x_val (ic_subc (m := x3657.toInt) (n := 1) rfl (by decide) (by omega) (by omega)) (fun x3659 e3660 => ?_)
                  refine lv_iload hx hb dX8_value_147 (lv_at hl 1 rfl) ?_
                  refine lv_aload_n hx hb dX8_value_149 rfl (lv_at hl 2 rfl) ?_
                  refine x_getr (Or.inl fl_X8_18) C hP (by decide) xs_3 rfl dX8_value_150 ?_
                  refine lv_iload_n hx hb dX8_value_153 rfl (lv_at hl 0 rfl) ?_
                  refine lv_iconst (v := 1) hx hb dX8_value_154 (by decide) ?_
                  refine lv_isub hx hb dX8_value_155 ?_
                  refine x_val (ic_subc (m := x3657.toInt) (n := 1) rfl (by decide) (by omega) (by omega)) (fun x3661 e3662 => ?_)
                  refine x_ald C hP (by decide) xs_21 (by omega) (by omega) dX8_value_156 (fun x3663 e3664 => ?_)
                  refine lv_aload_n hx hb dX8_value_157 rfl (lv_at hl 2 rfl) ?_
                  refine x_getr (Or.inl fl_X8_18) C hP (by decide) xs_3 rfl dX8_value_158 ?_
                  refine lv_iload_n hx hb dX8_value_161 rfl (lv_at hl 0 rfl) ?_
                  refine x_ald C hP (by decide) xs_21 (by omega) (by omega) dX8_value_162 (fun x3665 e3666 => ?_)
                  refine x_callSi (rest := [.int x3659, .ref (a 21)]) li_X8_28 C (zX8_joined l G H.size b a g L hI x3593 x3663 x3665) (kR rfl) hP hD hS rfl hl.1 rfl (Nat.le_of_ble_eq_true rfl) dX8_value_163 (fun x3668 u3669 H locs hw3667 hP hD hS => ?_)
                  obtain ⟨g, L⟩ := u3669
                  obtain ⟨hI, h0n⟩ := hw3667
                  have h0c : g 0 = g0 0 := h0n.trans h0c
                  have hI : zI XT g := hI
                  have hP : va_P G.1 vwCl (zw G (XS b) 105 a g L) H := hP
                  have hD : va_D A (zw G (XS b) 105 a g L) := hD
                  refine x_ast (hI.updN rfl) C hP hD hS (by decide) xs_21 (by omega) (by omega) dX8_value_166 (fun g H locs eg hI hP hD hS => ?_)
                  have h0c : g 0 = g0 0 := by rw [eg]; exact h0c
                  exact J3649 x3657 g L H locs ls (by omega) hI h0c hP hD hS (lv_sub hl [2, 3, 4, 0, 5] rfl)
                ·
                  have c3656 := icc_nle (m := 2) (n := x3572.toInt) (by decide) rfl c3656
                  refine lv_iconst (v := 0) hx hb dX8_value_135 (by decide) ?_
                  exact x_iret C hr hlk hP hD hS (g, L) rfl ⟨hI, h0c⟩ (Nat.le_of_ble_eq_true rfl) (Nat.le_of_ble_eq_true rfl) dX8_value_136
              ·
                have c3655 := icc_eq (m := x3593.toInt) (n := (-15)) rfl (by decide) c3655
                refine lv_iload_n hx hb dX8_value_96 rfl (lv_at hl 4 rfl) ?_
                refine lv_iconst (v := 1) hx hb dX8_value_97 (by decide) ?_
                refine lv_icmp_ge (x := x3572) (y := 1) (tgt := 103) hx hb dX8_value_98 (by decide) (fun c3672 => ?_) (fun c3672 => ?_)
                ·
                  have c3672 := icc_le (m := 1) (n := x3572.toInt) (by decide) rfl c3672
                  refine lv_aload_n hx hb dX8_value_103 rfl (lv_at hl 1 rfl) ?_
                  refine x_getr (Or.inl fl_X8_18) C hP (by decide) xs_3 rfl dX8_value_104 ?_
                  refine lv_iload_n hx hb dX8_value_107 rfl (lv_at hl 4 rfl) ?_
                  refine lv_iconst (v := 1) hx hb dX8_value_108 (by decide) ?_
                  refine lv_isub hx hb dX8_value_109 ?_
                  refine x_val (ic_subc (m := x3572.toInt) (n := 1) rfl (by decide) (by omega) (by omega)) (fun x3673 e3674 => ?_)
                  refine lv_aload_n hx hb dX8_value_110 rfl (lv_at hl 1 rfl) ?_
                  refine x_getr (Or.inl fl_X8_18) C hP (by decide) xs_3 rfl dX8_value_111 ?_
                  refine lv_iload_n hx hb dX8_value_114 rfl (lv_at hl 4 rfl) ?_
                  refine lv_iconst (v := 1) hx hb dX8_value_115 (by decide) ?_
                  refine lv_isub hx hb dX8_value_116 ?_
                  refine x_val (ic_subc (m := x3572.toInt) (n := 1) rfl (by decide) (by omega) (by omega)) (fun x3675 e3676 => ?_)
                  refine x_ald C hP (by decide) xs_21 (by omega) (by omega) dX8_value_117 (fun x3677 e3678 => ?_)
                  have J3682 : ∀ (x3683 : Int32) (g : Nat → Nat → Int32) (L : Nat → Nat → Int64) (H : Heap) (locs : List Loc) (ls : Array Slot), (0 ≤ x3683.toInt ∧ x3683.toInt ≤ 1) → zI XT g → g 0 = g0 0 → va_P G.1 vwCl (zw G (XS b) 105 a g L) H → va_D A (zw G (XS b) 105 a g L) → va_S A s.heap H locs → lv_has ls 6 [(0, .ref (a 3)), (1, .int p1), (2, .ref (a 48)), (3, .int x3572), (4, .int x3574)] → W p l e { frames := 7, cells := 0, slots := 0, locals := 132 } s m [.ref (a 3), .int p1, .ref (a 48)].toArray below meth c H locs 0 0 (MQ below ((kQi G (S := zS) (fun r u => zI XT u.1 ∧ u.1 0 = g0 0) (fun u => zw G (XS b) 105 a u.1 u.2)) A) [.ref (a 3), .int p1, .ref (a 48)].toArray s 0 0 A) (F0 m 126 ls [.int x3683, .int x3673, .ref (a 21)]) := by
                    intro x3683 g L H locs ls b3684 hI h0c hP hD hS hl
                    refine x_ast (hI.updN rfl) C hP hD hS (by decide) xs_21 (by omega) (by omega) dX8_value_126 (fun g H locs eg hI hP hD hS => ?_)
                    have h0c : g 0 = g0 0 := by rw [eg]; exact h0c
                    refine lv_goto (tgt := 167) hx hb dX8_value_127 (by decide) ?_
                    exact J3649 x3572 g L H locs ls (by omega) hI h0c hP hD hS (lv_sub hl [0, 1, 2, 3, 4] rfl)
                  refine lv_if_ne (x := x3677) (tgt := 125) hx hb dX8_value_118 (by decide) (fun c3685 => ?_) (fun c3685 => ?_)
                  ·
                    have c3685 := icc_neq (m := x3677.toInt) (n := 0) rfl (by decide) c3685
                    refine lv_iconst (v := 0) hx hb dX8_value_125 (by decide) ?_
                    exact J3682 0 g L H locs ls (by decide) hI h0c hP hD hS (lv_sub hl [1, 2, 3, 4, 5] rfl)
                  ·
                    have c3685 := icc_eq (m := x3677.toInt) (n := 0) rfl (by decide) c3685
                    refine lv_iconst (v := 1) hx hb dX8_value_121 (by decide) ?_
                    refine lv_goto (tgt := 126) hx hb dX8_value_122 (by decide) ?_
                    exact J3682 1 g L H locs ls (by decide) hI h0c hP hD hS (lv_sub hl [1, 2, 3, 4, 5] rfl)
                ·
                  have c3672 := icc_nle (m := 1) (n := x3572.toInt) (by decide) rfl c3672
                  refine lv_iconst (v := 0) hx hb dX8_value_101 (by decide) ?_
                  exact x_iret C hr hlk hP hD hS (g, L) rfl ⟨hI, h0c⟩ (Nat.le_of_ble_eq_true rfl) (Nat.le_of_ble_eq_true rfl) dX8_value_102
            ·
              have c3654 := icc_nlt (m := x3593.toInt) (n := (-6)) rfl (by decide) c3654
              refine lv_iload_n hx hb dX8_value_53 rfl (lv_at hl 4 rfl) ?_
              refine lv_bipush (v := 64) hx hb dX8_value_54 (by decide) ?_
              refine lv_icmp_lt (x := x3572) (y := 64) (tgt := 61) hx hb dX8_value_56 (by decide) (fun c3686 => ?_) (fun c3686 => ?_)
              ·
                have c3686 := icc_lt (m := x3572.toInt) (n := 64) rfl (by decide) c3686
                refine lv_aload_n hx hb dX8_value_61 rfl (lv_at hl 1 rfl) ?_
                refine x_getr (Or.inl fl_X8_18) C hP (by decide) xs_3 rfl dX8_value_62 ?_
                refine lv_iload_n hx hb dX8_value_65 rfl (lv_at hl 4 rfl) ?_
                refine lv_iload hx hb dX8_value_66 (lv_at hl 0 rfl) ?_
                have J3695 : ∀ (x3696 : Int32) (g : Nat → Nat → Int32) (L : Nat → Nat → Int64) (H : Heap) (locs : List Loc) (ls : Array Slot), zI XT g → g 0 = g0 0 → va_P G.1 vwCl (zw G (XS b) 105 a g L) H → va_D A (zw G (XS b) 105 a g L) → va_S A s.heap H locs → lv_has ls 6 [(0, .ref (a 3)), (1, .int p1), (2, .ref (a 48)), (3, .int x3572), (4, .int x3574)] → W p l e { frames := 7, cells := 0, slots := 0, locals := 132 } s m [.ref (a 3), .int p1, .ref (a 48)].toArray below meth c H locs 0 0 (MQ below ((kQi G (S := zS) (fun r u => zI XT u.1 ∧ u.1 0 = g0 0) (fun u => zw G (XS b) 105 a u.1 u.2)) A) [.ref (a 3), .int p1, .ref (a 48)].toArray s 0 0 A) (F0 m 82 ls [.int x3696, .int x3572, .ref (a 21)]) := by
                  intro x3696 g L H locs ls hI h0c hP hD hS hl
                  refine x_ast (hI.updN rfl) C hP hD hS (by decide) xs_21 (by omega) (by omega) dX8_value_82 (fun g H locs eg hI hP hD hS => ?_)
                  have h0c : g 0 = g0 0 := by rw [eg]; exact h0c
                  obtain ⟨x3697, e3698q, e3698⟩ : ∃ z : Int32, x3572 + Int32.ofInt (1) = z ∧ z.toInt = x3572.toInt + (1) := ⟨_, rfl, ic_addc rfl (by decide) (by omega) (by omega)⟩
                  refine lv_iinc (v := x3697) (lv' := [(3, .int x3697), (0, .ref (a 3)), (1, .int p1), (2, .ref (a 48)), (4, .int x3574)]) hx hb dX8_value_83 hl (k := 3) rfl e3698q (by decide) rfl (fun ls hl => ?_)
                  refine lv_goto (tgt := 167) hx hb dX8_value_86 (by decide) ?_
                  exact J3649 x3697 g L H locs ls (by omega) hI h0c hP hD hS (lv_sub hl [1, 2, 3, 0, 4] rfl)
                refine lv_if_lt (x := x3593) (tgt := 76) hx hb dX8_value_68 (by decide) (fun c3699 => ?_) (fun c3699 => ?_)
                ·
                  have c3699 := icc_lt (m := x3593.toInt) (n := 0) rfl (by decide) c3699
                  refine lv_aload_n hx hb dX8_value_76 rfl (lv_at hl 3 rfl) ?_
                  refine lv_iconst (v := -1) hx hb dX8_value_77 (by decide) ?_
                  refine lv_iload hx hb dX8_value_78 (lv_at hl 0 rfl) ?_
                  refine lv_isub hx hb dX8_value_80 ?_
                  refine x_val (ic_subc (m := (-1)) (n := x3593.toInt) (by decide) rfl (by omega) (by omega)) (fun x3700 e3701 => ?_)
                  refine x_ald C hP (by decide) xs_48 (by omega) (by omega) dX8_value_81 (fun x3702 e3703 => ?_)
                  exact J3695 x3702 g L H locs ls hI h0c hP hD hS (lv_sub hl [1, 2, 3, 4, 5] rfl)
                ·
                  have c3699 := icc_nlt (m := x3593.toInt) (n := 0) rfl (by decide) c3699
                  refine lv_iload hx hb dX8_value_71 (lv_at hl 0 rfl) ?_
                  refine lv_goto (tgt := 82) hx hb dX8_value_73 (by decide) ?_
                  exact J3695 x3593 g L H locs ls hI h0c hP hD hS (lv_sub hl [1, 2, 3, 4, 5] rfl)
              ·
                have c3686 := icc_nlt (m := x3572.toInt) (n := 64) rfl (by decide) c3686
                refine lv_iconst (v := 0) hx hb dX8_value_59 (by decide) ?_
                exact x_iret C hr hlk hP hD hS (g, L) rfl ⟨hI, h0c⟩ (Nat.le_of_ble_eq_true rfl) (Nat.le_of_ble_eq_true rfl) dX8_value_60
      have hc_ : (0 : Int32).toInt = 0 := by decide
      exact lp3576 702 0 x1858 g0 L0 H locs ls (by decide) (by omega) hI h0c hP hD hS (lv_sub hl [2, 3, 4, 1, 0] rfl) (by omega)
    ·
      have c1857 := icc_nlt (m := p1.toInt) (n := x1854.toInt) rfl rfl c1857
      exact J1852 g0 L0 H locs ls hI h0c hP hD hS (lv_sub hl [] rfl)
set_option maxHeartbeats 4000000 in
set_option maxRecDepth 100000 in
theorem zX1_overrun_8_les (l : Launch) (G : kG) (sz : Nat) (b : Nat) (a : Nat → Nat) (g0 : Nat → Nat → Int32) (L0 : Nat → Nat → Int64) (hI : zI XT g0) (p1 : Int32) (q1_ : Nat) (hp1 : 0 ≤ p1.toInt ∧ p1.toInt ≤ 11) (q1_l : 57 ≤ q1_) (q1_h : q1_ < 81) : kM l yX1_overrun cX1_overrun 5 (some .int) { frames := 8, cells := 0, slots := 0, locals := 157 } G [.ref (a 8), .int p1, .ref (a q1_)] (zw G (XS b) 105 a g0 L0) sz (kQi G (S := zS) (fun r u => zI XT u.1 ∧ u.1 0 = g0 0 ∧ (0 ≤ r.toInt ∧ r.toInt ≤ 180)) (fun u => zw G (XS b) 105 a u.1 u.2)) := by
  refine kM.of (by decide) (Nat.le_of_ble_eq_true rfl) ?_
  intro p e s m below meth c A ls H C hr hlk hnm hP hD hS hl
  have C : kC G p s m c cX1_overrun 5 RX1 A := C
  have hx := C.1
  have hb := C.2.1
  have hl : lv_has ls 5 [(0, .ref (a 8)), (1, .int p1), (2, .ref (a q1_))] := hl
  have h0c : g0 0 = g0 0 := rfl
  obtain ⟨locs, hlocs⟩ : ∃ q : List Loc, q = [] := ⟨_, rfl⟩
  rw [← hlocs] at hS
  rw [← hlocs]
  refine lv_aload_n hx hb dX1_overrun_0 rfl (lv_at hl 0 rfl) ?_
  refine x_geti (Or.inl fl_X1_30) C hP (by decide) xs_8 rfl dX1_overrun_1 (fun x1 e2 => ?_)
  refine lv_iload_n hx hb dX1_overrun_4 rfl (lv_at hl 1 rfl) ?_
  refine lv_ishr hx hb dX1_overrun_5 ?_
  refine x_any (fun x3 => ?_)
  refine lv_iconst (v := 1) hx hb dX1_overrun_6 (by decide) ?_
  refine lv_iand hx hb dX1_overrun_7 ?_
  refine x_rng (lo := 0) (hi := 1) (ic_and1 _) (fun x4 b5 => ?_)
  refine lv_if_ne (x := x4) (tgt := 13) hx hb dX1_overrun_8 (by decide) (fun c6 => ?_) (fun c6 => ?_)
  ·
    have c6 := icc_neq (m := x4.toInt) (n := 0) rfl (by decide) c6
    refine lv_iload_n hx hb dX1_overrun_13 rfl (lv_at hl 1 rfl) ?_
    refine lv_aload_n hx hb dX1_overrun_14 rfl (lv_at hl 0 rfl) ?_
    refine x_geti (Or.inl fl_X1_34) C hP (by decide) xs_8 rfl dX1_overrun_15 (fun x7 e8 => ?_)
    have J69 : ∀ (x70 : Int32) (g : Nat → Nat → Int32) (L : Nat → Nat → Int64) (H : Heap) (locs : List Loc) (ls : Array Slot), (60 ≤ x70.toInt ∧ x70.toInt ≤ 180) → zI XT g → g 0 = g0 0 → va_P G.1 vwCl (zw G (XS b) 105 a g L) H → va_D A (zw G (XS b) 105 a g L) → va_S A s.heap H locs → lv_has ls 5 [(0, .ref (a 8)), (1, .int p1), (2, .ref (a q1_))] → W p l e { frames := 8, cells := 0, slots := 0, locals := 157 } s m [.ref (a 8), .int p1, .ref (a q1_)].toArray below meth c H locs 0 0 (MQ below ((kQi G (S := zS) (fun r u => zI XT u.1 ∧ u.1 0 = g0 0 ∧ (0 ≤ r.toInt ∧ r.toInt ≤ 180)) (fun u => zw G (XS b) 105 a u.1 u.2)) A) [.ref (a 8), .int p1, .ref (a q1_)].toArray s 0 0 A) (F0 m 29 ls [.int x70]) := by
      intro x70 g L H locs ls b71 hI h0c hP hD hS hl
      refine lv_istore_n (lv' := [(3, .int x70), (0, .ref (a 8)), (1, .int p1), (2, .ref (a q1_))]) hx hb dX1_overrun_29 rfl hl (by decide) rfl (fun ls hl => ?_)
      refine lv_aload_n hx hb dX1_overrun_30 rfl (lv_at hl 1 rfl) ?_
      refine x_getr (Or.inl fl_X1_41) C hP (by decide) xs_8 rfl dX1_overrun_31 ?_
      refine x_getr (Or.inr fl_X1_137) C hP (by decide) xs_6 rfl dX1_overrun_34 ?_
      refine lv_iload_n hx hb dX1_overrun_37 rfl (lv_at hl 2 rfl) ?_
      refine x_ald C hP (by decide) xs_25 (by omega) (by omega) dX1_overrun_38 (fun x72 e73 => ?_)
      refine lv_istore (lv' := [(4, .int x72), (3, .int x70), (0, .ref (a 8)), (1, .int p1), (2, .ref (a q1_))]) hx hb dX1_overrun_39 hl (by decide) rfl (fun ls hl => ?_)
      refine lv_aload_n hx hb dX1_overrun_41 rfl (lv_at hl 2 rfl) ?_
      refine x_getr (Or.inl fl_X1_41) C hP (by decide) xs_8 rfl dX1_overrun_42 ?_
      refine x_geti (Or.inr fl_X1_140) C hP (by decide) xs_6 rfl dX1_overrun_45 (fun x74 e75 => ?_)
      refine lv_iconst (v := -1) hx hb dX1_overrun_48 (by decide) ?_
      have J102 : ∀ (x103 : Int32) (g : Nat → Nat → Int32) (L : Nat → Nat → Int64) (H : Heap) (locs : List Loc) (ls : Array Slot), zI XT g → g 0 = g0 0 → va_P G.1 vwCl (zw G (XS b) 105 a g L) H → va_D A (zw G (XS b) 105 a g L) → va_S A s.heap H locs → lv_has ls 5 [(3, .int x70), (4, .int x103)] → W p l e { frames := 8, cells := 0, slots := 0, locals := 157 } s m [.ref (a 8), .int p1, .ref (a q1_)].toArray below meth c H locs 0 0 (MQ below ((kQi G (S := zS) (fun r u => zI XT u.1 ∧ u.1 0 = g0 0 ∧ (0 ≤ r.toInt ∧ r.toInt ≤ 180)) (fun u => zw G (XS b) 105 a u.1 u.2)) A) [.ref (a 8), .int p1, .ref (a q1_)].toArray s 0 0 A) (F0 m 151 ls []) := by
        intro x103 g L H locs ls hI h0c hP hD hS hl
        refine lv_iconst (v := 0) hx hb dX1_overrun_151 (by decide) ?_
        refine lv_iload_n hx hb dX1_overrun_152 rfl (lv_at hl 0 rfl) ?_
        refine lv_iload hx hb dX1_overrun_153 (lv_at hl 1 rfl) ?_
        refine k_min lm_X1_153 C hl.1 (Nat.le_of_ble_eq_true rfl) (Nat.le_of_ble_eq_true rfl) (Nat.le_of_ble_eq_true rfl) (Nat.le_of_ble_eq_true rfl) dX1_overrun_155 ?_
        refine x_min (mm := x70.toInt) (nn := x103.toInt) rfl rfl (fun x104 e105 => ?_)
        refine k_max lm_X1_78 C hl.1 (Nat.le_of_ble_eq_true rfl) (Nat.le_of_ble_eq_true rfl) (Nat.le_of_ble_eq_true rfl) (Nat.le_of_ble_eq_true rfl) dX1_overrun_158 ?_
        refine x_max (mm := 0) (nn := x104.toInt) (by decide) rfl (fun x106 e107 => ?_)
        exact x_iret C hr hlk hP hD hS (g, L) rfl ⟨hI, h0c, by omega⟩ (Nat.le_of_ble_eq_true rfl) (Nat.le_of_ble_eq_true rfl) dX1_overrun_161
      refine lv_icmp_eq (x := x74) (y := (-1)) (tgt := 151) hx hb dX1_overrun_49 (by decide) (fun c108 => ?_) (fun c108 => ?_)
      ·
        have c108 := icc_eq (m := x74.toInt) (n := (-1)) rfl (by decide) c108
        exact J102 x72 g L H locs ls hI h0c hP hD hS (lv_sub hl [1, 0] rfl)
      ·
        have c108 := icc_neq (m := x74.toInt) (n := (-1)) rfl (by decide) c108
        refine lv_aload_n hx hb dX1_overrun_52 rfl (lv_at hl 2 rfl) ?_
        refine x_getr (Or.inl fl_X1_27) C hP (by decide) xs_8 rfl dX1_overrun_53 ?_
        refine lv_iconst (v := 0) hx hb dX1_overrun_56 (by decide) ?_
        refine lv_aload_n hx hb dX1_overrun_57 rfl (lv_at hl 2 rfl) ?_
        refine x_getr (Or.inl fl_X1_41) C hP (by decide) xs_8 rfl dX1_overrun_58 ?_
        refine x_getr (Or.inr fl_X1_137) C hP (by decide) xs_6 rfl dX1_overrun_61 ?_
        refine lv_iload_n hx hb dX1_overrun_64 rfl (lv_at hl 3 rfl) ?_
        refine x_ald C hP (by decide) xs_25 (by omega) (by omega) dX1_overrun_65 (fun x109 e110 => ?_)
        refine x_ast (hI.updN rfl) C hP hD hS (by decide) xs_48 (by decide) (by decide) dX1_overrun_66 (fun g H locs eg hI hP hD hS => ?_)
        have h0c : g 0 = g0 0 := by rw [eg]; exact h0c
        refine lv_aload_n hx hb dX1_overrun_67 rfl (lv_at hl 2 rfl) ?_
        refine x_getr (Or.inl fl_X1_27) C hP (by decide) xs_8 rfl dX1_overrun_68 ?_
        refine lv_iconst (v := 1) hx hb dX1_overrun_71 (by decide) ?_
        refine lv_aload_n hx hb dX1_overrun_72 rfl (lv_at hl 2 rfl) ?_
        refine x_getr (Or.inl fl_X1_9) C hP (by decide) xs_8 rfl dX1_overrun_73 ?_
        refine lv_iload_n hx hb dX1_overrun_76 rfl (lv_at hl 3 rfl) ?_
        refine x_ald C hP (by decide) xs_43 (by omega) (by omega) dX1_overrun_77 (fun x111 e112 => ?_)
        refine lv_aload_n hx hb dX1_overrun_78 rfl (lv_at hl 4 rfl) ?_
        refine x_geti (Or.inr fl_X1_84) C hP (by omega) (xs_les (by omega) (by omega)) rfl dX1_overrun_79 (fun x113 e114 => ?_)
        refine lv_isub hx hb dX1_overrun_82 ?_
        refine x_any (fun x115 => ?_)
        refine x_ast (hI.updN rfl) C hP hD hS (by decide) xs_48 (by decide) (by decide) dX1_overrun_83 (fun g H locs eg hI hP hD hS => ?_)
        have h0c : g 0 = g0 0 := by rw [eg]; exact h0c
        refine lv_aload_n hx hb dX1_overrun_84 rfl (lv_at hl 2 rfl) ?_
        refine x_getr (Or.inl fl_X1_27) C hP (by decide) xs_8 rfl dX1_overrun_85 ?_
        refine lv_iconst (v := 2) hx hb dX1_overrun_88 (by decide) ?_
        refine lv_aload_n hx hb dX1_overrun_89 rfl (lv_at hl 2 rfl) ?_
        refine x_getr (Or.inl fl_X1_9) C hP (by decide) xs_8 rfl dX1_overrun_90 ?_
        refine lv_iload_n hx hb dX1_overrun_93 rfl (lv_at hl 3 rfl) ?_
        refine x_ald C hP (by decide) xs_43 (by omega) (by omega) dX1_overrun_94 (fun x116 e117 => ?_)
        refine x_ast (hI.updN rfl) C hP hD hS (by decide) xs_48 (by decide) (by decide) dX1_overrun_95 (fun g H locs eg hI hP hD hS => ?_)
        have h0c : g 0 = g0 0 := by rw [eg]; exact h0c
        refine lv_aload_n hx hb dX1_overrun_96 rfl (lv_at hl 2 rfl) ?_
        refine x_getr (Or.inl fl_X1_27) C hP (by decide) xs_8 rfl dX1_overrun_97 ?_
        refine lv_iconst (v := 3) hx hb dX1_overrun_100 (by decide) ?_
        refine lv_aload_n hx hb dX1_overrun_101 rfl (lv_at hl 2 rfl) ?_
        refine x_getr (Or.inl fl_X1_41) C hP (by decide) xs_8 rfl dX1_overrun_102 ?_
        refine x_getr (Or.inr fl_X1_120) C hP (by decide) xs_6 rfl dX1_overrun_105 ?_
        refine lv_iload_n hx hb dX1_overrun_108 rfl (lv_at hl 3 rfl) ?_
        refine x_ald C hP (by decide) xs_27 (by omega) (by omega) dX1_overrun_109 (fun x118 e119 => ?_)
        refine x_ast (hI.updN rfl) C hP hD hS (by decide) xs_48 (by decide) (by decide) dX1_overrun_110 (fun g H locs eg hI hP hD hS => ?_)
        have h0c : g 0 = g0 0 := by rw [eg]; exact h0c
        refine lv_aload_n hx hb dX1_overrun_111 rfl (lv_at hl 2 rfl) ?_
        refine x_getr (Or.inl fl_X1_27) C hP (by decide) xs_8 rfl dX1_overrun_112 ?_
        refine lv_iconst (v := 4) hx hb dX1_overrun_115 (by decide) ?_
        refine lv_aload_n hx hb dX1_overrun_116 rfl (lv_at hl 4 rfl) ?_
        refine x_geti (Or.inr fl_X1_134) C hP (by omega) (xs_les (by omega) (by omega)) rfl dX1_overrun_117 (fun x120 e121 => ?_)
        refine x_ast (hI.updN rfl) C hP hD hS (by decide) xs_48 (by decide) (by decide) dX1_overrun_120 (fun g H locs eg hI hP hD hS => ?_)
        have h0c : g 0 = g0 0 := by rw [eg]; exact h0c
        refine lv_aload_n hx hb dX1_overrun_121 rfl (lv_at hl 2 rfl) ?_
        refine x_getr (Or.inl fl_X1_27) C hP (by decide) xs_8 rfl dX1_overrun_122 ?_
        refine lv_iconst (v := 5) hx hb dX1_overrun_125 (by decide) ?_
        refine lv_iload_n hx hb dX1_overrun_126 rfl (lv_at hl 3 rfl) ?_
        refine x_ast (hI.updN rfl) C hP hD hS (by decide) xs_48 (by decide) (by decide) dX1_overrun_127 (fun g H locs eg hI hP hD hS => ?_)
        have h0c : g 0 = g0 0 := by rw [eg]; exact h0c
        refine lv_aload_n hx hb dX1_overrun_128 rfl (lv_at hl 2 rfl) ?_
        refine x_getr (Or.inl fl_X1_37) C hP (by decide) xs_8 rfl dX1_overrun_129 ?_
        refine x_getr (Or.inr fl_X1_143) C hP (by decide) xs_1 rfl dX1_overrun_132 ?_
        refine lv_aload_n hx hb dX1_overrun_135 rfl (lv_at hl 2 rfl) ?_
        refine x_getr (Or.inl fl_X1_41) C hP (by decide) xs_8 rfl dX1_overrun_136 ?_
        refine x_geti (Or.inr fl_X1_140) C hP (by decide) xs_6 rfl dX1_overrun_139 (fun x122 e123 => ?_)
        refine lv_aload_n hx hb dX1_overrun_142 rfl (lv_at hl 2 rfl) ?_
        refine x_getr (Or.inl fl_X1_27) C hP (by decide) xs_8 rfl dX1_overrun_143 ?_
        refine x_callNi (rest := []) li_X1_147 C (zX8_value_3_48 l G H.size b a g L hI x122) (kR rfl) hP hD hS 3 8 rfl (zat (by decide) xs_3) rfl hl.1 rfl (Nat.le_of_ble_eq_true rfl) dX1_overrun_146 (fun x125 u126 H locs hw124 hP hD hS => ?_)
        obtain ⟨g, L⟩ := u126
        obtain ⟨hI, h0n⟩ := hw124
        have h0c : g 0 = g0 0 := h0n.trans h0c
        have hI : zI XT g := hI
        have hP : va_P G.1 vwCl (zw G (XS b) 105 a g L) H := hP
        have hD : va_D A (zw G (XS b) 105 a g L) := hD
        refine lv_istore (lv' := [(4, .int x125), (3, .int x70), (0, .ref (a 8)), (1, .int p1), (2, .ref (a q1_))]) hx hb dX1_overrun_149 hl (by decide) rfl (fun ls hl => ?_)
        exact J102 x125 g L H locs ls hI h0c hP hD hS (lv_sub hl [1, 0] rfl)
    refine lv_icmp_ne (x := p1) (y := x7) (tgt := 27) hx hb dX1_overrun_18 (by decide) (fun c129 => ?_) (fun c129 => ?_)
    ·
      have c129 := icc_neq (m := p1.toInt) (n := x7.toInt) rfl rfl c129
      refine lv_bipush (v := 60) hx hb dX1_overrun_27 (by decide) ?_
      exact J69 60 g0 L0 H locs ls (by decide) hI h0c hP hD hS (lv_sub hl [0, 1, 2] rfl)
    ·
      have c129 := icc_eq (m := p1.toInt) (n := x7.toInt) rfl rfl c129
      refine lv_sipush (v := 180) hx hb dX1_overrun_21 (by decide) ?_
      refine lv_goto (tgt := 29) hx hb dX1_overrun_24 (by decide) ?_
      exact J69 180 g0 L0 H locs ls (by decide) hI h0c hP hD hS (lv_sub hl [0, 1, 2] rfl)
  ·
    have c6 := icc_eq (m := x4.toInt) (n := 0) rfl (by decide) c6
    refine lv_iconst (v := 0) hx hb dX1_overrun_11 (by decide) ?_
    exact x_iret C hr hlk hP hD hS (g0, L0) rfl ⟨hI, h0c, by decide⟩ (Nat.le_of_ble_eq_true rfl) (Nat.le_of_ble_eq_true rfl) dX1_overrun_12
set_option maxHeartbeats 4000000 in
set_option maxRecDepth 100000 in
theorem zX1_runOne_8 (l : Launch) (G : kG) (sz : Nat) (b : Nat) (a : Nat → Nat) (g0 : Nat → Nat → Int32) (L0 : Nat → Nat → Int64) (hI : zI XT g0) (p1 : Int32) (hp1 : 0 ≤ p1.toInt ∧ p1.toInt ≤ 11) : kM l yX1_runOne cX1_runOne 3 none { frames := 9, cells := 0, slots := 0, locals := 181 } G [.ref (a 8), .int p1] (zw G (XS b) 105 a g0 L0) sz (kQv G (S := zS) (fun u => zI XT u.1 ∧ u.1 0 = g0 0) (fun u => zw G (XS b) 105 a u.1 u.2)) := by
  refine kM.of (by decide) (Nat.le_of_ble_eq_true rfl) ?_
  intro p e s m below meth c A ls H C hr hlk hnm hP hD hS hl
  have C : kC G p s m c cX1_runOne 3 RX1 A := C
  have hx := C.1
  have hb := C.2.1
  have hl : lv_has ls 3 [(0, .ref (a 8)), (1, .int p1)] := hl
  have h0c : g0 0 = g0 0 := rfl
  obtain ⟨locs, hlocs⟩ : ∃ q : List Loc, q = [] := ⟨_, rfl⟩
  rw [← hlocs] at hS
  rw [← hlocs]
  refine lv_aload_n hx hb dX1_runOne_0 rfl (lv_at hl 0 rfl) ?_
  refine x_getr (Or.inl fl_X1_37) C hP (by decide) xs_8 rfl dX1_runOne_1 ?_
  refine x_getr (Or.inr fl_X1_58) C hP (by decide) xs_1 rfl dX1_runOne_4 ?_
  refine lv_iload_n hx hb dX1_runOne_7 rfl (lv_at hl 1 rfl) ?_
  refine x_aaldQ (t := 57) C hP (by decide) xs_17 (by omega) (by omega) dX1_runOne_8 (fun q1 q1l q1h => ?_)
  refine lv_astore_n (lv' := [(2, .ref (a q1)), (0, .ref (a 8)), (1, .int p1)]) hx hb dX1_runOne_9 rfl hl (by decide) rfl (fun ls hl => ?_)
  refine lv_aload_n hx hb dX1_runOne_10 rfl (lv_at hl 1 rfl) ?_
  refine lv_iload_n hx hb dX1_runOne_11 rfl (lv_at hl 2 rfl) ?_
  refine lv_aload_n hx hb dX1_runOne_12 rfl (lv_at hl 0 rfl) ?_
  refine x_callVv (rest := []) li_X1_62 C (zX1_begin_8_les l G H.size b a g0 L0 hI p1 q1 (by omega) (by omega) (by omega)) (kR rfl) hP hD hS 8 1 rfl (zat (by decide) xs_8) rfl hl.1 rfl (Nat.le_of_ble_eq_true rfl) dX1_runOne_13 (fun u4 H locs hw2 hP hD hS => ?_)
  obtain ⟨g, L⟩ := u4
  obtain ⟨hI, h0n⟩ := hw2
  have h0c : g 0 = g0 0 := h0n.trans h0c
  have hI : zI XT g := hI
  have hP : va_P G.1 vwCl (zw G (XS b) 105 a g L) H := hP
  have hD : va_D A (zw G (XS b) 105 a g L) := hD
  refine lv_aload_n hx hb dX1_runOne_16 rfl (lv_at hl 1 rfl) ?_
  refine x_getr (Or.inl fl_X1_18) C hP (by decide) xs_8 rfl dX1_runOne_17 ?_
  refine lv_iload_n hx hb dX1_runOne_20 rfl (lv_at hl 2 rfl) ?_
  refine lv_aload_n hx hb dX1_runOne_21 rfl (lv_at hl 1 rfl) ?_
  refine lv_iload_n hx hb dX1_runOne_22 rfl (lv_at hl 2 rfl) ?_
  refine lv_aload_n hx hb dX1_runOne_23 rfl (lv_at hl 0 rfl) ?_
  refine x_callVi (rest := [.int p1, .ref (a 45)]) li_X1_66 C (zX1_overrun_8_les l G H.size b a g L hI p1 q1 (by omega) (by omega) (by omega)) (kR rfl) hP hD hS 8 1 rfl (zat (by decide) xs_8) rfl hl.1 rfl (Nat.le_of_ble_eq_true rfl) dX1_runOne_24 (fun x8 u9 H locs hw7 hP hD hS => ?_)
  obtain ⟨g, L⟩ := u9
  obtain ⟨hI, h0n, b10⟩ := hw7
  have h0c : g 0 = g0 0 := h0n.trans h0c
  have hI : zI XT g := hI
  have hP : va_P G.1 vwCl (zw G (XS b) 105 a g L) H := hP
  have hD : va_D A (zw G (XS b) 105 a g L) := hD
  refine x_ast (hI.updN rfl) C hP hD hS (by decide) xs_45 (by omega) (by omega) dX1_runOne_27 (fun g H locs eg hI hP hD hS => ?_)
  have h0c : g 0 = g0 0 := by rw [eg]; exact h0c
  refine lv_aload_n hx hb dX1_runOne_28 rfl (lv_at hl 1 rfl) ?_
  refine x_getr (Or.inl fl_X1_15) C hP (by decide) xs_8 rfl dX1_runOne_29 ?_
  refine lv_iload_n hx hb dX1_runOne_32 rfl (lv_at hl 2 rfl) ?_
  refine lv_aload_n hx hb dX1_runOne_33 rfl (lv_at hl 0 rfl) ?_
  refine x_geti (Or.inr fl_X1_70) C hP (by omega) (xs_les (by omega) (by omega)) rfl dX1_runOne_34 (fun x12 e13 => ?_)
  refine lv_aload_n hx hb dX1_runOne_37 rfl (lv_at hl 1 rfl) ?_
  refine x_getr (Or.inl fl_X1_9) C hP (by decide) xs_8 rfl dX1_runOne_38 ?_
  refine lv_iload_n hx hb dX1_runOne_41 rfl (lv_at hl 2 rfl) ?_
  refine x_ald C hP (by decide) xs_43 (by omega) (by omega) dX1_runOne_42 (fun x14 e15 => ?_)
  refine lv_aload_n hx hb dX1_runOne_43 rfl (lv_at hl 0 rfl) ?_
  refine x_geti (Or.inr fl_X1_75) C hP (by omega) (xs_les (by omega) (by omega)) rfl dX1_runOne_44 (fun x16 e17 => ?_)
  refine lv_iadd hx hb dX1_runOne_47 ?_
  refine x_any (fun x18 => ?_)
  refine k_max lm_X1_78 C hl.1 (Nat.le_of_ble_eq_true rfl) (Nat.le_of_ble_eq_true rfl) (Nat.le_of_ble_eq_true rfl) (Nat.le_of_ble_eq_true rfl) dX1_runOne_48 ?_
  refine x_max (mm := x12.toInt) (nn := x18.toInt) rfl rfl (fun x19 e20 => ?_)
  refine lv_aload_n hx hb dX1_runOne_51 rfl (lv_at hl 1 rfl) ?_
  refine x_getr (Or.inl fl_X1_18) C hP (by decide) xs_8 rfl dX1_runOne_52 ?_
  refine lv_iload_n hx hb dX1_runOne_55 rfl (lv_at hl 2 rfl) ?_
  refine x_ald C hP (by decide) xs_45 (by omega) (by omega) dX1_runOne_56 (fun x21 e22 => ?_)
  refine lv_iadd hx hb dX1_runOne_57 ?_
  refine x_any (fun x23 => ?_)
  refine x_ast (hI.updN rfl) C hP hD hS (by decide) xs_44 (by omega) (by omega) dX1_runOne_58 (fun g H locs eg hI hP hD hS => ?_)
  have h0c : g 0 = g0 0 := by rw [eg]; exact h0c
  exact x_vret C hr hlk hP hD hS (g, L) rfl ⟨hI, h0c⟩ (Nat.le_of_ble_eq_true rfl) (Nat.le_of_ble_eq_true rfl) dX1_runOne_59
set_option maxHeartbeats 4000000 in
set_option maxRecDepth 100000 in
theorem zX1_runFrom_8 (l : Launch) (G : kG) (sz : Nat) (b : Nat) (a : Nat → Nat) (g0 : Nat → Nat → Int32) (L0 : Nat → Nat → Int64) (hI : zI XT g0) (p1 : Int32) (hp1 : 0 ≤ p1.toInt ∧ p1.toInt ≤ 12) : kM l yX1_runFrom cX1_runFrom 3 none { frames := 10, cells := 0, slots := 0, locals := 203 } G [.ref (a 8), .int p1] (zw G (XS b) 105 a g0 L0) sz (kQv G (S := zS) (fun u => zI XT u.1 ∧ u.1 0 = g0 0) (fun u => zw G (XS b) 105 a u.1 u.2)) := by
  refine kM.of (by decide) (Nat.le_of_ble_eq_true rfl) ?_
  intro p e s m below meth c A ls H C hr hlk hnm hP hD hS hl
  have C : kC G p s m c cX1_runFrom 3 RX1 A := C
  have hx := C.1
  have hb := C.2.1
  have hl : lv_has ls 3 [(0, .ref (a 8)), (1, .int p1)] := hl
  have h0c : g0 0 = g0 0 := rfl
  obtain ⟨locs, hlocs⟩ : ∃ q : List Loc, q = [] := ⟨_, rfl⟩
  rw [← hlocs] at hS
  rw [← hlocs]
  refine lv_iload_n hx hb dX1_runFrom_0 rfl (lv_at hl 1 rfl) ?_
  refine lv_istore_n (lv' := [(2, .int p1), (0, .ref (a 8)), (1, .int p1)]) hx hb dX1_runFrom_1 rfl hl (by decide) rfl (fun ls hl => ?_)
  have lp40 : ∀ fu : Nat, ∀ (x38 : Int32) (g : Nat → Nat → Int32) (L : Nat → Nat → Int64) (H : Heap) (locs : List Loc) (ls : Array Slot), (0 ≤ x38.toInt ∧ x38.toInt ≤ 12) → zI XT g → g 0 = g0 0 → va_P G.1 vwCl (zw G (XS b) 105 a g L) H → va_D A (zw G (XS b) 105 a g L) → va_S A s.heap H locs → lv_has ls 3 [(0, .ref (a 8)), (2, .int x38)] → 12 - x38.toInt < (fu : Int) → W p l e { frames := 10, cells := 0, slots := 0, locals := 203 } s m [.ref (a 8), .int p1].toArray below meth c H locs 0 0 (MQ below ((kQv G (S := zS) (fun u => zI XT u.1 ∧ u.1 0 = g0 0) (fun u => zw G (XS b) 105 a u.1 u.2)) A) [.ref (a 8), .int p1].toArray s 0 0 A) (F0 m 2 ls []) := by
    intro fu
    induction fu with
    | zero => intro x38 g L H locs ls b39 hI h0c hP hD hS hl hm; exact absurd hm (by omega)
    | succ fu ih =>
      intro x38 g L H locs ls b39 hI h0c hP hD hS hl hm
      have ih41 := ih
      refine lv_iload_n hx hb dX1_runFrom_2 rfl (lv_at hl 1 rfl) ?_
      refine lv_aload_n hx hb dX1_runFrom_3 rfl (lv_at hl 0 rfl) ?_
      refine x_getr (Or.inl fl_X1_37) C hP (by decide) xs_8 rfl dX1_runFrom_4 ?_
      refine x_getT hI rfl (Or.inr fl_X1_45) C hP (by decide) xs_1 rfl dX1_runFrom_7 (fun x42 e43 b44 => ?_)
      refine lv_icmp_ge (x := x38) (y := x42) (tgt := 24) hx hb dX1_runFrom_10 (by decide) (fun c45 => ?_) (fun c45 => ?_)
      ·
        have c45 := icc_le (m := x42.toInt) (n := x38.toInt) rfl rfl c45
        exact x_vret C hr hlk hP hD hS (g, L) rfl ⟨hI, h0c⟩ (Nat.le_of_ble_eq_true rfl) (Nat.le_of_ble_eq_true rfl) dX1_runFrom_24
      ·
        have c45 := icc_nle (m := x42.toInt) (n := x38.toInt) rfl rfl c45
        refine lv_aload_n hx hb dX1_runFrom_13 rfl (lv_at hl 0 rfl) ?_
        refine lv_iload_n hx hb dX1_runFrom_14 rfl (lv_at hl 1 rfl) ?_
        refine x_callVv (rest := []) li_X1_50 C (zX1_runOne_8 l G H.size b a g L hI x38 (by omega)) (kR rfl) hP hD hS 8 1 rfl (zat (by decide) xs_8) rfl hl.1 rfl (Nat.le_of_ble_eq_true rfl) dX1_runFrom_15 (fun u48 H locs hw46 hP hD hS => ?_)
        obtain ⟨g, L⟩ := u48
        obtain ⟨hI, h0n⟩ := hw46
        have h0c : g 0 = g0 0 := h0n.trans h0c
        have hI : zI XT g := hI
        have hP : va_P G.1 vwCl (zw G (XS b) 105 a g L) H := hP
        have hD : va_D A (zw G (XS b) 105 a g L) := hD
        obtain ⟨x51, e52q, e52⟩ : ∃ z : Int32, x38 + Int32.ofInt (1) = z ∧ z.toInt = x38.toInt + (1) := ⟨_, rfl, ic_addc rfl (by decide) (by omega) (by omega)⟩
        refine lv_iinc (v := x51) (lv' := [(2, .int x51), (0, .ref (a 8))]) hx hb dX1_runFrom_18 hl (k := 1) rfl e52q (by decide) rfl (fun ls hl => ?_)
        refine lv_goto (tgt := 2) hx hb dX1_runFrom_21 (by decide) ?_
        exact ih41 x51 g L H locs ls (by omega) hI h0c hP hD hS (lv_sub hl [1, 0] rfl) (by omega)
  exact lp40 14 p1 g0 L0 H locs ls (by omega) hI h0c hP hD hS (lv_sub hl [1, 0] rfl) (by omega)
set_option maxHeartbeats 4000000 in
set_option maxRecDepth 100000 in
theorem zX1_lostFrom_8 (l : Launch) (G : kG) (sz : Nat) (b : Nat) (a : Nat → Nat) (g0 : Nat → Nat → Int32) (L0 : Nat → Nat → Int64) (hI : zI XT g0) (p1 : Int32) (hp1 : 0 ≤ p1.toInt ∧ p1.toInt ≤ 12) : kM l yX1_lostFrom cX1_lostFrom 3 (some .int) { frames := 10, cells := 0, slots := 0, locals := 203 } G [.ref (a 8), .int p1] (zw G (XS b) 105 a g0 L0) sz (kQi G (S := zS) (fun r u => zI XT u.1 ∧ u.1 0 = g0 0) (fun u => zw G (XS b) 105 a u.1 u.2)) := by
  refine kM.of (by decide) (Nat.le_of_ble_eq_true rfl) ?_
  intro p e s m below meth c A ls H C hr hlk hnm hP hD hS hl
  have C : kC G p s m c cX1_lostFrom 3 RX1 A := C
  have hx := C.1
  have hb := C.2.1
  have hl : lv_has ls 3 [(0, .ref (a 8)), (1, .int p1)] := hl
  have h0c : g0 0 = g0 0 := rfl
  obtain ⟨locs, hlocs⟩ : ∃ q : List Loc, q = [] := ⟨_, rfl⟩
  rw [← hlocs] at hS
  rw [← hlocs]
  refine lv_iload_n hx hb dX1_lostFrom_0 rfl (lv_at hl 1 rfl) ?_
  refine lv_istore_n (lv' := [(2, .int p1), (0, .ref (a 8)), (1, .int p1)]) hx hb dX1_lostFrom_1 rfl hl (by decide) rfl (fun ls hl => ?_)
  have lp55 : ∀ fu : Nat, ∀ (x53 : Int32) (g : Nat → Nat → Int32) (L : Nat → Nat → Int64) (H : Heap) (locs : List Loc) (ls : Array Slot), (0 ≤ x53.toInt ∧ x53.toInt ≤ 12) → zI XT g → g 0 = g0 0 → va_P G.1 vwCl (zw G (XS b) 105 a g L) H → va_D A (zw G (XS b) 105 a g L) → va_S A s.heap H locs → lv_has ls 3 [(0, .ref (a 8)), (2, .int x53)] → 12 - x53.toInt < (fu : Int) → W p l e { frames := 10, cells := 0, slots := 0, locals := 203 } s m [.ref (a 8), .int p1].toArray below meth c H locs 0 0 (MQ below ((kQi G (S := zS) (fun r u => zI XT u.1 ∧ u.1 0 = g0 0) (fun u => zw G (XS b) 105 a u.1 u.2)) A) [.ref (a 8), .int p1].toArray s 0 0 A) (F0 m 2 ls []) := by
    intro fu
    induction fu with
    | zero => intro x53 g L H locs ls b54 hI h0c hP hD hS hl hm; exact absurd hm (by omega)
    | succ fu ih =>
      intro x53 g L H locs ls b54 hI h0c hP hD hS hl hm
      have ih56 := ih
      refine lv_iload_n hx hb dX1_lostFrom_2 rfl (lv_at hl 1 rfl) ?_
      refine lv_aload_n hx hb dX1_lostFrom_3 rfl (lv_at hl 0 rfl) ?_
      refine x_getr (Or.inl fl_X1_37) C hP (by decide) xs_8 rfl dX1_lostFrom_4 ?_
      refine x_getT hI rfl (Or.inr fl_X1_45) C hP (by decide) xs_1 rfl dX1_lostFrom_7 (fun x57 e58 b59 => ?_)
      refine lv_icmp_ge (x := x53) (y := x57) (tgt := 24) hx hb dX1_lostFrom_10 (by decide) (fun c60 => ?_) (fun c60 => ?_)
      ·
        have c60 := icc_le (m := x57.toInt) (n := x53.toInt) rfl rfl c60
        refine lv_aload_n hx hb dX1_lostFrom_24 rfl (lv_at hl 0 rfl) ?_
        refine x_callVi (rest := []) li_X1_54 C (zX1_lost_8 l G H.size b a g L hI) (kR rfl) hP hD hS 8 1 rfl (zat (by decide) xs_8) rfl hl.1 rfl (Nat.le_of_ble_eq_true rfl) dX1_lostFrom_25 (fun x62 u63 H locs hw61 hP hD hS => ?_)
        obtain ⟨g, L⟩ := u63
        obtain ⟨hI, h0n⟩ := hw61
        have h0c : g 0 = g0 0 := h0n.trans h0c
        have hI : zI XT g := hI
        have hP : va_P G.1 vwCl (zw G (XS b) 105 a g L) H := hP
        have hD : va_D A (zw G (XS b) 105 a g L) := hD
        exact x_iret C hr hlk hP hD hS (g, L) rfl ⟨hI, h0c⟩ (Nat.le_of_ble_eq_true rfl) (Nat.le_of_ble_eq_true rfl) dX1_lostFrom_28
      ·
        have c60 := icc_nle (m := x57.toInt) (n := x53.toInt) rfl rfl c60
        refine lv_aload_n hx hb dX1_lostFrom_13 rfl (lv_at hl 0 rfl) ?_
        refine lv_iload_n hx hb dX1_lostFrom_14 rfl (lv_at hl 1 rfl) ?_
        refine x_callVv (rest := []) li_X1_50 C (zX1_runOne_8 l G H.size b a g L hI x53 (by omega)) (kR rfl) hP hD hS 8 1 rfl (zat (by decide) xs_8) rfl hl.1 rfl (Nat.le_of_ble_eq_true rfl) dX1_lostFrom_15 (fun u68 H locs hw66 hP hD hS => ?_)
        obtain ⟨g, L⟩ := u68
        obtain ⟨hI, h0n⟩ := hw66
        have h0c : g 0 = g0 0 := h0n.trans h0c
        have hI : zI XT g := hI
        have hP : va_P G.1 vwCl (zw G (XS b) 105 a g L) H := hP
        have hD : va_D A (zw G (XS b) 105 a g L) := hD
        obtain ⟨x71, e72q, e72⟩ : ∃ z : Int32, x53 + Int32.ofInt (1) = z ∧ z.toInt = x53.toInt + (1) := ⟨_, rfl, ic_addc rfl (by decide) (by omega) (by omega)⟩
        refine lv_iinc (v := x71) (lv' := [(2, .int x71), (0, .ref (a 8))]) hx hb dX1_lostFrom_18 hl (k := 1) rfl e72q (by decide) rfl (fun ls hl => ?_)
        refine lv_goto (tgt := 2) hx hb dX1_lostFrom_21 (by decide) ?_
        exact ih56 x71 g L H locs ls (by omega) hI h0c hP hD hS (lv_sub hl [1, 0] rfl) (by omega)
  exact lp55 14 p1 g0 L0 H locs ls (by omega) hI h0c hP hD hS (lv_sub hl [1, 0] rfl) (by omega)
set_option maxHeartbeats 4000000 in
set_option maxRecDepth 100000 in
theorem zX1_lateOnes_8 (l : Launch) (G : kG) (sz : Nat) (b : Nat) (a : Nat → Nat) (g0 : Nat → Nat → Int32) (L0 : Nat → Nat → Int64) (hI : zI XT g0) : kM l yX1_lateOnes cX1_lateOnes 3 (some .int) { frames := 7, cells := 0, slots := 0, locals := 131 } G [.ref (a 8)] (zw G (XS b) 105 a g0 L0) sz (kQi G (S := zS) (fun r u => zI XT u.1 ∧ u.1 0 = g0 0) (fun u => zw G (XS b) 105 a u.1 u.2)) := by
  refine kM.of (by decide) (Nat.le_of_ble_eq_true rfl) ?_
  intro p e s m below meth c A ls H C hr hlk hnm hP hD hS hl
  have C : kC G p s m c cX1_lateOnes 3 RX1 A := C
  have hx := C.1
  have hb := C.2.1
  have hl : lv_has ls 3 [(0, .ref (a 8))] := hl
  have h0c : g0 0 = g0 0 := rfl
  obtain ⟨locs, hlocs⟩ : ∃ q : List Loc, q = [] := ⟨_, rfl⟩
  rw [← hlocs] at hS
  rw [← hlocs]
  refine lv_iconst (v := 0) hx hb dX1_lateOnes_0 (by decide) ?_
  refine lv_istore_n (lv' := [(1, .int 0), (0, .ref (a 8))]) hx hb dX1_lateOnes_1 rfl hl (by decide) rfl (fun ls hl => ?_)
  refine lv_iconst (v := 0) hx hb dX1_lateOnes_2 (by decide) ?_
  refine lv_istore_n (lv' := [(2, .int 0), (1, .int 0), (0, .ref (a 8))]) hx hb dX1_lateOnes_3 rfl hl (by decide) rfl (fun ls hl => ?_)
  have lp464 : ∀ fu : Nat, ∀ (x461 : Int32) (x462 : Int32) (g : Nat → Nat → Int32) (L : Nat → Nat → Int64) (H : Heap) (locs : List Loc) (ls : Array Slot), (0 ≤ x462.toInt ∧ x462.toInt ≤ 12) → zI XT g → g 0 = g0 0 → va_P G.1 vwCl (zw G (XS b) 105 a g L) H → va_D A (zw G (XS b) 105 a g L) → va_S A s.heap H locs → lv_has ls 3 [(0, .ref (a 8)), (1, .int x461), (2, .int x462)] → 12 - x462.toInt < (fu : Int) → W p l e { frames := 7, cells := 0, slots := 0, locals := 131 } s m [.ref (a 8)].toArray below meth c H locs 0 0 (MQ below ((kQi G (S := zS) (fun r u => zI XT u.1 ∧ u.1 0 = g0 0) (fun u => zw G (XS b) 105 a u.1 u.2)) A) [.ref (a 8)].toArray s 0 0 A) (F0 m 4 ls []) := by
    intro fu
    induction fu with
    | zero => intro x461 x462 g L H locs ls b463 hI h0c hP hD hS hl hm; exact absurd hm (by omega)
    | succ fu ih =>
      intro x461 x462 g L H locs ls b463 hI h0c hP hD hS hl hm
      have ih465 := ih
      refine lv_iload_n hx hb dX1_lateOnes_4 rfl (lv_at hl 2 rfl) ?_
      refine lv_aload_n hx hb dX1_lateOnes_5 rfl (lv_at hl 0 rfl) ?_
      refine x_getr (Or.inl fl_X1_37) C hP (by decide) xs_8 rfl dX1_lateOnes_6 ?_
      refine x_getT hI rfl (Or.inr fl_X1_45) C hP (by decide) xs_1 rfl dX1_lateOnes_9 (fun x466 e467 b468 => ?_)
      refine lv_icmp_ge (x := x462) (y := x466) (tgt := 37) hx hb dX1_lateOnes_12 (by decide) (fun c469 => ?_) (fun c469 => ?_)
      ·
        have c469 := icc_le (m := x466.toInt) (n := x462.toInt) rfl rfl c469
        refine lv_iload_n hx hb dX1_lateOnes_37 rfl (lv_at hl 1 rfl) ?_
        exact x_iret C hr hlk hP hD hS (g, L) rfl ⟨hI, h0c⟩ (Nat.le_of_ble_eq_true rfl) (Nat.le_of_ble_eq_true rfl) dX1_lateOnes_38
      ·
        have c469 := icc_nle (m := x466.toInt) (n := x462.toInt) rfl rfl c469
        refine lv_iload_n hx hb dX1_lateOnes_15 rfl (lv_at hl 1 rfl) ?_
        refine lv_aload_n hx hb dX1_lateOnes_16 rfl (lv_at hl 0 rfl) ?_
        refine lv_iload_n hx hb dX1_lateOnes_17 rfl (lv_at hl 2 rfl) ?_
        refine x_callVi (rest := [.int x461]) li_X1_156 C (zX1_late_8 l G H.size b a g L hI x462 (by omega)) (kR rfl) hP hD hS 8 1 rfl (zat (by decide) xs_8) rfl hl.1 rfl (Nat.le_of_ble_eq_true rfl) dX1_lateOnes_18 (fun x471 u472 H locs hw470 hP hD hS => ?_)
        obtain ⟨g, L⟩ := u472
        obtain ⟨hI, h0n⟩ := hw470
        have h0c : g 0 = g0 0 := h0n.trans h0c
        have hI : zI XT g := hI
        have hP : va_P G.1 vwCl (zw G (XS b) 105 a g L) H := hP
        have hD : va_D A (zw G (XS b) 105 a g L) := hD
        have J481 : ∀ (x482 : Int32) (g : Nat → Nat → Int32) (L : Nat → Nat → Int64) (H : Heap) (locs : List Loc) (ls : Array Slot), (0 ≤ x482.toInt ∧ x482.toInt ≤ 1) → zI XT g → g 0 = g0 0 → va_P G.1 vwCl (zw G (XS b) 105 a g L) H → va_D A (zw G (XS b) 105 a g L) → va_S A s.heap H locs → lv_has ls 3 [(0, .ref (a 8)), (2, .int x462)] → W p l e { frames := 7, cells := 0, slots := 0, locals := 131 } s m [.ref (a 8)].toArray below meth c H locs 0 0 (MQ below ((kQi G (S := zS) (fun r u => zI XT u.1 ∧ u.1 0 = g0 0) (fun u => zw G (XS b) 105 a u.1 u.2)) A) [.ref (a 8)].toArray s 0 0 A) (F0 m 29 ls [.int x482, .int x461]) := by
          intro x482 g L H locs ls b483 hI h0c hP hD hS hl
          refine lv_iadd hx hb dX1_lateOnes_29 ?_
          refine x_any (fun x484 => ?_)
          refine lv_istore_n (lv' := [(1, .int x484), (0, .ref (a 8)), (2, .int x462)]) hx hb dX1_lateOnes_30 rfl hl (by decide) rfl (fun ls hl => ?_)
          obtain ⟨x485, e486q, e486⟩ : ∃ z : Int32, x462 + Int32.ofInt (1) = z ∧ z.toInt = x462.toInt + (1) := ⟨_, rfl, ic_addc rfl (by decide) (by omega) (by omega)⟩
          refine lv_iinc (v := x485) (lv' := [(2, .int x485), (1, .int x484), (0, .ref (a 8))]) hx hb dX1_lateOnes_31 hl (k := 2) rfl e486q (by decide) rfl (fun ls hl => ?_)
          refine lv_goto (tgt := 4) hx hb dX1_lateOnes_34 (by decide) ?_
          exact ih465 x484 x485 g L H locs ls (by omega) hI h0c hP hD hS (lv_sub hl [2, 1, 0] rfl) (by omega)
        refine lv_if_le (x := x471) (tgt := 28) hx hb dX1_lateOnes_21 (by decide) (fun c487 => ?_) (fun c487 => ?_)
        ·
          have c487 := icc_le (m := x471.toInt) (n := 0) rfl (by decide) c487
          refine lv_iconst (v := 0) hx hb dX1_lateOnes_28 (by decide) ?_
          exact J481 0 g L H locs ls (by decide) hI h0c hP hD hS (lv_sub hl [0, 2] rfl)
        ·
          have c487 := icc_nle (m := x471.toInt) (n := 0) rfl (by decide) c487
          refine lv_iconst (v := 1) hx hb dX1_lateOnes_24 (by decide) ?_
          refine lv_goto (tgt := 29) hx hb dX1_lateOnes_25 (by decide) ?_
          exact J481 1 g L H locs ls (by decide) hI h0c hP hD hS (lv_sub hl [0, 2] rfl)
  have hc_ : (0 : Int32).toInt = 0 := by decide
  exact lp464 14 0 0 g0 L0 H locs ls (by decide) hI h0c hP hD hS (lv_sub hl [2, 1, 0] rfl) (by omega)
set_option maxHeartbeats 4000000 in
set_option maxRecDepth 100000 in
theorem zX1_latest_8 (l : Launch) (G : kG) (sz : Nat) (b : Nat) (a : Nat → Nat) (g0 : Nat → Nat → Int32) (L0 : Nat → Nat → Int64) (hI : zI XT g0) : kM l yX1_latest cX1_latest 3 (some .int) { frames := 7, cells := 0, slots := 0, locals := 131 } G [.ref (a 8)] (zw G (XS b) 105 a g0 L0) sz (kQi G (S := zS) (fun r u => zI XT u.1 ∧ u.1 0 = g0 0 ∧ (0 ≤ r.toInt)) (fun u => zw G (XS b) 105 a u.1 u.2)) := by
  refine kM.of (by decide) (Nat.le_of_ble_eq_true rfl) ?_
  intro p e s m below meth c A ls H C hr hlk hnm hP hD hS hl
  have C : kC G p s m c cX1_latest 3 RX1 A := C
  have hx := C.1
  have hb := C.2.1
  have hl : lv_has ls 3 [(0, .ref (a 8))] := hl
  have h0c : g0 0 = g0 0 := rfl
  obtain ⟨locs, hlocs⟩ : ∃ q : List Loc, q = [] := ⟨_, rfl⟩
  rw [← hlocs] at hS
  rw [← hlocs]
  refine lv_iconst (v := 0) hx hb dX1_latest_0 (by decide) ?_
  refine lv_istore_n (lv' := [(1, .int 0), (0, .ref (a 8))]) hx hb dX1_latest_1 rfl hl (by decide) rfl (fun ls hl => ?_)
  refine lv_iconst (v := 0) hx hb dX1_latest_2 (by decide) ?_
  refine lv_istore_n (lv' := [(2, .int 0), (1, .int 0), (0, .ref (a 8))]) hx hb dX1_latest_3 rfl hl (by decide) rfl (fun ls hl => ?_)
  have lp169 : ∀ fu : Nat, ∀ (x165 : Int32) (x167 : Int32) (g : Nat → Nat → Int32) (L : Nat → Nat → Int64) (H : Heap) (locs : List Loc) (ls : Array Slot), (0 ≤ x165.toInt) → (0 ≤ x167.toInt ∧ x167.toInt ≤ 12) → zI XT g → g 0 = g0 0 → va_P G.1 vwCl (zw G (XS b) 105 a g L) H → va_D A (zw G (XS b) 105 a g L) → va_S A s.heap H locs → lv_has ls 3 [(0, .ref (a 8)), (1, .int x165), (2, .int x167)] → 12 - x167.toInt < (fu : Int) → W p l e { frames := 7, cells := 0, slots := 0, locals := 131 } s m [.ref (a 8)].toArray below meth c H locs 0 0 (MQ below ((kQi G (S := zS) (fun r u => zI XT u.1 ∧ u.1 0 = g0 0 ∧ (0 ≤ r.toInt)) (fun u => zw G (XS b) 105 a u.1 u.2)) A) [.ref (a 8)].toArray s 0 0 A) (F0 m 4 ls []) := by
    intro fu
    induction fu with
    | zero => intro x165 x167 g L H locs ls b166 b168 hI h0c hP hD hS hl hm; exact absurd hm (by omega)
    | succ fu ih =>
      intro x165 x167 g L H locs ls b166 b168 hI h0c hP hD hS hl hm
      have ih170 := ih
      refine lv_iload_n hx hb dX1_latest_4 rfl (lv_at hl 2 rfl) ?_
      refine lv_aload_n hx hb dX1_latest_5 rfl (lv_at hl 0 rfl) ?_
      refine x_getr (Or.inl fl_X1_37) C hP (by decide) xs_8 rfl dX1_latest_6 ?_
      refine x_getT hI rfl (Or.inr fl_X1_45) C hP (by decide) xs_1 rfl dX1_latest_9 (fun x171 e172 b173 => ?_)
      refine lv_icmp_ge (x := x167) (y := x171) (tgt := 31) hx hb dX1_latest_12 (by decide) (fun c174 => ?_) (fun c174 => ?_)
      ·
        have c174 := icc_le (m := x171.toInt) (n := x167.toInt) rfl rfl c174
        refine lv_iload_n hx hb dX1_latest_31 rfl (lv_at hl 1 rfl) ?_
        exact x_iret C hr hlk hP hD hS (g, L) rfl ⟨hI, h0c, by omega⟩ (Nat.le_of_ble_eq_true rfl) (Nat.le_of_ble_eq_true rfl) dX1_latest_32
      ·
        have c174 := icc_nle (m := x171.toInt) (n := x167.toInt) rfl rfl c174
        refine lv_iload_n hx hb dX1_latest_15 rfl (lv_at hl 1 rfl) ?_
        refine lv_aload_n hx hb dX1_latest_16 rfl (lv_at hl 0 rfl) ?_
        refine lv_iload_n hx hb dX1_latest_17 rfl (lv_at hl 2 rfl) ?_
        refine x_callVi (rest := [.int x165]) li_X1_156 C (zX1_late_8 l G H.size b a g L hI x167 (by omega)) (kR rfl) hP hD hS 8 1 rfl (zat (by decide) xs_8) rfl hl.1 rfl (Nat.le_of_ble_eq_true rfl) dX1_latest_18 (fun x176 u177 H locs hw175 hP hD hS => ?_)
        obtain ⟨g, L⟩ := u177
        obtain ⟨hI, h0n⟩ := hw175
        have h0c : g 0 = g0 0 := h0n.trans h0c
        have hI : zI XT g := hI
        have hP : va_P G.1 vwCl (zw G (XS b) 105 a g L) H := hP
        have hD : va_D A (zw G (XS b) 105 a g L) := hD
        refine k_max lm_X1_78 C hl.1 (Nat.le_of_ble_eq_true rfl) (Nat.le_of_ble_eq_true rfl) (Nat.le_of_ble_eq_true rfl) (Nat.le_of_ble_eq_true rfl) dX1_latest_21 ?_
        refine x_max (mm := x165.toInt) (nn := x176.toInt) rfl rfl (fun x180 e181 => ?_)
        refine lv_istore_n (lv' := [(1, .int x180), (0, .ref (a 8)), (2, .int x167)]) hx hb dX1_latest_24 rfl hl (by decide) rfl (fun ls hl => ?_)
        obtain ⟨x182, e183q, e183⟩ : ∃ z : Int32, x167 + Int32.ofInt (1) = z ∧ z.toInt = x167.toInt + (1) := ⟨_, rfl, ic_addc rfl (by decide) (by omega) (by omega)⟩
        refine lv_iinc (v := x182) (lv' := [(2, .int x182), (1, .int x180), (0, .ref (a 8))]) hx hb dX1_latest_25 hl (k := 2) rfl e183q (by decide) rfl (fun ls hl => ?_)
        refine lv_goto (tgt := 4) hx hb dX1_latest_28 (by decide) ?_
        exact ih170 x180 x182 g L H locs ls (by omega) (by omega) hI h0c hP hD hS (lv_sub hl [2, 1, 0] rfl) (by omega)
  have hc_ : (0 : Int32).toInt = 0 := by decide
  exact lp169 14 0 0 g0 L0 H locs ls (by decide) (by decide) hI h0c hP hD hS (lv_sub hl [2, 1, 0] rfl) (by omega)
set_option maxHeartbeats 4000000 in
set_option maxRecDepth 100000 in
theorem zX1_begunLater_8 (l : Launch) (G : kG) (sz : Nat) (b : Nat) (a : Nat → Nat) (g0 : Nat → Nat → Int32) (L0 : Nat → Nat → Int64) (hI : zI XT g0) : kM l yX1_begunLater cX1_begunLater 3 (some .int) { frames := 6, cells := 0, slots := 0, locals := 110 } G [.ref (a 8)] (zw G (XS b) 105 a g0 L0) sz (kQi G (S := zS) (fun r u => zI XT u.1 ∧ u.1 0 = g0 0) (fun u => zw G (XS b) 105 a u.1 u.2)) := by
  refine kM.of (by decide) (Nat.le_of_ble_eq_true rfl) ?_
  intro p e s m below meth c A ls H C hr hlk hnm hP hD hS hl
  have C : kC G p s m c cX1_begunLater 3 RX1 A := C
  have hx := C.1
  have hb := C.2.1
  have hl : lv_has ls 3 [(0, .ref (a 8))] := hl
  have h0c : g0 0 = g0 0 := rfl
  obtain ⟨locs, hlocs⟩ : ∃ q : List Loc, q = [] := ⟨_, rfl⟩
  rw [← hlocs] at hS
  rw [← hlocs]
  refine lv_iconst (v := 0) hx hb dX1_begunLater_0 (by decide) ?_
  refine lv_istore_n (lv' := [(1, .int 0), (0, .ref (a 8))]) hx hb dX1_begunLater_1 rfl hl (by decide) rfl (fun ls hl => ?_)
  refine lv_iconst (v := 0) hx hb dX1_begunLater_2 (by decide) ?_
  refine lv_istore_n (lv' := [(2, .int 0), (1, .int 0), (0, .ref (a 8))]) hx hb dX1_begunLater_3 rfl hl (by decide) rfl (fun ls hl => ?_)
  have lp464 : ∀ fu : Nat, ∀ (x461 : Int32) (x462 : Int32) (g : Nat → Nat → Int32) (L : Nat → Nat → Int64) (H : Heap) (locs : List Loc) (ls : Array Slot), (0 ≤ x462.toInt ∧ x462.toInt ≤ 12) → zI XT g → g 0 = g0 0 → va_P G.1 vwCl (zw G (XS b) 105 a g L) H → va_D A (zw G (XS b) 105 a g L) → va_S A s.heap H locs → lv_has ls 3 [(0, .ref (a 8)), (1, .int x461), (2, .int x462)] → 12 - x462.toInt < (fu : Int) → W p l e { frames := 6, cells := 0, slots := 0, locals := 110 } s m [.ref (a 8)].toArray below meth c H locs 0 0 (MQ below ((kQi G (S := zS) (fun r u => zI XT u.1 ∧ u.1 0 = g0 0) (fun u => zw G (XS b) 105 a u.1 u.2)) A) [.ref (a 8)].toArray s 0 0 A) (F0 m 4 ls []) := by
    intro fu
    induction fu with
    | zero => intro x461 x462 g L H locs ls b463 hI h0c hP hD hS hl hm; exact absurd hm (by omega)
    | succ fu ih =>
      intro x461 x462 g L H locs ls b463 hI h0c hP hD hS hl hm
      have ih465 := ih
      refine lv_iload_n hx hb dX1_begunLater_4 rfl (lv_at hl 2 rfl) ?_
      refine lv_aload_n hx hb dX1_begunLater_5 rfl (lv_at hl 0 rfl) ?_
      refine x_getr (Or.inl fl_X1_37) C hP (by decide) xs_8 rfl dX1_begunLater_6 ?_
      refine x_getT hI rfl (Or.inr fl_X1_45) C hP (by decide) xs_1 rfl dX1_begunLater_9 (fun x466 e467 b468 => ?_)
      refine lv_icmp_ge (x := x462) (y := x466) (tgt := 50) hx hb dX1_begunLater_12 (by decide) (fun c469 => ?_) (fun c469 => ?_)
      ·
        have c469 := icc_le (m := x466.toInt) (n := x462.toInt) rfl rfl c469
        refine lv_iload_n hx hb dX1_begunLater_50 rfl (lv_at hl 1 rfl) ?_
        exact x_iret C hr hlk hP hD hS (g, L) rfl ⟨hI, h0c⟩ (Nat.le_of_ble_eq_true rfl) (Nat.le_of_ble_eq_true rfl) dX1_begunLater_51
      ·
        have c469 := icc_nle (m := x466.toInt) (n := x462.toInt) rfl rfl c469
        refine lv_iload_n hx hb dX1_begunLater_15 rfl (lv_at hl 1 rfl) ?_
        refine lv_aload_n hx hb dX1_begunLater_16 rfl (lv_at hl 0 rfl) ?_
        refine x_getr (Or.inl fl_X1_9) C hP (by decide) xs_8 rfl dX1_begunLater_17 ?_
        refine lv_iload_n hx hb dX1_begunLater_20 rfl (lv_at hl 2 rfl) ?_
        refine x_ald C hP (by decide) xs_43 (by omega) (by omega) dX1_begunLater_21 (fun x470 e471 => ?_)
        refine lv_aload_n hx hb dX1_begunLater_22 rfl (lv_at hl 0 rfl) ?_
        refine x_getr (Or.inl fl_X1_37) C hP (by decide) xs_8 rfl dX1_begunLater_23 ?_
        refine x_getr (Or.inr fl_X1_58) C hP (by decide) xs_1 rfl dX1_begunLater_26 ?_
        refine lv_iload_n hx hb dX1_begunLater_29 rfl (lv_at hl 2 rfl) ?_
        refine x_aaldQ (t := 57) C hP (by decide) xs_17 (by omega) (by omega) dX1_begunLater_30 (fun q472 q472l q472h => ?_)
        refine x_geti (Or.inr fl_X1_84) C hP (by omega) (xs_les (by omega) (by omega)) rfl dX1_begunLater_31 (fun x473 e474 => ?_)
        have J481 : ∀ (x482 : Int32) (g : Nat → Nat → Int32) (L : Nat → Nat → Int64) (H : Heap) (locs : List Loc) (ls : Array Slot), (0 ≤ x482.toInt ∧ x482.toInt ≤ 1) → zI XT g → g 0 = g0 0 → va_P G.1 vwCl (zw G (XS b) 105 a g L) H → va_D A (zw G (XS b) 105 a g L) → va_S A s.heap H locs → lv_has ls 3 [(0, .ref (a 8)), (2, .int x462)] → W p l e { frames := 6, cells := 0, slots := 0, locals := 110 } s m [.ref (a 8)].toArray below meth c H locs 0 0 (MQ below ((kQi G (S := zS) (fun r u => zI XT u.1 ∧ u.1 0 = g0 0) (fun u => zw G (XS b) 105 a u.1 u.2)) A) [.ref (a 8)].toArray s 0 0 A) (F0 m 42 ls [.int x482, .int x461]) := by
          intro x482 g L H locs ls b483 hI h0c hP hD hS hl
          refine lv_iadd hx hb dX1_begunLater_42 ?_
          refine x_any (fun x484 => ?_)
          refine lv_istore_n (lv' := [(1, .int x484), (0, .ref (a 8)), (2, .int x462)]) hx hb dX1_begunLater_43 rfl hl (by decide) rfl (fun ls hl => ?_)
          obtain ⟨x485, e486q, e486⟩ : ∃ z : Int32, x462 + Int32.ofInt (1) = z ∧ z.toInt = x462.toInt + (1) := ⟨_, rfl, ic_addc rfl (by decide) (by omega) (by omega)⟩
          refine lv_iinc (v := x485) (lv' := [(2, .int x485), (1, .int x484), (0, .ref (a 8))]) hx hb dX1_begunLater_44 hl (k := 2) rfl e486q (by decide) rfl (fun ls hl => ?_)
          refine lv_goto (tgt := 4) hx hb dX1_begunLater_47 (by decide) ?_
          exact ih465 x484 x485 g L H locs ls (by omega) hI h0c hP hD hS (lv_sub hl [2, 1, 0] rfl) (by omega)
        refine lv_icmp_le (x := x470) (y := x473) (tgt := 41) hx hb dX1_begunLater_34 (by decide) (fun c487 => ?_) (fun c487 => ?_)
        ·
          have c487 := icc_le (m := x470.toInt) (n := x473.toInt) rfl rfl c487
          refine lv_iconst (v := 0) hx hb dX1_begunLater_41 (by decide) ?_
          exact J481 0 g L H locs ls (by decide) hI h0c hP hD hS (lv_sub hl [0, 2] rfl)
        ·
          have c487 := icc_nle (m := x470.toInt) (n := x473.toInt) rfl rfl c487
          refine lv_iconst (v := 1) hx hb dX1_begunLater_37 (by decide) ?_
          refine lv_goto (tgt := 42) hx hb dX1_begunLater_38 (by decide) ?_
          exact J481 1 g L H locs ls (by decide) hI h0c hP hD hS (lv_sub hl [0, 2] rfl)
  have hc_ : (0 : Int32).toInt = 0 := by decide
  exact lp464 14 0 0 g0 L0 H locs ls (by decide) hI h0c hP hD hS (lv_sub hl [2, 1, 0] rfl) (by omega)
set_option maxHeartbeats 4000000 in
set_option maxRecDepth 100000 in
theorem zX1_onBits_8 (l : Launch) (G : kG) (sz : Nat) (b : Nat) (a : Nat → Nat) (g0 : Nat → Nat → Int32) (L0 : Nat → Nat → Int64) (hI : zI XT g0) (p1 : Int32) : kM l yX1_onBits cX1_onBits 4 (some .int) { frames := 6, cells := 0, slots := 0, locals := 110 } G [.ref (a 8), .int p1] (zw G (XS b) 105 a g0 L0) sz (kQi G (S := zS) (fun r u => zI XT u.1 ∧ u.1 0 = g0 0) (fun u => zw G (XS b) 105 a u.1 u.2)) := by
  refine kM.of (by decide) (Nat.le_of_ble_eq_true rfl) ?_
  intro p e s m below meth c A ls H C hr hlk hnm hP hD hS hl
  have C : kC G p s m c cX1_onBits 4 RX1 A := C
  have hx := C.1
  have hb := C.2.1
  have hl : lv_has ls 4 [(0, .ref (a 8)), (1, .int p1)] := hl
  have h0c : g0 0 = g0 0 := rfl
  obtain ⟨locs, hlocs⟩ : ∃ q : List Loc, q = [] := ⟨_, rfl⟩
  rw [← hlocs] at hS
  rw [← hlocs]
  refine lv_iconst (v := 0) hx hb dX1_onBits_0 (by decide) ?_
  refine lv_istore_n (lv' := [(2, .int 0), (0, .ref (a 8)), (1, .int p1)]) hx hb dX1_onBits_1 rfl hl (by decide) rfl (fun ls hl => ?_)
  refine lv_iconst (v := 0) hx hb dX1_onBits_2 (by decide) ?_
  refine lv_istore_n (lv' := [(3, .int 0), (2, .int 0), (0, .ref (a 8)), (1, .int p1)]) hx hb dX1_onBits_3 rfl hl (by decide) rfl (fun ls hl => ?_)
  have lp288 : ∀ fu : Nat, ∀ (x285 : Int32) (x286 : Int32) (g : Nat → Nat → Int32) (L : Nat → Nat → Int64) (H : Heap) (locs : List Loc) (ls : Array Slot), (0 ≤ x286.toInt ∧ x286.toInt ≤ 12) → zI XT g → g 0 = g0 0 → va_P G.1 vwCl (zw G (XS b) 105 a g L) H → va_D A (zw G (XS b) 105 a g L) → va_S A s.heap H locs → lv_has ls 4 [(0, .ref (a 8)), (1, .int p1), (2, .int x285), (3, .int x286)] → 12 - x286.toInt < (fu : Int) → W p l e { frames := 6, cells := 0, slots := 0, locals := 110 } s m [.ref (a 8), .int p1].toArray below meth c H locs 0 0 (MQ below ((kQi G (S := zS) (fun r u => zI XT u.1 ∧ u.1 0 = g0 0) (fun u => zw G (XS b) 105 a u.1 u.2)) A) [.ref (a 8), .int p1].toArray s 0 0 A) (F0 m 4 ls []) := by
    intro fu
    induction fu with
    | zero => intro x285 x286 g L H locs ls b287 hI h0c hP hD hS hl hm; exact absurd hm (by omega)
    | succ fu ih =>
      intro x285 x286 g L H locs ls b287 hI h0c hP hD hS hl hm
      have ih289 := ih
      refine lv_iload_n hx hb dX1_onBits_4 rfl (lv_at hl 3 rfl) ?_
      refine lv_aload_n hx hb dX1_onBits_5 rfl (lv_at hl 0 rfl) ?_
      refine x_getr (Or.inl fl_X1_37) C hP (by decide) xs_8 rfl dX1_onBits_6 ?_
      refine x_getT hI rfl (Or.inr fl_X1_45) C hP (by decide) xs_1 rfl dX1_onBits_9 (fun x290 e291 b292 => ?_)
      refine lv_icmp_ge (x := x286) (y := x290) (tgt := 47) hx hb dX1_onBits_12 (by decide) (fun c293 => ?_) (fun c293 => ?_)
      ·
        have c293 := icc_le (m := x290.toInt) (n := x286.toInt) rfl rfl c293
        refine lv_iload_n hx hb dX1_onBits_47 rfl (lv_at hl 2 rfl) ?_
        exact x_iret C hr hlk hP hD hS (g, L) rfl ⟨hI, h0c⟩ (Nat.le_of_ble_eq_true rfl) (Nat.le_of_ble_eq_true rfl) dX1_onBits_48
      ·
        have c293 := icc_nle (m := x290.toInt) (n := x286.toInt) rfl rfl c293
        refine lv_aload_n hx hb dX1_onBits_15 rfl (lv_at hl 0 rfl) ?_
        refine x_getr (Or.inl fl_X1_9) C hP (by decide) xs_8 rfl dX1_onBits_16 ?_
        refine lv_iload_n hx hb dX1_onBits_19 rfl (lv_at hl 3 rfl) ?_
        refine x_ald C hP (by decide) xs_43 (by omega) (by omega) dX1_onBits_20 (fun x294 e295 => ?_)
        refine lv_iload_n hx hb dX1_onBits_21 rfl (lv_at hl 1 rfl) ?_
        have J305 : ∀ (x306 : Int32) (g : Nat → Nat → Int32) (L : Nat → Nat → Int64) (H : Heap) (locs : List Loc) (ls : Array Slot), zI XT g → g 0 = g0 0 → va_P G.1 vwCl (zw G (XS b) 105 a g L) H → va_D A (zw G (XS b) 105 a g L) → va_S A s.heap H locs → lv_has ls 4 [(0, .ref (a 8)), (1, .int p1), (2, .int x306), (3, .int x286)] → W p l e { frames := 6, cells := 0, slots := 0, locals := 110 } s m [.ref (a 8), .int p1].toArray below meth c H locs 0 0 (MQ below ((kQi G (S := zS) (fun r u => zI XT u.1 ∧ u.1 0 = g0 0) (fun u => zw G (XS b) 105 a u.1 u.2)) A) [.ref (a 8), .int p1].toArray s 0 0 A) (F0 m 41 ls []) := by
          intro x306 g L H locs ls hI h0c hP hD hS hl
          obtain ⟨x307, e308q, e308⟩ : ∃ z : Int32, x286 + Int32.ofInt (1) = z ∧ z.toInt = x286.toInt + (1) := ⟨_, rfl, ic_addc rfl (by decide) (by omega) (by omega)⟩
          refine lv_iinc (v := x307) (lv' := [(3, .int x307), (0, .ref (a 8)), (1, .int p1), (2, .int x306)]) hx hb dX1_onBits_41 hl (k := 3) rfl e308q (by decide) rfl (fun ls hl => ?_)
          refine lv_goto (tgt := 4) hx hb dX1_onBits_44 (by decide) ?_
          exact ih289 x306 x307 g L H locs ls (by omega) hI h0c hP hD hS (lv_sub hl [1, 2, 3, 0] rfl) (by omega)
        refine lv_icmp_gt (x := x294) (y := p1) (tgt := 41) hx hb dX1_onBits_22 (by decide) (fun c309 => ?_) (fun c309 => ?_)
        ·
          have c309 := icc_lt (m := p1.toInt) (n := x294.toInt) rfl rfl c309
          exact J305 x285 g L H locs ls hI h0c hP hD hS (lv_sub hl [0, 1, 2, 3] rfl)
        ·
          have c309 := icc_nlt (m := p1.toInt) (n := x294.toInt) rfl rfl c309
          refine lv_aload_n hx hb dX1_onBits_25 rfl (lv_at hl 0 rfl) ?_
          refine x_getr (Or.inl fl_X1_15) C hP (by decide) xs_8 rfl dX1_onBits_26 ?_
          refine lv_iload_n hx hb dX1_onBits_29 rfl (lv_at hl 3 rfl) ?_
          refine x_ald C hP (by decide) xs_44 (by omega) (by omega) dX1_onBits_30 (fun x310 e311 => ?_)
          refine lv_iload_n hx hb dX1_onBits_31 rfl (lv_at hl 1 rfl) ?_
          refine lv_icmp_le (x := x310) (y := p1) (tgt := 41) hx hb dX1_onBits_32 (by decide) (fun c312 => ?_) (fun c312 => ?_)
          ·
            have c312 := icc_le (m := x310.toInt) (n := p1.toInt) rfl rfl c312
            exact J305 x285 g L H locs ls hI h0c hP hD hS (lv_sub hl [0, 1, 2, 3] rfl)
          ·
            have c312 := icc_nle (m := x310.toInt) (n := p1.toInt) rfl rfl c312
            refine lv_iload_n hx hb dX1_onBits_35 rfl (lv_at hl 2 rfl) ?_
            refine lv_iconst (v := 1) hx hb dX1_onBits_36 (by decide) ?_
            refine lv_iload_n hx hb dX1_onBits_37 rfl (lv_at hl 3 rfl) ?_
            refine lv_ishl hx hb dX1_onBits_38 ?_
            refine x_any (fun x313 => ?_)
            refine lv_ior hx hb dX1_onBits_39 ?_
            refine x_any (fun x314 => ?_)
            refine lv_istore_n (lv' := [(2, .int x314), (0, .ref (a 8)), (1, .int p1), (3, .int x286)]) hx hb dX1_onBits_40 rfl hl (by decide) rfl (fun ls hl => ?_)
            exact J305 x314 g L H locs ls hI h0c hP hD hS (lv_sub hl [1, 2, 0, 3] rfl)
  have hc_ : (0 : Int32).toInt = 0 := by decide
  exact lp288 14 0 0 g0 L0 H locs ls (by decide) hI h0c hP hD hS (lv_sub hl [2, 3, 1, 0] rfl) (by omega)
set_option maxHeartbeats 4000000 in
set_option maxRecDepth 100000 in
theorem zX1_clashOf_8 (l : Launch) (G : kG) (sz : Nat) (b : Nat) (a : Nat → Nat) (g0 : Nat → Nat → Int32) (L0 : Nat → Nat → Int64) (hI : zI XT g0) (p1 : Int32) (p2 : Int32) (hp1 : 0 ≤ p1.toInt ∧ p1.toInt ≤ 11) (hp2 : 0 ≤ p2.toInt ∧ p2.toInt ≤ 11) : kM l yX1_clashOf cX1_clashOf 5 (some .int) { frames := 6, cells := 0, slots := 0, locals := 110 } G [.ref (a 8), .int p1, .int p2] (zw G (XS b) 105 a g0 L0) sz (kQi G (S := zS) (fun r u => zI XT u.1 ∧ u.1 0 = g0 0) (fun u => zw G (XS b) 105 a u.1 u.2)) := by
  refine kM.of (by decide) (Nat.le_of_ble_eq_true rfl) ?_
  intro p e s m below meth c A ls H C hr hlk hnm hP hD hS hl
  have C : kC G p s m c cX1_clashOf 5 RX1 A := C
  have hx := C.1
  have hb := C.2.1
  have hl : lv_has ls 5 [(0, .ref (a 8)), (1, .int p1), (2, .int p2)] := hl
  have h0c : g0 0 = g0 0 := rfl
  obtain ⟨locs, hlocs⟩ : ∃ q : List Loc, q = [] := ⟨_, rfl⟩
  rw [← hlocs] at hS
  rw [← hlocs]
  refine lv_aload_n hx hb dX1_clashOf_0 rfl (lv_at hl 0 rfl) ?_
  refine x_getr (Or.inl fl_X1_9) C hP (by decide) xs_8 rfl dX1_clashOf_1 ?_
  refine lv_iload_n hx hb dX1_clashOf_4 rfl (lv_at hl 1 rfl) ?_
  refine x_ald C hP (by decide) xs_43 (by omega) (by omega) dX1_clashOf_5 (fun x1 e2 => ?_)
  refine lv_aload_n hx hb dX1_clashOf_6 rfl (lv_at hl 0 rfl) ?_
  refine x_getr (Or.inl fl_X1_9) C hP (by decide) xs_8 rfl dX1_clashOf_7 ?_
  refine lv_iload_n hx hb dX1_clashOf_10 rfl (lv_at hl 2 rfl) ?_
  refine x_ald C hP (by decide) xs_43 (by omega) (by omega) dX1_clashOf_11 (fun x3 e4 => ?_)
  refine k_max lm_X1_78 C hl.1 (Nat.le_of_ble_eq_true rfl) (Nat.le_of_ble_eq_true rfl) (Nat.le_of_ble_eq_true rfl) (Nat.le_of_ble_eq_true rfl) dX1_clashOf_12 ?_
  refine x_max (mm := x1.toInt) (nn := x3.toInt) rfl rfl (fun x5 e6 => ?_)
  refine lv_istore_n (lv' := [(3, .int x5), (0, .ref (a 8)), (1, .int p1), (2, .int p2)]) hx hb dX1_clashOf_15 rfl hl (by decide) rfl (fun ls hl => ?_)
  refine lv_iload_n hx hb dX1_clashOf_16 rfl (lv_at hl 0 rfl) ?_
  refine lv_aload_n hx hb dX1_clashOf_17 rfl (lv_at hl 1 rfl) ?_
  refine x_getr (Or.inl fl_X1_15) C hP (by decide) xs_8 rfl dX1_clashOf_18 ?_
  refine lv_iload_n hx hb dX1_clashOf_21 rfl (lv_at hl 2 rfl) ?_
  refine x_ald C hP (by decide) xs_44 (by omega) (by omega) dX1_clashOf_22 (fun x7 e8 => ?_)
  refine lv_aload_n hx hb dX1_clashOf_23 rfl (lv_at hl 1 rfl) ?_
  refine x_getr (Or.inl fl_X1_15) C hP (by decide) xs_8 rfl dX1_clashOf_24 ?_
  refine lv_iload_n hx hb dX1_clashOf_27 rfl (lv_at hl 3 rfl) ?_
  refine x_ald C hP (by decide) xs_44 (by omega) (by omega) dX1_clashOf_28 (fun x9 e10 => ?_)
  refine k_min lm_X1_153 C hl.1 (Nat.le_of_ble_eq_true rfl) (Nat.le_of_ble_eq_true rfl) (Nat.le_of_ble_eq_true rfl) (Nat.le_of_ble_eq_true rfl) dX1_clashOf_29 ?_
  refine x_min (mm := x7.toInt) (nn := x9.toInt) rfl rfl (fun x11 e12 => ?_)
  have J32 : ∀ (x33 : Int32) (g : Nat → Nat → Int32) (L : Nat → Nat → Int64) (H : Heap) (locs : List Loc) (ls : Array Slot), (0 ≤ x33.toInt ∧ x33.toInt ≤ 1) → zI XT g → g 0 = g0 0 → va_P G.1 vwCl (zw G (XS b) 105 a g L) H → va_D A (zw G (XS b) 105 a g L) → va_S A s.heap H locs → lv_has ls 5 [(0, .ref (a 8)), (1, .int p1), (2, .int p2), (3, .int x5)] → W p l e { frames := 6, cells := 0, slots := 0, locals := 110 } s m [.ref (a 8), .int p1, .int p2].toArray below meth c H locs 0 0 (MQ below ((kQi G (S := zS) (fun r u => zI XT u.1 ∧ u.1 0 = g0 0) (fun u => zw G (XS b) 105 a u.1 u.2)) A) [.ref (a 8), .int p1, .int p2].toArray s 0 0 A) (F0 m 40 ls [.int x33]) := by
    intro x33 g L H locs ls b34 hI h0c hP hD hS hl
    refine lv_istore (lv' := [(4, .int x33), (0, .ref (a 8)), (1, .int p1), (2, .int p2), (3, .int x5)]) hx hb dX1_clashOf_40 hl (by decide) rfl (fun ls hl => ?_)
    refine lv_iload hx hb dX1_clashOf_42 (lv_at hl 0 rfl) ?_
    have J42 : ∀ (x43 : Int32) (g : Nat → Nat → Int32) (L : Nat → Nat → Int64) (H : Heap) (locs : List Loc) (ls : Array Slot), zI XT g → g 0 = g0 0 → va_P G.1 vwCl (zw G (XS b) 105 a g L) H → va_D A (zw G (XS b) 105 a g L) → va_S A s.heap H locs → lv_has ls 5 [] → W p l e { frames := 6, cells := 0, slots := 0, locals := 110 } s m [.ref (a 8), .int p1, .int p2].toArray below meth c H locs 0 0 (MQ below ((kQi G (S := zS) (fun r u => zI XT u.1 ∧ u.1 0 = g0 0) (fun u => zw G (XS b) 105 a u.1 u.2)) A) [.ref (a 8), .int p1, .int p2].toArray s 0 0 A) (F0 m 73 ls [.int x43]) := by
      intro x43 g L H locs ls hI h0c hP hD hS hl
      exact x_iret C hr hlk hP hD hS (g, L) rfl ⟨hI, h0c⟩ (Nat.le_of_ble_eq_true rfl) (Nat.le_of_ble_eq_true rfl) dX1_clashOf_73
    have J44 : ∀ (g : Nat → Nat → Int32) (L : Nat → Nat → Int64) (H : Heap) (locs : List Loc) (ls : Array Slot), zI XT g → g 0 = g0 0 → va_P G.1 vwCl (zw G (XS b) 105 a g L) H → va_D A (zw G (XS b) 105 a g L) → va_S A s.heap H locs → lv_has ls 5 [] → W p l e { frames := 6, cells := 0, slots := 0, locals := 110 } s m [.ref (a 8), .int p1, .int p2].toArray below meth c H locs 0 0 (MQ below ((kQi G (S := zS) (fun r u => zI XT u.1 ∧ u.1 0 = g0 0) (fun u => zw G (XS b) 105 a u.1 u.2)) A) [.ref (a 8), .int p1, .int p2].toArray s 0 0 A) (F0 m 72 ls []) := by
      intro g L H locs ls hI h0c hP hD hS hl
      refine lv_iconst (v := -1) hx hb dX1_clashOf_72 (by decide) ?_
      exact J42 (-1) g L H locs ls hI h0c hP hD hS (lv_sub hl [] rfl)
    refine lv_if_eq (x := x33) (tgt := 72) hx hb dX1_clashOf_44 (by decide) (fun c45 => ?_) (fun c45 => ?_)
    ·
      have c45 := icc_eq (m := x33.toInt) (n := 0) rfl (by decide) c45
      exact J44 g L H locs ls hI h0c hP hD hS (lv_sub hl [] rfl)
    ·
      have c45 := icc_neq (m := x33.toInt) (n := 0) rfl (by decide) c45
      refine lv_aload_n hx hb dX1_clashOf_47 rfl (lv_at hl 1 rfl) ?_
      refine x_getr (Or.inl fl_X1_41) C hP (by decide) xs_8 rfl dX1_clashOf_48 ?_
      refine x_getr (Or.inr fl_X1_120) C hP (by decide) xs_6 rfl dX1_clashOf_51 ?_
      refine lv_iload_n hx hb dX1_clashOf_54 rfl (lv_at hl 2 rfl) ?_
      refine x_ald C hP (by decide) xs_27 (by omega) (by omega) dX1_clashOf_55 (fun x46 e47 => ?_)
      refine lv_aload_n hx hb dX1_clashOf_56 rfl (lv_at hl 1 rfl) ?_
      refine x_getr (Or.inl fl_X1_41) C hP (by decide) xs_8 rfl dX1_clashOf_57 ?_
      refine x_getr (Or.inr fl_X1_120) C hP (by decide) xs_6 rfl dX1_clashOf_60 ?_
      refine lv_iload_n hx hb dX1_clashOf_63 rfl (lv_at hl 3 rfl) ?_
      refine x_ald C hP (by decide) xs_27 (by omega) (by omega) dX1_clashOf_64 (fun x48 e49 => ?_)
      refine lv_icmp_ne (x := x46) (y := x48) (tgt := 72) hx hb dX1_clashOf_65 (by decide) (fun c50 => ?_) (fun c50 => ?_)
      ·
        have c50 := icc_neq (m := x46.toInt) (n := x48.toInt) rfl rfl c50
        exact J44 g L H locs ls hI h0c hP hD hS (lv_sub hl [] rfl)
      ·
        have c50 := icc_eq (m := x46.toInt) (n := x48.toInt) rfl rfl c50
        refine lv_iload_n hx hb dX1_clashOf_68 rfl (lv_at hl 4 rfl) ?_
        refine lv_goto (tgt := 73) hx hb dX1_clashOf_69 (by decide) ?_
        exact J42 x5 g L H locs ls hI h0c hP hD hS (lv_sub hl [] rfl)
  refine lv_icmp_ge (x := x5) (y := x11) (tgt := 39) hx hb dX1_clashOf_32 (by decide) (fun c51 => ?_) (fun c51 => ?_)
  ·
    have c51 := icc_le (m := x11.toInt) (n := x5.toInt) rfl rfl c51
    refine lv_iconst (v := 0) hx hb dX1_clashOf_39 (by decide) ?_
    exact J32 0 g0 L0 H locs ls (by decide) hI h0c hP hD hS (lv_sub hl [1, 2, 3, 0] rfl)
  ·
    have c51 := icc_nle (m := x11.toInt) (n := x5.toInt) rfl rfl c51
    refine lv_iconst (v := 1) hx hb dX1_clashOf_35 (by decide) ?_
    refine lv_goto (tgt := 40) hx hb dX1_clashOf_36 (by decide) ?_
    exact J32 1 g0 L0 H locs ls (by decide) hI h0c hP hD hS (lv_sub hl [1, 2, 3, 0] rfl)
set_option maxHeartbeats 4000000 in
set_option maxRecDepth 100000 in
theorem zX1_clashes_8 (l : Launch) (G : kG) (sz : Nat) (b : Nat) (a : Nat → Nat) (g0 : Nat → Nat → Int32) (L0 : Nat → Nat → Int64) (hI : zI XT g0) : kM l yX1_clashes cX1_clashes 4 (some .int) { frames := 7, cells := 0, slots := 0, locals := 134 } G [.ref (a 8)] (zw G (XS b) 105 a g0 L0) sz (kQi G (S := zS) (fun r u => zI XT u.1 ∧ u.1 0 = g0 0) (fun u => zw G (XS b) 105 a u.1 u.2)) := by
  refine kM.of (by decide) (Nat.le_of_ble_eq_true rfl) ?_
  intro p e s m below meth c A ls H C hr hlk hnm hP hD hS hl
  have C : kC G p s m c cX1_clashes 4 RX1 A := C
  have hx := C.1
  have hb := C.2.1
  have hl : lv_has ls 4 [(0, .ref (a 8))] := hl
  have h0c : g0 0 = g0 0 := rfl
  obtain ⟨locs, hlocs⟩ : ∃ q : List Loc, q = [] := ⟨_, rfl⟩
  rw [← hlocs] at hS
  rw [← hlocs]
  refine lv_iconst (v := 0) hx hb dX1_clashes_0 (by decide) ?_
  refine lv_istore_n (lv' := [(1, .int 0), (0, .ref (a 8))]) hx hb dX1_clashes_1 rfl hl (by decide) rfl (fun ls hl => ?_)
  refine lv_iconst (v := 0) hx hb dX1_clashes_2 (by decide) ?_
  refine lv_istore_n (lv' := [(2, .int 0), (1, .int 0), (0, .ref (a 8))]) hx hb dX1_clashes_3 rfl hl (by decide) rfl (fun ls hl => ?_)
  have lp2106 : ∀ fu : Nat, ∀ (x2103 : Int32) (x2104 : Int32) (g : Nat → Nat → Int32) (L : Nat → Nat → Int64) (H : Heap) (locs : List Loc) (ls : Array Slot), (0 ≤ x2104.toInt ∧ x2104.toInt ≤ 12) → zI XT g → g 0 = g0 0 → va_P G.1 vwCl (zw G (XS b) 105 a g L) H → va_D A (zw G (XS b) 105 a g L) → va_S A s.heap H locs → lv_has ls 4 [(0, .ref (a 8)), (1, .int x2103), (2, .int x2104)] → 12 - x2104.toInt < (fu : Int) → W p l e { frames := 7, cells := 0, slots := 0, locals := 134 } s m [.ref (a 8)].toArray below meth c H locs 0 0 (MQ below ((kQi G (S := zS) (fun r u => zI XT u.1 ∧ u.1 0 = g0 0) (fun u => zw G (XS b) 105 a u.1 u.2)) A) [.ref (a 8)].toArray s 0 0 A) (F0 m 4 ls []) := by
    intro fu
    induction fu with
    | zero => intro x2103 x2104 g L H locs ls b2105 hI h0c hP hD hS hl hm; exact absurd hm (by omega)
    | succ fu ih =>
      intro x2103 x2104 g L H locs ls b2105 hI h0c hP hD hS hl hm
      have ih2107 := ih
      refine lv_iload_n hx hb dX1_clashes_4 rfl (lv_at hl 2 rfl) ?_
      refine lv_aload_n hx hb dX1_clashes_5 rfl (lv_at hl 0 rfl) ?_
      refine x_getr (Or.inl fl_X1_37) C hP (by decide) xs_8 rfl dX1_clashes_6 ?_
      refine x_getT hI rfl (Or.inr fl_X1_45) C hP (by decide) xs_1 rfl dX1_clashes_9 (fun x2108 e2109 b2110 => ?_)
      refine lv_icmp_ge (x := x2104) (y := x2108) (tgt := 60) hx hb dX1_clashes_12 (by decide) (fun c2111 => ?_) (fun c2111 => ?_)
      ·
        have c2111 := icc_le (m := x2108.toInt) (n := x2104.toInt) rfl rfl c2111
        refine lv_iload_n hx hb dX1_clashes_60 rfl (lv_at hl 1 rfl) ?_
        exact x_iret C hr hlk hP hD hS (g, L) rfl ⟨hI, h0c⟩ (Nat.le_of_ble_eq_true rfl) (Nat.le_of_ble_eq_true rfl) dX1_clashes_61
      ·
        have c2111 := icc_nle (m := x2108.toInt) (n := x2104.toInt) rfl rfl c2111
        refine lv_iload_n hx hb dX1_clashes_15 rfl (lv_at hl 2 rfl) ?_
        refine lv_iconst (v := 1) hx hb dX1_clashes_16 (by decide) ?_
        refine lv_iadd hx hb dX1_clashes_17 ?_
        refine x_val (ic_addc (m := x2104.toInt) (n := 1) rfl (by decide) (by omega) (by omega)) (fun x2112 e2113 => ?_)
        refine lv_istore_n (lv' := [(3, .int x2112), (0, .ref (a 8)), (1, .int x2103), (2, .int x2104)]) hx hb dX1_clashes_18 rfl hl (by decide) rfl (fun ls hl => ?_)
        have lp2195 : ∀ fu : Nat, ∀ (x2192 : Int32) (x2193 : Int32) (g : Nat → Nat → Int32) (L : Nat → Nat → Int64) (H : Heap) (locs : List Loc) (ls : Array Slot), (1 ≤ x2193.toInt ∧ x2193.toInt ≤ 12) → zI XT g → g 0 = g0 0 → va_P G.1 vwCl (zw G (XS b) 105 a g L) H → va_D A (zw G (XS b) 105 a g L) → va_S A s.heap H locs → lv_has ls 4 [(0, .ref (a 8)), (1, .int x2192), (2, .int x2104), (3, .int x2193)] → 12 - x2193.toInt < (fu : Int) → W p l e { frames := 7, cells := 0, slots := 0, locals := 134 } s m [.ref (a 8)].toArray below meth c H locs 0 0 (MQ below ((kQi G (S := zS) (fun r u => zI XT u.1 ∧ u.1 0 = g0 0) (fun u => zw G (XS b) 105 a u.1 u.2)) A) [.ref (a 8)].toArray s 0 0 A) (F0 m 19 ls []) := by
          intro fu
          induction fu with
          | zero => intro x2192 x2193 g L H locs ls b2194 hI h0c hP hD hS hl hm; exact absurd hm (by omega)
          | succ fu ih =>
            intro x2192 x2193 g L H locs ls b2194 hI h0c hP hD hS hl hm
            have ih2196 := ih
            refine lv_iload_n hx hb dX1_clashes_19 rfl (lv_at hl 3 rfl) ?_
            refine lv_aload_n hx hb dX1_clashes_20 rfl (lv_at hl 0 rfl) ?_
            refine x_getr (Or.inl fl_X1_37) C hP (by decide) xs_8 rfl dX1_clashes_21 ?_
            refine x_getT hI rfl (Or.inr fl_X1_45) C hP (by decide) xs_1 rfl dX1_clashes_24 (fun x2197 e2198 b2199 => ?_)
            refine lv_icmp_ge (x := x2193) (y := x2197) (tgt := 54) hx hb dX1_clashes_27 (by decide) (fun c2200 => ?_) (fun c2200 => ?_)
            ·
              have c2200 := icc_le (m := x2197.toInt) (n := x2193.toInt) rfl rfl c2200
              obtain ⟨x2201, e2202q, e2202⟩ : ∃ z : Int32, x2104 + Int32.ofInt (1) = z ∧ z.toInt = x2104.toInt + (1) := ⟨_, rfl, ic_addc rfl (by decide) (by omega) (by omega)⟩
              refine lv_iinc (v := x2201) (lv' := [(2, .int x2201), (0, .ref (a 8)), (1, .int x2192), (3, .int x2193)]) hx hb dX1_clashes_54 hl (k := 2) rfl e2202q (by decide) rfl (fun ls hl => ?_)
              refine lv_goto (tgt := 4) hx hb dX1_clashes_57 (by decide) ?_
              exact ih2107 x2192 x2201 g L H locs ls (by omega) hI h0c hP hD hS (lv_sub hl [1, 2, 0] rfl) (by omega)
            ·
              have c2200 := icc_nle (m := x2197.toInt) (n := x2193.toInt) rfl rfl c2200
              refine lv_iload_n hx hb dX1_clashes_30 rfl (lv_at hl 1 rfl) ?_
              refine lv_aload_n hx hb dX1_clashes_31 rfl (lv_at hl 0 rfl) ?_
              refine lv_iload_n hx hb dX1_clashes_32 rfl (lv_at hl 2 rfl) ?_
              refine lv_iload_n hx hb dX1_clashes_33 rfl (lv_at hl 3 rfl) ?_
              refine x_callVi (rest := [.int x2192]) li_X1_159 C (zX1_clashOf_8 l G H.size b a g L hI x2104 x2193 (by omega) (by omega)) (kR rfl) hP hD hS 8 1 rfl (zat (by decide) xs_8) rfl hl.1 rfl (Nat.le_of_ble_eq_true rfl) dX1_clashes_34 (fun x2204 u2205 H locs hw2203 hP hD hS => ?_)
              obtain ⟨g, L⟩ := u2205
              obtain ⟨hI, h0n⟩ := hw2203
              have h0c : g 0 = g0 0 := h0n.trans h0c
              have hI : zI XT g := hI
              have hP : va_P G.1 vwCl (zw G (XS b) 105 a g L) H := hP
              have hD : va_D A (zw G (XS b) 105 a g L) := hD
              refine lv_iconst (v := -1) hx hb dX1_clashes_37 (by decide) ?_
              have J2214 : ∀ (x2215 : Int32) (g : Nat → Nat → Int32) (L : Nat → Nat → Int64) (H : Heap) (locs : List Loc) (ls : Array Slot), (0 ≤ x2215.toInt ∧ x2215.toInt ≤ 1) → zI XT g → g 0 = g0 0 → va_P G.1 vwCl (zw G (XS b) 105 a g L) H → va_D A (zw G (XS b) 105 a g L) → va_S A s.heap H locs → lv_has ls 4 [(0, .ref (a 8)), (2, .int x2104), (3, .int x2193)] → W p l e { frames := 7, cells := 0, slots := 0, locals := 134 } s m [.ref (a 8)].toArray below meth c H locs 0 0 (MQ below ((kQi G (S := zS) (fun r u => zI XT u.1 ∧ u.1 0 = g0 0) (fun u => zw G (XS b) 105 a u.1 u.2)) A) [.ref (a 8)].toArray s 0 0 A) (F0 m 46 ls [.int x2215, .int x2192]) := by
                intro x2215 g L H locs ls b2216 hI h0c hP hD hS hl
                refine lv_iadd hx hb dX1_clashes_46 ?_
                refine x_any (fun x2217 => ?_)
                refine lv_istore_n (lv' := [(1, .int x2217), (0, .ref (a 8)), (2, .int x2104), (3, .int x2193)]) hx hb dX1_clashes_47 rfl hl (by decide) rfl (fun ls hl => ?_)
                obtain ⟨x2218, e2219q, e2219⟩ : ∃ z : Int32, x2193 + Int32.ofInt (1) = z ∧ z.toInt = x2193.toInt + (1) := ⟨_, rfl, ic_addc rfl (by decide) (by omega) (by omega)⟩
                refine lv_iinc (v := x2218) (lv' := [(3, .int x2218), (1, .int x2217), (0, .ref (a 8)), (2, .int x2104)]) hx hb dX1_clashes_48 hl (k := 3) rfl e2219q (by decide) rfl (fun ls hl => ?_)
                refine lv_goto (tgt := 19) hx hb dX1_clashes_51 (by decide) ?_
                exact ih2196 x2217 x2218 g L H locs ls (by omega) hI h0c hP hD hS (lv_sub hl [2, 1, 3, 0] rfl) (by omega)
              refine lv_icmp_eq (x := x2204) (y := (-1)) (tgt := 45) hx hb dX1_clashes_38 (by decide) (fun c2220 => ?_) (fun c2220 => ?_)
              ·
                have c2220 := icc_eq (m := x2204.toInt) (n := (-1)) rfl (by decide) c2220
                refine lv_iconst (v := 0) hx hb dX1_clashes_45 (by decide) ?_
                exact J2214 0 g L H locs ls (by decide) hI h0c hP hD hS (lv_sub hl [0, 2, 3] rfl)
              ·
                have c2220 := icc_neq (m := x2204.toInt) (n := (-1)) rfl (by decide) c2220
                refine lv_iconst (v := 1) hx hb dX1_clashes_41 (by decide) ?_
                refine lv_goto (tgt := 46) hx hb dX1_clashes_42 (by decide) ?_
                exact J2214 1 g L H locs ls (by decide) hI h0c hP hD hS (lv_sub hl [0, 2, 3] rfl)
        exact lp2195 13 x2103 x2112 g L H locs ls (by omega) hI h0c hP hD hS (lv_sub hl [1, 2, 3, 0] rfl) (by omega)
  have hc_ : (0 : Int32).toInt = 0 := by decide
  exact lp2106 14 0 0 g0 L0 H locs ls (by decide) hI h0c hP hD hS (lv_sub hl [2, 1, 0] rfl) (by omega)
set_option maxHeartbeats 4000000 in
set_option maxRecDepth 100000 in
theorem zX1_firstClash_8 (l : Launch) (G : kG) (sz : Nat) (b : Nat) (a : Nat → Nat) (g0 : Nat → Nat → Int32) (L0 : Nat → Nat → Int64) (hI : zI XT g0) : kM l yX1_firstClash cX1_firstClash 5 (some .int) { frames := 7, cells := 0, slots := 0, locals := 134 } G [.ref (a 8)] (zw G (XS b) 105 a g0 L0) sz (kQi G (S := zS) (fun r u => zI XT u.1 ∧ u.1 0 = g0 0) (fun u => zw G (XS b) 105 a u.1 u.2)) := by
  refine kM.of (by decide) (Nat.le_of_ble_eq_true rfl) ?_
  intro p e s m below meth c A ls H C hr hlk hnm hP hD hS hl
  have C : kC G p s m c cX1_firstClash 5 RX1 A := C
  have hx := C.1
  have hb := C.2.1
  have hl : lv_has ls 5 [(0, .ref (a 8))] := hl
  have h0c : g0 0 = g0 0 := rfl
  obtain ⟨locs, hlocs⟩ : ∃ q : List Loc, q = [] := ⟨_, rfl⟩
  rw [← hlocs] at hS
  rw [← hlocs]
  refine lv_iconst (v := -1) hx hb dX1_firstClash_0 (by decide) ?_
  refine lv_istore_n (lv' := [(1, .int (-1)), (0, .ref (a 8))]) hx hb dX1_firstClash_1 rfl hl (by decide) rfl (fun ls hl => ?_)
  refine lv_iconst (v := 0) hx hb dX1_firstClash_2 (by decide) ?_
  refine lv_istore_n (lv' := [(2, .int 0), (1, .int (-1)), (0, .ref (a 8))]) hx hb dX1_firstClash_3 rfl hl (by decide) rfl (fun ls hl => ?_)
  have lp2260 : ∀ fu : Nat, ∀ (x2257 : Int32) (x2258 : Int32) (g : Nat → Nat → Int32) (L : Nat → Nat → Int64) (H : Heap) (locs : List Loc) (ls : Array Slot), (0 ≤ x2258.toInt ∧ x2258.toInt ≤ 12) → zI XT g → g 0 = g0 0 → va_P G.1 vwCl (zw G (XS b) 105 a g L) H → va_D A (zw G (XS b) 105 a g L) → va_S A s.heap H locs → lv_has ls 5 [(0, .ref (a 8)), (1, .int x2257), (2, .int x2258)] → 12 - x2258.toInt < (fu : Int) → W p l e { frames := 7, cells := 0, slots := 0, locals := 134 } s m [.ref (a 8)].toArray below meth c H locs 0 0 (MQ below ((kQi G (S := zS) (fun r u => zI XT u.1 ∧ u.1 0 = g0 0) (fun u => zw G (XS b) 105 a u.1 u.2)) A) [.ref (a 8)].toArray s 0 0 A) (F0 m 4 ls []) := by
    intro fu
    induction fu with
    | zero => intro x2257 x2258 g L H locs ls b2259 hI h0c hP hD hS hl hm; exact absurd hm (by omega)
    | succ fu ih =>
      intro x2257 x2258 g L H locs ls b2259 hI h0c hP hD hS hl hm
      have ih2261 := ih
      refine lv_iload_n hx hb dX1_firstClash_4 rfl (lv_at hl 2 rfl) ?_
      refine lv_aload_n hx hb dX1_firstClash_5 rfl (lv_at hl 0 rfl) ?_
      refine x_getr (Or.inl fl_X1_37) C hP (by decide) xs_8 rfl dX1_firstClash_6 ?_
      refine x_getT hI rfl (Or.inr fl_X1_45) C hP (by decide) xs_1 rfl dX1_firstClash_9 (fun x2262 e2263 b2264 => ?_)
      refine lv_icmp_ge (x := x2258) (y := x2262) (tgt := 70) hx hb dX1_firstClash_12 (by decide) (fun c2265 => ?_) (fun c2265 => ?_)
      ·
        have c2265 := icc_le (m := x2262.toInt) (n := x2258.toInt) rfl rfl c2265
        refine lv_iload_n hx hb dX1_firstClash_70 rfl (lv_at hl 1 rfl) ?_
        exact x_iret C hr hlk hP hD hS (g, L) rfl ⟨hI, h0c⟩ (Nat.le_of_ble_eq_true rfl) (Nat.le_of_ble_eq_true rfl) dX1_firstClash_71
      ·
        have c2265 := icc_nle (m := x2262.toInt) (n := x2258.toInt) rfl rfl c2265
        refine lv_iload_n hx hb dX1_firstClash_15 rfl (lv_at hl 2 rfl) ?_
        refine lv_iconst (v := 1) hx hb dX1_firstClash_16 (by decide) ?_
        refine lv_iadd hx hb dX1_firstClash_17 ?_
        refine x_val (ic_addc (m := x2258.toInt) (n := 1) rfl (by decide) (by omega) (by omega)) (fun x2266 e2267 => ?_)
        refine lv_istore_n (lv' := [(3, .int x2266), (0, .ref (a 8)), (1, .int x2257), (2, .int x2258)]) hx hb dX1_firstClash_18 rfl hl (by decide) rfl (fun ls hl => ?_)
        have lp2367 : ∀ fu : Nat, ∀ (x2364 : Int32) (x2365 : Int32) (g : Nat → Nat → Int32) (L : Nat → Nat → Int64) (H : Heap) (locs : List Loc) (ls : Array Slot), (1 ≤ x2365.toInt ∧ x2365.toInt ≤ 12) → zI XT g → g 0 = g0 0 → va_P G.1 vwCl (zw G (XS b) 105 a g L) H → va_D A (zw G (XS b) 105 a g L) → va_S A s.heap H locs → lv_has ls 5 [(0, .ref (a 8)), (1, .int x2364), (2, .int x2258), (3, .int x2365)] → 12 - x2365.toInt < (fu : Int) → W p l e { frames := 7, cells := 0, slots := 0, locals := 134 } s m [.ref (a 8)].toArray below meth c H locs 0 0 (MQ below ((kQi G (S := zS) (fun r u => zI XT u.1 ∧ u.1 0 = g0 0) (fun u => zw G (XS b) 105 a u.1 u.2)) A) [.ref (a 8)].toArray s 0 0 A) (F0 m 19 ls []) := by
          intro fu
          induction fu with
          | zero => intro x2364 x2365 g L H locs ls b2366 hI h0c hP hD hS hl hm; exact absurd hm (by omega)
          | succ fu ih =>
            intro x2364 x2365 g L H locs ls b2366 hI h0c hP hD hS hl hm
            have ih2368 := ih
            refine lv_iload_n hx hb dX1_firstClash_19 rfl (lv_at hl 3 rfl) ?_
            refine lv_aload_n hx hb dX1_firstClash_20 rfl (lv_at hl 0 rfl) ?_
            refine x_getr (Or.inl fl_X1_37) C hP (by decide) xs_8 rfl dX1_firstClash_21 ?_
            refine x_getT hI rfl (Or.inr fl_X1_45) C hP (by decide) xs_1 rfl dX1_firstClash_24 (fun x2369 e2370 b2371 => ?_)
            refine lv_icmp_ge (x := x2365) (y := x2369) (tgt := 64) hx hb dX1_firstClash_27 (by decide) (fun c2372 => ?_) (fun c2372 => ?_)
            ·
              have c2372 := icc_le (m := x2369.toInt) (n := x2365.toInt) rfl rfl c2372
              obtain ⟨x2373, e2374q, e2374⟩ : ∃ z : Int32, x2258 + Int32.ofInt (1) = z ∧ z.toInt = x2258.toInt + (1) := ⟨_, rfl, ic_addc rfl (by decide) (by omega) (by omega)⟩
              refine lv_iinc (v := x2373) (lv' := [(2, .int x2373), (0, .ref (a 8)), (1, .int x2364), (3, .int x2365)]) hx hb dX1_firstClash_64 hl (k := 2) rfl e2374q (by decide) rfl (fun ls hl => ?_)
              refine lv_goto (tgt := 4) hx hb dX1_firstClash_67 (by decide) ?_
              exact ih2261 x2364 x2373 g L H locs ls (by omega) hI h0c hP hD hS (lv_sub hl [1, 2, 0] rfl) (by omega)
            ·
              have c2372 := icc_nle (m := x2369.toInt) (n := x2365.toInt) rfl rfl c2372
              refine lv_aload_n hx hb dX1_firstClash_30 rfl (lv_at hl 0 rfl) ?_
              refine lv_iload_n hx hb dX1_firstClash_31 rfl (lv_at hl 2 rfl) ?_
              refine lv_iload_n hx hb dX1_firstClash_32 rfl (lv_at hl 3 rfl) ?_
              refine x_callVi (rest := []) li_X1_159 C (zX1_clashOf_8 l G H.size b a g L hI x2258 x2365 (by omega) (by omega)) (kR rfl) hP hD hS 8 1 rfl (zat (by decide) xs_8) rfl hl.1 rfl (Nat.le_of_ble_eq_true rfl) dX1_firstClash_33 (fun x2376 u2377 H locs hw2375 hP hD hS => ?_)
              obtain ⟨g, L⟩ := u2377
              obtain ⟨hI, h0n⟩ := hw2375
              have h0c : g 0 = g0 0 := h0n.trans h0c
              have hI : zI XT g := hI
              have hP : va_P G.1 vwCl (zw G (XS b) 105 a g L) H := hP
              have hD : va_D A (zw G (XS b) 105 a g L) := hD
              refine lv_istore (lv' := [(4, .int x2376), (0, .ref (a 8)), (1, .int x2364), (2, .int x2258), (3, .int x2365)]) hx hb dX1_firstClash_36 hl (by decide) rfl (fun ls hl => ?_)
              refine lv_iload hx hb dX1_firstClash_38 (lv_at hl 0 rfl) ?_
              refine lv_iconst (v := -1) hx hb dX1_firstClash_40 (by decide) ?_
              have J2389 : ∀ (x2390 : Int32) (g : Nat → Nat → Int32) (L : Nat → Nat → Int64) (H : Heap) (locs : List Loc) (ls : Array Slot), zI XT g → g 0 = g0 0 → va_P G.1 vwCl (zw G (XS b) 105 a g L) H → va_D A (zw G (XS b) 105 a g L) → va_S A s.heap H locs → lv_has ls 5 [(0, .ref (a 8)), (1, .int x2390), (2, .int x2258), (3, .int x2365)] → W p l e { frames := 7, cells := 0, slots := 0, locals := 134 } s m [.ref (a 8)].toArray below meth c H locs 0 0 (MQ below ((kQi G (S := zS) (fun r u => zI XT u.1 ∧ u.1 0 = g0 0) (fun u => zw G (XS b) 105 a u.1 u.2)) A) [.ref (a 8)].toArray s 0 0 A) (F0 m 58 ls []) := by
                intro x2390 g L H locs ls hI h0c hP hD hS hl
                obtain ⟨x2391, e2392q, e2392⟩ : ∃ z : Int32, x2365 + Int32.ofInt (1) = z ∧ z.toInt = x2365.toInt + (1) := ⟨_, rfl, ic_addc rfl (by decide) (by omega) (by omega)⟩
                refine lv_iinc (v := x2391) (lv' := [(3, .int x2391), (0, .ref (a 8)), (1, .int x2390), (2, .int x2258)]) hx hb dX1_firstClash_58 hl (k := 3) rfl e2392q (by decide) rfl (fun ls hl => ?_)
                refine lv_goto (tgt := 19) hx hb dX1_firstClash_61 (by decide) ?_
                exact ih2368 x2390 x2391 g L H locs ls (by omega) hI h0c hP hD hS (lv_sub hl [1, 2, 3, 0] rfl) (by omega)
              refine lv_icmp_eq (x := x2376) (y := (-1)) (tgt := 58) hx hb dX1_firstClash_41 (by decide) (fun c2393 => ?_) (fun c2393 => ?_)
              ·
                have c2393 := icc_eq (m := x2376.toInt) (n := (-1)) rfl (by decide) c2393
                exact J2389 x2364 g L H locs ls hI h0c hP hD hS (lv_sub hl [1, 2, 3, 4] rfl)
              ·
                have c2393 := icc_neq (m := x2376.toInt) (n := (-1)) rfl (by decide) c2393
                refine lv_iload_n hx hb dX1_firstClash_44 rfl (lv_at hl 2 rfl) ?_
                refine lv_iconst (v := -1) hx hb dX1_firstClash_45 (by decide) ?_
                have J2396 : ∀ (g : Nat → Nat → Int32) (L : Nat → Nat → Int64) (H : Heap) (locs : List Loc) (ls : Array Slot), zI XT g → g 0 = g0 0 → va_P G.1 vwCl (zw G (XS b) 105 a g L) H → va_D A (zw G (XS b) 105 a g L) → va_S A s.heap H locs → lv_has ls 5 [(0, .ref (a 8)), (2, .int x2258), (3, .int x2365), (4, .int x2376)] → W p l e { frames := 7, cells := 0, slots := 0, locals := 134 } s m [.ref (a 8)].toArray below meth c H locs 0 0 (MQ below ((kQi G (S := zS) (fun r u => zI XT u.1 ∧ u.1 0 = g0 0) (fun u => zw G (XS b) 105 a u.1 u.2)) A) [.ref (a 8)].toArray s 0 0 A) (F0 m 55 ls []) := by
                  intro g L H locs ls hI h0c hP hD hS hl
                  refine lv_iload hx hb dX1_firstClash_55 (lv_at hl 3 rfl) ?_
                  refine lv_istore_n (lv' := [(1, .int x2376), (0, .ref (a 8)), (2, .int x2258), (3, .int x2365), (4, .int x2376)]) hx hb dX1_firstClash_57 rfl hl (by decide) rfl (fun ls hl => ?_)
                  exact J2389 x2376 g L H locs ls hI h0c hP hD hS (lv_sub hl [1, 0, 2, 3] rfl)
                refine lv_icmp_eq (x := x2364) (y := (-1)) (tgt := 55) hx hb dX1_firstClash_46 (by decide) (fun c2397 => ?_) (fun c2397 => ?_)
                ·
                  have c2397 := icc_eq (m := x2364.toInt) (n := (-1)) rfl (by decide) c2397
                  exact J2396 g L H locs ls hI h0c hP hD hS (lv_sub hl [1, 3, 4, 0] rfl)
                ·
                  have c2397 := icc_neq (m := x2364.toInt) (n := (-1)) rfl (by decide) c2397
                  refine lv_iload hx hb dX1_firstClash_49 (lv_at hl 0 rfl) ?_
                  refine lv_iload_n hx hb dX1_firstClash_51 rfl (lv_at hl 2 rfl) ?_
                  refine lv_icmp_ge (x := x2376) (y := x2364) (tgt := 58) hx hb dX1_firstClash_52 (by decide) (fun c2398 => ?_) (fun c2398 => ?_)
                  ·
                    have c2398 := icc_le (m := x2364.toInt) (n := x2376.toInt) rfl rfl c2398
                    exact J2389 x2364 g L H locs ls hI h0c hP hD hS (lv_sub hl [1, 2, 3, 4] rfl)
                  ·
                    have c2398 := icc_nle (m := x2364.toInt) (n := x2376.toInt) rfl rfl c2398
                    exact J2396 g L H locs ls hI h0c hP hD hS (lv_sub hl [1, 3, 4, 0] rfl)
        exact lp2367 13 x2257 x2266 g L H locs ls (by omega) hI h0c hP hD hS (lv_sub hl [1, 2, 3, 0] rfl) (by omega)
  have hc_ : ((-1) : Int32).toInt = (-1) := by decide
  have hc_ : (0 : Int32).toInt = 0 := by decide
  exact lp2260 14 (-1) 0 g0 L0 H locs ls (by decide) hI h0c hP hD hS (lv_sub hl [2, 1, 0] rfl) (by omega)
set_option maxHeartbeats 4000000 in
set_option maxRecDepth 100000 in
theorem zX1_idleMinutes_8 (l : Launch) (G : kG) (sz : Nat) (b : Nat) (a : Nat → Nat) (g0 : Nat → Nat → Int32) (L0 : Nat → Nat → Int64) (hI : zI XT g0) : kM l yX1_idleMinutes cX1_idleMinutes 7 (some .int) { frames := 8, cells := 0, slots := 0, locals := 154 } G [.ref (a 8)] (zw G (XS b) 105 a g0 L0) sz (kQi G (S := zS) (fun r u => zI XT u.1 ∧ u.1 0 = g0 0) (fun u => zw G (XS b) 105 a u.1 u.2)) := by
  refine kM.of (by decide) (Nat.le_of_ble_eq_true rfl) ?_
  intro p e s m below meth c A ls H C hr hlk hnm hP hD hS hl
  have C : kC G p s m c cX1_idleMinutes 7 RX1 A := C
  have hx := C.1
  have hb := C.2.1
  have hl : lv_has ls 7 [(0, .ref (a 8))] := hl
  have h0c : g0 0 = g0 0 := rfl
  obtain ⟨locs, hlocs⟩ : ∃ q : List Loc, q = [] := ⟨_, rfl⟩
  rw [← hlocs] at hS
  rw [← hlocs]
  refine lv_iconst (v := 0) hx hb dX1_idleMinutes_0 (by decide) ?_
  refine lv_istore_n (lv' := [(1, .int 0), (0, .ref (a 8))]) hx hb dX1_idleMinutes_1 rfl hl (by decide) rfl (fun ls hl => ?_)
  refine lv_iconst (v := 0) hx hb dX1_idleMinutes_2 (by decide) ?_
  refine lv_istore_n (lv' := [(2, .int 0), (1, .int 0), (0, .ref (a 8))]) hx hb dX1_idleMinutes_3 rfl hl (by decide) rfl (fun ls hl => ?_)
  have lp2836 : ∀ fu : Nat, ∀ (x2833 : Int32) (x2834 : Int32) (g : Nat → Nat → Int32) (L : Nat → Nat → Int64) (H : Heap) (locs : List Loc) (ls : Array Slot), (0 ≤ x2834.toInt ∧ x2834.toInt ≤ 12) → zI XT g → g 0 = g0 0 → va_P G.1 vwCl (zw G (XS b) 105 a g L) H → va_D A (zw G (XS b) 105 a g L) → va_S A s.heap H locs → lv_has ls 7 [(0, .ref (a 8)), (1, .int x2833), (2, .int x2834)] → 12 - x2834.toInt < (fu : Int) → W p l e { frames := 8, cells := 0, slots := 0, locals := 154 } s m [.ref (a 8)].toArray below meth c H locs 0 0 (MQ below ((kQi G (S := zS) (fun r u => zI XT u.1 ∧ u.1 0 = g0 0) (fun u => zw G (XS b) 105 a u.1 u.2)) A) [.ref (a 8)].toArray s 0 0 A) (F0 m 4 ls []) := by
    intro fu
    induction fu with
    | zero => intro x2833 x2834 g L H locs ls b2835 hI h0c hP hD hS hl hm; exact absurd hm (by omega)
    | succ fu ih =>
      intro x2833 x2834 g L H locs ls b2835 hI h0c hP hD hS hl hm
      have ih2837 := ih
      refine lv_iload_n hx hb dX1_idleMinutes_4 rfl (lv_at hl 2 rfl) ?_
      refine lv_aload_n hx hb dX1_idleMinutes_5 rfl (lv_at hl 0 rfl) ?_
      refine x_getr (Or.inl fl_X1_37) C hP (by decide) xs_8 rfl dX1_idleMinutes_6 ?_
      refine x_getT hI rfl (Or.inr fl_X1_45) C hP (by decide) xs_1 rfl dX1_idleMinutes_9 (fun x2838 e2839 b2840 => ?_)
      refine lv_icmp_ge (x := x2834) (y := x2838) (tgt := 115) hx hb dX1_idleMinutes_12 (by decide) (fun c2841 => ?_) (fun c2841 => ?_)
      ·
        have c2841 := icc_le (m := x2838.toInt) (n := x2834.toInt) rfl rfl c2841
        refine lv_iload_n hx hb dX1_idleMinutes_115 rfl (lv_at hl 1 rfl) ?_
        exact x_iret C hr hlk hP hD hS (g, L) rfl ⟨hI, h0c⟩ (Nat.le_of_ble_eq_true rfl) (Nat.le_of_ble_eq_true rfl) dX1_idleMinutes_116
      ·
        have c2841 := icc_nle (m := x2838.toInt) (n := x2834.toInt) rfl rfl c2841
        refine lv_aload_n hx hb dX1_idleMinutes_15 rfl (lv_at hl 0 rfl) ?_
        refine x_getr (Or.inl fl_X1_37) C hP (by decide) xs_8 rfl dX1_idleMinutes_16 ?_
        refine x_getr (Or.inr fl_X1_58) C hP (by decide) xs_1 rfl dX1_idleMinutes_19 ?_
        refine lv_iload_n hx hb dX1_idleMinutes_22 rfl (lv_at hl 2 rfl) ?_
        refine x_aaldQ (t := 57) C hP (by decide) xs_17 (by omega) (by omega) dX1_idleMinutes_23 (fun q2842 q2842l q2842h => ?_)
        refine lv_astore_n (lv' := [(3, .ref (a q2842)), (0, .ref (a 8)), (1, .int x2833), (2, .int x2834)]) hx hb dX1_idleMinutes_24 rfl hl (by decide) rfl (fun ls hl => ?_)
        refine lv_iconst (v := 0) hx hb dX1_idleMinutes_25 (by decide) ?_
        refine lv_istore (lv' := [(4, .int 0), (3, .ref (a q2842)), (0, .ref (a 8)), (1, .int x2833), (2, .int x2834)]) hx hb dX1_idleMinutes_26 hl (by decide) rfl (fun ls hl => ?_)
        have lp3086 : ∀ fu : Nat, ∀ (x3083 : Int32) (x3084 : Int32) (g : Nat → Nat → Int32) (L : Nat → Nat → Int64) (H : Heap) (locs : List Loc) (ls : Array Slot), (0 ≤ x3084.toInt ∧ x3084.toInt ≤ 6) → zI XT g → g 0 = g0 0 → va_P G.1 vwCl (zw G (XS b) 105 a g L) H → va_D A (zw G (XS b) 105 a g L) → va_S A s.heap H locs → lv_has ls 7 [(0, .ref (a 8)), (1, .int x3083), (2, .int x2834), (3, .ref (a q2842)), (4, .int x3084)] → 6 - x3084.toInt < (fu : Int) → W p l e { frames := 8, cells := 0, slots := 0, locals := 154 } s m [.ref (a 8)].toArray below meth c H locs 0 0 (MQ below ((kQi G (S := zS) (fun r u => zI XT u.1 ∧ u.1 0 = g0 0) (fun u => zw G (XS b) 105 a u.1 u.2)) A) [.ref (a 8)].toArray s 0 0 A) (F0 m 28 ls []) := by
          intro fu
          induction fu with
          | zero => intro x3083 x3084 g L H locs ls b3085 hI h0c hP hD hS hl hm; exact absurd hm (by omega)
          | succ fu ih =>
            intro x3083 x3084 g L H locs ls b3085 hI h0c hP hD hS hl hm
            have ih3087 := ih
            refine lv_iload hx hb dX1_idleMinutes_28 (lv_at hl 4 rfl) ?_
            refine lv_aload_n hx hb dX1_idleMinutes_30 rfl (lv_at hl 3 rfl) ?_
            refine x_getT hI (xt_les (by omega) (by omega)) (Or.inr fl_X1_87) C hP (by omega) (xs_les (by omega) (by omega)) rfl dX1_idleMinutes_31 (fun x3088 e3089 b3090 => ?_)
            refine lv_icmp_ge (x := x3084) (y := x3088) (tgt := 109) hx hb dX1_idleMinutes_34 (by decide) (fun c3091 => ?_) (fun c3091 => ?_)
            ·
              have c3091 := icc_le (m := x3088.toInt) (n := x3084.toInt) rfl rfl c3091
              obtain ⟨x3092, e3093q, e3093⟩ : ∃ z : Int32, x2834 + Int32.ofInt (1) = z ∧ z.toInt = x2834.toInt + (1) := ⟨_, rfl, ic_addc rfl (by decide) (by omega) (by omega)⟩
              refine lv_iinc (v := x3092) (lv' := [(2, .int x3092), (0, .ref (a 8)), (1, .int x3083), (3, .ref (a q2842)), (4, .int x3084)]) hx hb dX1_idleMinutes_109 hl (k := 2) rfl e3093q (by decide) rfl (fun ls hl => ?_)
              refine lv_goto (tgt := 4) hx hb dX1_idleMinutes_112 (by decide) ?_
              exact ih2837 x3083 x3092 g L H locs ls (by omega) hI h0c hP hD hS (lv_sub hl [1, 2, 0] rfl) (by omega)
            ·
              have c3091 := icc_nle (m := x3088.toInt) (n := x3084.toInt) rfl rfl c3091
              refine lv_aload_n hx hb dX1_idleMinutes_37 rfl (lv_at hl 3 rfl) ?_
              refine x_getr (Or.inr fl_X1_90) C hP (by omega) (xs_les (by omega) (by omega)) rfl dX1_idleMinutes_38 ?_
              refine lv_iload hx hb dX1_idleMinutes_41 (lv_at hl 4 rfl) ?_
              refine x_aldT hI (xt_wai (by omega)) C hP (by omega) (xs_wai (by omega)) (by omega) (by omega) dX1_idleMinutes_43 (fun x3094 e3095 b3096 => ?_)
              refine lv_istore (lv' := [(5, .int x3094), (0, .ref (a 8)), (1, .int x3083), (2, .int x2834), (3, .ref (a q2842)), (4, .int x3084)]) hx hb dX1_idleMinutes_44 hl (by decide) rfl (fun ls hl => ?_)
              refine lv_aload_n hx hb dX1_idleMinutes_46 rfl (lv_at hl 1 rfl) ?_
              refine x_getr (Or.inl fl_X1_15) C hP (by decide) xs_8 rfl dX1_idleMinutes_47 ?_
              refine lv_iload hx hb dX1_idleMinutes_50 (lv_at hl 0 rfl) ?_
              refine x_ald C hP (by decide) xs_44 (by omega) (by omega) dX1_idleMinutes_52 (fun x3097 e3098 => ?_)
              refine lv_aload_n hx hb dX1_idleMinutes_53 rfl (lv_at hl 1 rfl) ?_
              refine lv_iload hx hb dX1_idleMinutes_54 (lv_at hl 0 rfl) ?_
              refine lv_iload_n hx hb dX1_idleMinutes_56 rfl (lv_at hl 3 rfl) ?_
              refine x_callVi (rest := [.int x3097]) li_X1_93 C (zX1_way_8 l G H.size b a g L hI x3094 x2834 (by omega) (by omega)) (kR rfl) hP hD hS 8 1 rfl (zat (by decide) xs_8) rfl hl.1 rfl (Nat.le_of_ble_eq_true rfl) dX1_idleMinutes_57 (fun x3100 u3101 H locs hw3099 hP hD hS => ?_)
              obtain ⟨g, L⟩ := u3101
              obtain ⟨hI, h0n, kk0⟩ := hw3099
              have h0c : g 0 = g0 0 := h0n.trans h0c
              have hI : zI XT g := hI
              have hP : va_P G.1 vwCl (zw G (XS b) 105 a g L) H := hP
              have hD : va_D A (zw G (XS b) 105 a g L) := hD
              refine lv_iadd hx hb dX1_idleMinutes_60 ?_
              refine x_any (fun x3104 => ?_)
              refine lv_aload_n hx hb dX1_idleMinutes_61 rfl (lv_at hl 1 rfl) ?_
              refine x_getr (Or.inl fl_X1_41) C hP (by decide) xs_8 rfl dX1_idleMinutes_62 ?_
              refine x_getr (Or.inr fl_X1_96) C hP (by decide) xs_6 rfl dX1_idleMinutes_65 ?_
              refine lv_iload_n hx hb dX1_idleMinutes_68 rfl (lv_at hl 3 rfl) ?_
              refine x_ald C hP (by decide) xs_26 (by omega) (by omega) dX1_idleMinutes_69 (fun x3105 e3106 => ?_)
              refine lv_isub hx hb dX1_idleMinutes_70 ?_
              refine x_any (fun x3107 => ?_)
              refine lv_istore (lv' := [(6, .int x3107), (5, .int x3094), (0, .ref (a 8)), (1, .int x3083), (2, .int x2834), (3, .ref (a q2842)), (4, .int x3084)]) hx hb dX1_idleMinutes_71 hl (by decide) rfl (fun ls hl => ?_)
              refine lv_iload_n hx hb dX1_idleMinutes_73 rfl (lv_at hl 3 rfl) ?_
              refine lv_aload_n hx hb dX1_idleMinutes_74 rfl (lv_at hl 2 rfl) ?_
              refine x_getr (Or.inl fl_X1_37) C hP (by decide) xs_8 rfl dX1_idleMinutes_75 ?_
              refine x_getr (Or.inr fl_X1_58) C hP (by decide) xs_1 rfl dX1_idleMinutes_78 ?_
              refine lv_iload hx hb dX1_idleMinutes_81 (lv_at hl 1 rfl) ?_
              refine x_aaldQ (t := 57) C hP (by decide) xs_17 (by omega) (by omega) dX1_idleMinutes_83 (fun q3108 q3108l q3108h => ?_)
              refine x_geti (Or.inr fl_X1_134) C hP (by omega) (xs_les (by omega) (by omega)) rfl dX1_idleMinutes_84 (fun x3109 e3110 => ?_)
              refine lv_iconst (v := 0) hx hb dX1_idleMinutes_87 (by decide) ?_
              refine lv_aload_n hx hb dX1_idleMinutes_88 rfl (lv_at hl 2 rfl) ?_
              refine x_getr (Or.inl fl_X1_9) C hP (by decide) xs_8 rfl dX1_idleMinutes_89 ?_
              refine lv_iload_n hx hb dX1_idleMinutes_92 rfl (lv_at hl 4 rfl) ?_
              refine x_ald C hP (by decide) xs_43 (by omega) (by omega) dX1_idleMinutes_93 (fun x3111 e3112 => ?_)
              refine lv_iload hx hb dX1_idleMinutes_94 (lv_at hl 0 rfl) ?_
              refine lv_isub hx hb dX1_idleMinutes_96 ?_
              refine x_any (fun x3113 => ?_)
              refine k_max lm_X1_78 C hl.1 (Nat.le_of_ble_eq_true rfl) (Nat.le_of_ble_eq_true rfl) (Nat.le_of_ble_eq_true rfl) (Nat.le_of_ble_eq_true rfl) dX1_idleMinutes_97 ?_
              refine x_max (mm := 0) (nn := x3113.toInt) (by decide) rfl (fun x3114 e3115 => ?_)
              refine lv_imul hx hb dX1_idleMinutes_100 ?_
              refine x_any (fun x3116 => ?_)
              refine lv_iadd hx hb dX1_idleMinutes_101 ?_
              refine x_any (fun x3117 => ?_)
              refine lv_istore_n (lv' := [(1, .int x3117), (6, .int x3107), (5, .int x3094), (0, .ref (a 8)), (2, .int x2834), (3, .ref (a q2842)), (4, .int x3084)]) hx hb dX1_idleMinutes_102 rfl hl (by decide) rfl (fun ls hl => ?_)
              obtain ⟨x3118, e3119q, e3119⟩ : ∃ z : Int32, x3084 + Int32.ofInt (1) = z ∧ z.toInt = x3084.toInt + (1) := ⟨_, rfl, ic_addc rfl (by decide) (by omega) (by omega)⟩
              refine lv_iinc (v := x3118) (lv' := [(4, .int x3118), (1, .int x3117), (6, .int x3107), (5, .int x3094), (0, .ref (a 8)), (2, .int x2834), (3, .ref (a q2842))]) hx hb dX1_idleMinutes_103 hl (k := 6) rfl e3119q (by decide) rfl (fun ls hl => ?_)
              refine lv_goto (tgt := 28) hx hb dX1_idleMinutes_106 (by decide) ?_
              exact ih3087 x3117 x3118 g L H locs ls (by omega) hI h0c hP hD hS (lv_sub hl [4, 1, 5, 6, 0] rfl) (by omega)
        have hc_ : (0 : Int32).toInt = 0 := by decide
        exact lp3086 8 x2833 0 g L H locs ls (by decide) hI h0c hP hD hS (lv_sub hl [2, 3, 4, 1, 0] rfl) (by omega)
  have hc_ : (0 : Int32).toInt = 0 := by decide
  exact lp2836 14 0 0 g0 L0 H locs ls (by decide) hI h0c hP hD hS (lv_sub hl [2, 1, 0] rfl) (by omega)
