theorem dX8_add_0 : decode cX8_add 0 = .ok (.aload_n 0, 1) := by decide +kernel
theorem dX8_add_1 : decode cX8_add 1 = .ok (.getfield 25, 3) := by decide +kernel
theorem dX8_add_4 : decode cX8_add 4 = .ok (.aload_n 0, 1) := by decide +kernel
theorem dX8_add_5 : decode cX8_add 5 = .ok (.getfield 9, 3) := by decide +kernel
theorem dX8_add_8 : decode cX8_add 8 = .ok (.arraylength, 1) := by decide +kernel
theorem dX8_add_32 : decode cX8_add 32 = .ok (.return_, 1) := by decide +kernel
theorem dX8_add_9 : decode cX8_add 9 = .ok (.if_icmp .ge 23, 3) := by decide +kernel
theorem dX8_add_12 : decode cX8_add 12 = .ok (.aload_n 0, 1) := by decide +kernel
theorem dX8_add_13 : decode cX8_add 13 = .ok (.getfield 9, 3) := by decide +kernel
theorem dX8_add_16 : decode cX8_add 16 = .ok (.aload_n 0, 1) := by decide +kernel
theorem dX8_add_17 : decode cX8_add 17 = .ok (.getfield 25, 3) := by decide +kernel
theorem dX8_add_20 : decode cX8_add 20 = .ok (.iload_n 1, 1) := by decide +kernel
theorem dX8_add_21 : decode cX8_add 21 = .ok (.iastore, 1) := by decide +kernel
theorem dX8_add_22 : decode cX8_add 22 = .ok (.aload_n 0, 1) := by decide +kernel
theorem dX8_add_23 : decode cX8_add 23 = .ok (.dup, 1) := by decide +kernel
theorem dX8_add_24 : decode cX8_add 24 = .ok (.getfield 25, 3) := by decide +kernel
theorem dX8_add_27 : decode cX8_add 27 = .ok (.iconst 1, 1) := by decide +kernel
theorem dX8_add_28 : decode cX8_add 28 = .ok (.iadd, 1) := by decide +kernel
theorem dX8_add_29 : decode cX8_add 29 = .ok (.putfield 25, 3) := by decide +kernel
theorem dX8_close_0 : decode cX8_close 0 = .ok (.aload_n 0, 1) := by decide +kernel
theorem dX8_close_1 : decode cX8_close 1 = .ok (.getfield 21, 3) := by decide +kernel
theorem dX8_close_4 : decode cX8_close 4 = .ok (.iconst 4, 1) := by decide +kernel
theorem dX8_close_31 : decode cX8_close 31 = .ok (.return_, 1) := by decide +kernel
theorem dX8_close_5 : decode cX8_close 5 = .ok (.if_icmp .ge 26, 3) := by decide +kernel
theorem dX8_close_8 : decode cX8_close 8 = .ok (.aload_n 0, 1) := by decide +kernel
theorem dX8_close_9 : decode cX8_close 9 = .ok (.dup, 1) := by decide +kernel
theorem dX8_close_10 : decode cX8_close 10 = .ok (.getfield 21, 3) := by decide +kernel
theorem dX8_close_13 : decode cX8_close 13 = .ok (.iconst 1, 1) := by decide +kernel
theorem dX8_close_14 : decode cX8_close 14 = .ok (.iadd, 1) := by decide +kernel
theorem dX8_close_15 : decode cX8_close 15 = .ok (.putfield 21, 3) := by decide +kernel
theorem dX8_close_18 : decode cX8_close 18 = .ok (.aload_n 0, 1) := by decide +kernel
theorem dX8_close_19 : decode cX8_close 19 = .ok (.getfield 15, 3) := by decide +kernel
theorem dX8_close_22 : decode cX8_close 22 = .ok (.aload_n 0, 1) := by decide +kernel
theorem dX8_close_23 : decode cX8_close 23 = .ok (.getfield 21, 3) := by decide +kernel
theorem dX8_close_26 : decode cX8_close 26 = .ok (.aload_n 0, 1) := by decide +kernel
theorem dX8_close_27 : decode cX8_close 27 = .ok (.getfield 25, 3) := by decide +kernel
theorem dX8_close_30 : decode cX8_close 30 = .ok (.iastore, 1) := by decide +kernel
theorem dX5_clear_0 : decode cX5_clear 0 = .ok (.aload_n 0, 1) := by decide +kernel
theorem dX5_clear_1 : decode cX5_clear 1 = .ok (.iconst 2, 1) := by decide +kernel
theorem tw_103 : (Jvm.Cond.fieldLink "MarshBells$Lesson" (15 : Nat) "MarshBells$Lesson" "sort" "I") ∈ lw_tbl := tk_1 (List.mem_of_getElem? (i := 103) rfl)
theorem fl_X5_15 : kFL RX5 15 5 14 9 := ⟨RX5, TX5, rfl, by decide, inWX5, tw_103⟩
theorem ft_X5_9 : kFT 5 9 .int false RX5 := ⟨RX5, TX5, 14, tyX5, rfl, tyX5_ok, nmX5, rfl, by decide +kernel, rfl⟩
theorem dX5_clear_2 : decode cX5_clear 2 = .ok (.putfield 15, 3) := by decide +kernel
theorem dX5_clear_5 : decode cX5_clear 5 = .ok (.aload_n 0, 1) := by decide +kernel
theorem dX5_clear_6 : decode cX5_clear 6 = .ok (.iconst 0, 1) := by decide +kernel
theorem tw_107 : (Jvm.Cond.fieldLink "MarshBells$Lesson" (19 : Nat) "MarshBells$Lesson" "some" "I") ∈ lw_tbl := tk_1 (List.mem_of_getElem? (i := 107) rfl)
theorem fl_X5_19 : kFL RX5 19 5 14 10 := ⟨RX5, TX5, rfl, by decide, inWX5, tw_107⟩
theorem ft_X5_10 : kFT 5 10 .int false RX5 := ⟨RX5, TX5, 14, tyX5, rfl, tyX5_ok, nmX5, rfl, by decide +kernel, rfl⟩
theorem dX5_clear_7 : decode cX5_clear 7 = .ok (.putfield 19, 3) := by decide +kernel
theorem dX5_clear_10 : decode cX5_clear 10 = .ok (.aload_n 0, 1) := by decide +kernel
theorem dX5_clear_11 : decode cX5_clear 11 = .ok (.iconst 0, 1) := by decide +kernel
theorem tw_76 : (Jvm.Cond.fieldLink "MarshBells$Lesson" (22 : Nat) "MarshBells$Lesson" "waited" "I") ∈ lw_tbl := tk_1 (List.mem_of_getElem? (i := 76) rfl)
theorem fl_X5_22 : kFL RX5 22 5 14 1 := ⟨RX5, TX5, rfl, by decide, inWX5, tw_76⟩
theorem ft_X5_1 : kFT 5 1 .int false RX5 := ⟨RX5, TX5, 14, tyX5, rfl, tyX5_ok, nmX5, rfl, by decide +kernel, rfl⟩
theorem dX5_clear_12 : decode cX5_clear 12 = .ok (.putfield 22, 3) := by decide +kernel
theorem dX5_clear_15 : decode cX5_clear 15 = .ok (.aload_n 0, 1) := by decide +kernel
theorem dX5_clear_16 : decode cX5_clear 16 = .ok (.iconst 0, 1) := by decide +kernel
theorem tw_80 : (Jvm.Cond.fieldLink "MarshBells$Lesson" (25 : Nat) "MarshBells$Lesson" "waitedBits" "I") ∈ lw_tbl := tk_1 (List.mem_of_getElem? (i := 80) rfl)
theorem fl_X5_25 : kFL RX5 25 5 14 2 := ⟨RX5, TX5, rfl, by decide, inWX5, tw_80⟩
theorem ft_X5_2 : kFT 5 2 .int false RX5 := ⟨RX5, TX5, 14, tyX5, rfl, tyX5_ok, nmX5, rfl, by decide +kernel, rfl⟩
theorem dX5_clear_17 : decode cX5_clear 17 = .ok (.putfield 25, 3) := by decide +kernel
theorem dX5_clear_20 : decode cX5_clear 20 = .ok (.return_, 1) := by decide +kernel
theorem tw_73 : (Jvm.Cond.fieldLink "MarshBells$Lesson" (9 : Nat) "MarshBells$Lesson" "waitedFor" "[I") ∈ lw_tbl := tk_1 (List.mem_of_getElem? (i := 73) rfl)
theorem fl_X5_9 : kFL RX5 9 5 14 0 := ⟨RX5, TX5, rfl, by decide, inWX5, tw_73⟩
theorem dX5_waitFor_0 : decode cX5_waitFor 0 = .ok (.aload_n 0, 1) := by decide +kernel
theorem dX5_waitFor_1 : decode cX5_waitFor 1 = .ok (.getfield 22, 3) := by decide +kernel
theorem dX5_waitFor_4 : decode cX5_waitFor 4 = .ok (.bipush 6, 2) := by decide +kernel
theorem dX5_waitFor_41 : decode cX5_waitFor 41 = .ok (.return_, 1) := by decide +kernel
theorem dX5_waitFor_6 : decode cX5_waitFor 6 = .ok (.if_icmp .ge 35, 3) := by decide +kernel
theorem dX5_waitFor_9 : decode cX5_waitFor 9 = .ok (.aload_n 0, 1) := by decide +kernel
theorem dX5_waitFor_10 : decode cX5_waitFor 10 = .ok (.getfield 9, 3) := by decide +kernel
theorem dX5_waitFor_13 : decode cX5_waitFor 13 = .ok (.aload_n 0, 1) := by decide +kernel
theorem dX5_waitFor_14 : decode cX5_waitFor 14 = .ok (.getfield 22, 3) := by decide +kernel
theorem dX5_waitFor_17 : decode cX5_waitFor 17 = .ok (.iload_n 1, 1) := by decide +kernel
theorem dX5_waitFor_18 : decode cX5_waitFor 18 = .ok (.iastore, 1) := by decide +kernel
theorem dX5_waitFor_19 : decode cX5_waitFor 19 = .ok (.aload_n 0, 1) := by decide +kernel
theorem dX5_waitFor_20 : decode cX5_waitFor 20 = .ok (.dup, 1) := by decide +kernel
theorem dX5_waitFor_21 : decode cX5_waitFor 21 = .ok (.getfield 22, 3) := by decide +kernel
theorem dX5_waitFor_24 : decode cX5_waitFor 24 = .ok (.iconst 1, 1) := by decide +kernel
theorem dX5_waitFor_25 : decode cX5_waitFor 25 = .ok (.iadd, 1) := by decide +kernel
theorem dX5_waitFor_26 : decode cX5_waitFor 26 = .ok (.putfield 22, 3) := by decide +kernel
theorem dX5_waitFor_29 : decode cX5_waitFor 29 = .ok (.aload_n 0, 1) := by decide +kernel
theorem dX5_waitFor_30 : decode cX5_waitFor 30 = .ok (.dup, 1) := by decide +kernel
theorem dX5_waitFor_31 : decode cX5_waitFor 31 = .ok (.getfield 25, 3) := by decide +kernel
theorem dX5_waitFor_34 : decode cX5_waitFor 34 = .ok (.iconst 1, 1) := by decide +kernel
theorem dX5_waitFor_35 : decode cX5_waitFor 35 = .ok (.iload_n 1, 1) := by decide +kernel
theorem dX5_waitFor_36 : decode cX5_waitFor 36 = .ok (.ishl, 1) := by decide +kernel
theorem dX5_waitFor_37 : decode cX5_waitFor 37 = .ok (.ior, 1) := by decide +kernel
theorem dX5_waitFor_38 : decode cX5_waitFor 38 = .ok (.putfield 25, 3) := by decide +kernel
theorem tw_207 : (Jvm.Cond.laysFinal "MarshBells$Parser" "MarshBells$Parser" "bytes" "[I") ∈ lw_tbl := tk_1 (List.mem_of_getElem? (i := 207) rfl)
theorem tw_209 : (Jvm.Cond.lays "MarshBells$Parser" "MarshBells$Parser" "plan" "LMarshBells$Plan;") ∈ lw_tbl := tk_1 (List.mem_of_getElem? (i := 209) rfl)
theorem tw_211 : (Jvm.Cond.lays "MarshBells$Parser" "MarshBells$Parser" "length" "I") ∈ lw_tbl := tk_1 (List.mem_of_getElem? (i := 211) rfl)
theorem tw_213 : (Jvm.Cond.lays "MarshBells$Parser" "MarshBells$Parser" "next" "I") ∈ lw_tbl := tk_1 (List.mem_of_getElem? (i := 213) rfl)
theorem tw_215 : (Jvm.Cond.lays "MarshBells$Parser" "MarshBells$Parser" "kind" "I") ∈ lw_tbl := tk_1 (List.mem_of_getElem? (i := 215) rfl)
theorem tw_217 : (Jvm.Cond.lays "MarshBells$Parser" "MarshBells$Parser" "place" "I") ∈ lw_tbl := tk_1 (List.mem_of_getElem? (i := 217) rfl)
theorem tw_219 : (Jvm.Cond.lays "MarshBells$Parser" "MarshBells$Parser" "number" "I") ∈ lw_tbl := tk_1 (List.mem_of_getElem? (i := 219) rfl)
theorem tw_221 : (Jvm.Cond.lays "MarshBells$Parser" "MarshBells$Parser" "fault" "I") ∈ lw_tbl := tk_1 (List.mem_of_getElem? (i := 221) rfl)
theorem tw_223 : (Jvm.Cond.lays "MarshBells$Parser" "MarshBells$Parser" "faultPlace" "I") ∈ lw_tbl := tk_1 (List.mem_of_getElem? (i := 223) rfl)
theorem tw_225 : (Jvm.Cond.lays "MarshBells$Parser" "MarshBells$Parser" "walkTold" "Z") ∈ lw_tbl := tk_1 (List.mem_of_getElem? (i := 225) rfl)
theorem tw_227 : (Jvm.Cond.lays "MarshBells$Parser" "MarshBells$Parser" "stairTold" "Z") ∈ lw_tbl := tk_1 (List.mem_of_getElem? (i := 227) rfl)
theorem inWX6 : ∀ w ∈ u_ws RX6 TX6 11, w ∈ lw_tbl := by
  have e : ∀ k, k < 11 → u_lay RX6 TX6 k ∈ lw_tbl := fun k hk => match k, hk with | 0, _ => tw_207 | 1, _ => tw_209 | 2, _ => tw_211 | 3, _ => tw_213 | 4, _ => tw_215 | 5, _ => tw_217 | 6, _ => tw_219 | 7, _ => tw_221 | 8, _ => tw_223 | 9, _ => tw_225 | 10, _ => tw_227 | k + 11, hk => absurd hk (by omega)
  intro w h
  obtain ⟨k, hk, rfl⟩ := List.mem_map.mp h
  exact e k (List.mem_range.mp hk)
theorem tw_198 : (Jvm.Cond.fieldLink "MarshBells$Parser" (50 : Nat) "MarshBells$Parser" "kind" "I") ∈ lw_tbl := tk_1 (List.mem_of_getElem? (i := 198) rfl)
theorem fl_X6_50 : kFL RX6 50 6 11 4 := ⟨RX6, TX6, rfl, by decide, inWX6, tw_198⟩
theorem tw_197 : (Jvm.Cond.fieldLink "MarshBells$Parser" (34 : Nat) "MarshBells$Parser" "next" "I") ∈ lw_tbl := tk_1 (List.mem_of_getElem? (i := 197) rfl)
theorem fl_X6_34 : kFL RX6 34 6 11 3 := ⟨RX6, TX6, rfl, by decide, inWX6, tw_197⟩
theorem tw_196 : (Jvm.Cond.fieldLink "MarshBells$Parser" (30 : Nat) "MarshBells$Parser" "length" "I") ∈ lw_tbl := tk_1 (List.mem_of_getElem? (i := 196) rfl)
theorem fl_X6_30 : kFL RX6 30 6 11 2 := ⟨RX6, TX6, rfl, by decide, inWX6, tw_196⟩
theorem tw_194 : (Jvm.Cond.fieldLink "MarshBells$Parser" (9 : Nat) "MarshBells$Parser" "bytes" "[I") ∈ lw_tbl := tk_1 (List.mem_of_getElem? (i := 194) rfl)
theorem fl_X6_9 : kFL RX6 9 6 11 0 := ⟨RX6, TX6, rfl, by decide, inWX6, tw_194⟩
theorem dX6_kindOf_0 : decode cX6_kindOf 0 = .ok (.iload_n 0, 1) := by decide +kernel
theorem dX6_kindOf_1 : decode cX6_kindOf 1 = .ok (.bipush 97, 2) := by decide +kernel
theorem dX6_kindOf_14 : decode cX6_kindOf 14 = .ok (.iload_n 0, 1) := by decide +kernel
theorem dX6_kindOf_15 : decode cX6_kindOf 15 = .ok (.bipush 48, 2) := by decide +kernel
theorem dX6_kindOf_28 : decode cX6_kindOf 28 = .ok (.iload_n 0, 1) := by decide +kernel
theorem dX6_kindOf_29 : decode cX6_kindOf 29 = .ok (.tableswitch 105 40 61 #[103, 103, 103, 103, 105, 103, 105, 103, 105, 105, 105, 105, 105, 105, 105, 105, 105, 105, 105, 103, 103, 103], 103) := by decide +kernel
theorem dX6_kindOf_132 : decode cX6_kindOf 132 = .ok (.iconst 3, 1) := by decide +kernel
theorem dX6_kindOf_133 : decode cX6_kindOf 133 = .ok (.ireturn, 1) := by decide +kernel
theorem dX6_kindOf_134 : decode cX6_kindOf 134 = .ok (.iconst 4, 1) := by decide +kernel
theorem dX6_kindOf_135 : decode cX6_kindOf 135 = .ok (.ireturn, 1) := by decide +kernel
theorem dX6_kindOf_17 : decode cX6_kindOf 17 = .ok (.if_icmp .lt 11, 3) := by decide +kernel
theorem dX6_kindOf_20 : decode cX6_kindOf 20 = .ok (.iload_n 0, 1) := by decide +kernel
theorem dX6_kindOf_21 : decode cX6_kindOf 21 = .ok (.bipush 57, 2) := by decide +kernel
theorem dX6_kindOf_23 : decode cX6_kindOf 23 = .ok (.if_icmp .gt 5, 3) := by decide +kernel
theorem dX6_kindOf_26 : decode cX6_kindOf 26 = .ok (.iconst 1, 1) := by decide +kernel
theorem dX6_kindOf_27 : decode cX6_kindOf 27 = .ok (.ireturn, 1) := by decide +kernel
theorem dX6_kindOf_3 : decode cX6_kindOf 3 = .ok (.if_icmp .lt 11, 3) := by decide +kernel
theorem dX6_kindOf_6 : decode cX6_kindOf 6 = .ok (.iload_n 0, 1) := by decide +kernel
theorem dX6_kindOf_7 : decode cX6_kindOf 7 = .ok (.bipush 122, 2) := by decide +kernel
theorem dX6_kindOf_9 : decode cX6_kindOf 9 = .ok (.if_icmp .gt 5, 3) := by decide +kernel
theorem dX6_kindOf_12 : decode cX6_kindOf 12 = .ok (.iconst 2, 1) := by decide +kernel
theorem dX6_kindOf_13 : decode cX6_kindOf 13 = .ok (.ireturn, 1) := by decide +kernel
theorem tw_199 : (Jvm.Cond.fieldLink "MarshBells$Parser" (59 : Nat) "MarshBells$Parser" "place" "I") ∈ lw_tbl := tk_1 (List.mem_of_getElem? (i := 199) rfl)
theorem fl_X6_59 : kFL RX6 59 6 11 5 := ⟨RX6, TX6, rfl, by decide, inWX6, tw_199⟩
theorem tw_200 : (Jvm.Cond.fieldLink "MarshBells$Parser" (62 : Nat) "MarshBells$Parser" "number" "I") ∈ lw_tbl := tk_1 (List.mem_of_getElem? (i := 200) rfl)
theorem fl_X6_62 : kFL RX6 62 6 11 6 := ⟨RX6, TX6, rfl, by decide, inWX6, tw_200⟩
theorem dX6_advance_0 : decode cX6_advance 0 = .ok (.aload_n 0, 1) := by decide +kernel
theorem dX6_advance_1 : decode cX6_advance 1 = .ok (.getfield 50, 3) := by decide +kernel
theorem dX6_advance_4 : decode cX6_advance 4 = .ok (.iconst 5, 1) := by decide +kernel
theorem dX6_advance_5 : decode cX6_advance 5 = .ok (.if_icmp .ne 4, 3) := by decide +kernel
theorem dX6_advance_9 : decode cX6_advance 9 = .ok (.aload_n 0, 1) := by decide +kernel
theorem dX6_advance_10 : decode cX6_advance 10 = .ok (.getfield 34, 3) := by decide +kernel
theorem dX6_advance_13 : decode cX6_advance 13 = .ok (.aload_n 0, 1) := by decide +kernel
theorem dX6_advance_14 : decode cX6_advance 14 = .ok (.getfield 30, 3) := by decide +kernel
theorem dX6_advance_61 : decode cX6_advance 61 = .ok (.aload_n 0, 1) := by decide +kernel
theorem dX6_advance_62 : decode cX6_advance 62 = .ok (.aload_n 0, 1) := by decide +kernel
theorem dX6_advance_63 : decode cX6_advance 63 = .ok (.getfield 34, 3) := by decide +kernel
theorem ft_X6_5 : kFT 6 5 .int false RX6 := ⟨RX6, TX6, 11, tyX6, rfl, tyX6_ok, nmX6, rfl, by decide +kernel, rfl⟩
theorem dX6_advance_66 : decode cX6_advance 66 = .ok (.putfield 59, 3) := by decide +kernel
theorem dX6_advance_69 : decode cX6_advance 69 = .ok (.aload_n 0, 1) := by decide +kernel
theorem dX6_advance_70 : decode cX6_advance 70 = .ok (.iconst 0, 1) := by decide +kernel
theorem ft_X6_6 : kFT 6 6 .int false RX6 := ⟨RX6, TX6, 11, tyX6, rfl, tyX6_ok, nmX6, rfl, by decide +kernel, rfl⟩
theorem dX6_advance_71 : decode cX6_advance 71 = .ok (.putfield 62, 3) := by decide +kernel
theorem dX6_advance_74 : decode cX6_advance 74 = .ok (.aload_n 0, 1) := by decide +kernel
theorem dX6_advance_75 : decode cX6_advance 75 = .ok (.getfield 34, 3) := by decide +kernel
theorem dX6_advance_78 : decode cX6_advance 78 = .ok (.aload_n 0, 1) := by decide +kernel
theorem dX6_advance_79 : decode cX6_advance 79 = .ok (.getfield 30, 3) := by decide +kernel
theorem dX6_advance_82 : decode cX6_advance 82 = .ok (.if_icmp .lt 9, 3) := by decide +kernel
theorem dX6_advance_91 : decode cX6_advance 91 = .ok (.aload_n 0, 1) := by decide +kernel
theorem dX6_advance_92 : decode cX6_advance 92 = .ok (.aload_n 0, 1) := by decide +kernel
theorem dX6_advance_93 : decode cX6_advance 93 = .ok (.getfield 9, 3) := by decide +kernel
theorem dX6_advance_96 : decode cX6_advance 96 = .ok (.aload_n 0, 1) := by decide +kernel
theorem dX6_advance_97 : decode cX6_advance 97 = .ok (.getfield 34, 3) := by decide +kernel
theorem dX6_advance_100 : decode cX6_advance 100 = .ok (.iaload, 1) := by decide +kernel
theorem tw_816 : (Jvm.Cond.methodLink "MarshBells$Parser" (65 : Nat) ({ cls := "MarshBells$Parser", name := "kindOf", desc := "(I)I" } : Jvm.MethodName)) ∈ lw_tbl := tk_4 (List.mem_of_getElem? (i := 96) rfl)
theorem tw_5 : (Jvm.Cond.initialized "MarshBells$Parser") ∈ lw_tbl := tk_1 (List.mem_of_getElem? (i := 5) rfl)
theorem tw_818 : (Jvm.Cond.code ({ cls := "MarshBells$Parser", name := "kindOf", desc := "(I)I" } : Jvm.MethodName) prog_8_method_5_code (1 : Nat) (Option.some Jvm.ClassFile.FieldType.int)) ∈ lw_tbl := tk_4 (List.mem_of_getElem? (i := 98) rfl)
theorem tw_817 : (Jvm.Cond.static ({ cls := "MarshBells$Parser", name := "kindOf", desc := "(I)I" } : Jvm.MethodName)) ∈ lw_tbl := tk_4 (List.mem_of_getElem? (i := 97) rfl)
theorem li_X6_65 : kLS RX6 65 yX6_kindOf cX6_kindOf 1 (some .int) 1 := ⟨tw_816, tw_817, tw_818, tw_5, by decide +kernel⟩
theorem dX6_advance_101 : decode cX6_advance 101 = .ok (.invokestatic 65, 3) := by decide +kernel
theorem ft_X6_4 : kFT 6 4 .int false RX6 := ⟨RX6, TX6, 11, tyX6, rfl, tyX6_ok, nmX6, rfl, by decide +kernel, rfl⟩
theorem dX6_advance_104 : decode cX6_advance 104 = .ok (.putfield 50, 3) := by decide +kernel
theorem dX6_advance_107 : decode cX6_advance 107 = .ok (.aload_n 0, 1) := by decide +kernel
theorem dX6_advance_108 : decode cX6_advance 108 = .ok (.getfield 50, 3) := by decide +kernel
theorem dX6_advance_111 : decode cX6_advance 111 = .ok (.iconst 3, 1) := by decide +kernel
theorem dX6_advance_123 : decode cX6_advance 123 = .ok (.aload_n 0, 1) := by decide +kernel
theorem dX6_advance_124 : decode cX6_advance 124 = .ok (.dup, 1) := by decide +kernel
theorem dX6_advance_125 : decode cX6_advance 125 = .ok (.getfield 34, 3) := by decide +kernel
theorem dX6_advance_128 : decode cX6_advance 128 = .ok (.iconst 1, 1) := by decide +kernel
theorem dX6_advance_129 : decode cX6_advance 129 = .ok (.iadd, 1) := by decide +kernel
theorem ft_X6_3 : kFT 6 3 .int false RX6 := ⟨RX6, TX6, 11, tyX6, rfl, tyX6_ok, nmX6, rfl, by decide +kernel, rfl⟩
theorem dX6_advance_130 : decode cX6_advance 130 = .ok (.putfield 34, 3) := by decide +kernel
theorem dX6_advance_133 : decode cX6_advance 133 = .ok (.return_, 1) := by decide +kernel
theorem dX6_advance_112 : decode cX6_advance 112 = .ok (.if_icmp .eq 11, 3) := by decide +kernel
theorem dX6_advance_115 : decode cX6_advance 115 = .ok (.aload_n 0, 1) := by decide +kernel
theorem dX6_advance_116 : decode cX6_advance 116 = .ok (.getfield 50, 3) := by decide +kernel
theorem dX6_advance_119 : decode cX6_advance 119 = .ok (.iconst 4, 1) := by decide +kernel
theorem dX6_advance_120 : decode cX6_advance 120 = .ok (.if_icmp .ne 14, 3) := by decide +kernel
theorem dX6_advance_134 : decode cX6_advance 134 = .ok (.aload_n 0, 1) := by decide +kernel
theorem dX6_advance_135 : decode cX6_advance 135 = .ok (.getfield 34, 3) := by decide +kernel
theorem dX6_advance_138 : decode cX6_advance 138 = .ok (.aload_n 0, 1) := by decide +kernel
theorem dX6_advance_139 : decode cX6_advance 139 = .ok (.getfield 30, 3) := by decide +kernel
theorem dX6_advance_222 : decode cX6_advance 222 = .ok (.return_, 1) := by decide +kernel
theorem dX6_advance_142 : decode cX6_advance 142 = .ok (.if_icmp .ge 80, 3) := by decide +kernel
theorem dX6_advance_145 : decode cX6_advance 145 = .ok (.aload_n 0, 1) := by decide +kernel
theorem dX6_advance_146 : decode cX6_advance 146 = .ok (.getfield 9, 3) := by decide +kernel
theorem dX6_advance_149 : decode cX6_advance 149 = .ok (.aload_n 0, 1) := by decide +kernel
theorem dX6_advance_150 : decode cX6_advance 150 = .ok (.getfield 34, 3) := by decide +kernel
theorem dX6_advance_153 : decode cX6_advance 153 = .ok (.iaload, 1) := by decide +kernel
theorem dX6_advance_154 : decode cX6_advance 154 = .ok (.invokestatic 65, 3) := by decide +kernel
theorem dX6_advance_157 : decode cX6_advance 157 = .ok (.aload_n 0, 1) := by decide +kernel
theorem dX6_advance_158 : decode cX6_advance 158 = .ok (.getfield 50, 3) := by decide +kernel
theorem dX6_advance_161 : decode cX6_advance 161 = .ok (.if_icmp .ne 61, 3) := by decide +kernel
theorem dX6_advance_164 : decode cX6_advance 164 = .ok (.aload_n 0, 1) := by decide +kernel
theorem dX6_advance_165 : decode cX6_advance 165 = .ok (.getfield 50, 3) := by decide +kernel
theorem dX6_advance_168 : decode cX6_advance 168 = .ok (.iconst 1, 1) := by decide +kernel
theorem dX6_advance_209 : decode cX6_advance 209 = .ok (.aload_n 0, 1) := by decide +kernel
theorem dX6_advance_210 : decode cX6_advance 210 = .ok (.dup, 1) := by decide +kernel
theorem dX6_advance_211 : decode cX6_advance 211 = .ok (.getfield 34, 3) := by decide +kernel
theorem dX6_advance_214 : decode cX6_advance 214 = .ok (.iconst 1, 1) := by decide +kernel
theorem dX6_advance_215 : decode cX6_advance 215 = .ok (.iadd, 1) := by decide +kernel
theorem dX6_advance_216 : decode cX6_advance 216 = .ok (.putfield 34, 3) := by decide +kernel
theorem dX6_advance_219 : decode cX6_advance 219 = .ok (.goto (-85), 3) := by decide +kernel
theorem dX6_advance_169 : decode cX6_advance 169 = .ok (.if_icmp .ne 40, 3) := by decide +kernel
theorem dX6_advance_172 : decode cX6_advance 172 = .ok (.aload_n 0, 1) := by decide +kernel
theorem dX6_advance_173 : decode cX6_advance 173 = .ok (.getfield 34, 3) := by decide +kernel
theorem dX6_advance_176 : decode cX6_advance 176 = .ok (.aload_n 0, 1) := by decide +kernel
theorem dX6_advance_177 : decode cX6_advance 177 = .ok (.getfield 59, 3) := by decide +kernel
theorem dX6_advance_180 : decode cX6_advance 180 = .ok (.isub, 1) := by decide +kernel
theorem dX6_advance_181 : decode cX6_advance 181 = .ok (.iconst 4, 1) := by decide +kernel
theorem dX6_advance_182 : decode cX6_advance 182 = .ok (.if_icmp .ge 27, 3) := by decide +kernel
theorem dX6_advance_185 : decode cX6_advance 185 = .ok (.aload_n 0, 1) := by decide +kernel
theorem dX6_advance_186 : decode cX6_advance 186 = .ok (.aload_n 0, 1) := by decide +kernel
theorem dX6_advance_187 : decode cX6_advance 187 = .ok (.getfield 62, 3) := by decide +kernel
theorem dX6_advance_190 : decode cX6_advance 190 = .ok (.bipush 10, 2) := by decide +kernel
theorem dX6_advance_192 : decode cX6_advance 192 = .ok (.imul, 1) := by decide +kernel
theorem dX6_advance_193 : decode cX6_advance 193 = .ok (.aload_n 0, 1) := by decide +kernel
theorem dX6_advance_194 : decode cX6_advance 194 = .ok (.getfield 9, 3) := by decide +kernel
theorem dX6_advance_197 : decode cX6_advance 197 = .ok (.aload_n 0, 1) := by decide +kernel
theorem dX6_advance_198 : decode cX6_advance 198 = .ok (.getfield 34, 3) := by decide +kernel
theorem dX6_advance_201 : decode cX6_advance 201 = .ok (.iaload, 1) := by decide +kernel
theorem dX6_advance_202 : decode cX6_advance 202 = .ok (.iadd, 1) := by decide +kernel
theorem dX6_advance_203 : decode cX6_advance 203 = .ok (.bipush 48, 2) := by decide +kernel
theorem dX6_advance_205 : decode cX6_advance 205 = .ok (.isub, 1) := by decide +kernel
theorem dX6_advance_206 : decode cX6_advance 206 = .ok (.putfield 62, 3) := by decide +kernel
theorem dX6_advance_85 : decode cX6_advance 85 = .ok (.aload_n 0, 1) := by decide +kernel
theorem dX6_advance_86 : decode cX6_advance 86 = .ok (.iconst 0, 1) := by decide +kernel
theorem dX6_advance_87 : decode cX6_advance 87 = .ok (.putfield 50, 3) := by decide +kernel
theorem dX6_advance_90 : decode cX6_advance 90 = .ok (.return_, 1) := by decide +kernel
theorem dX6_advance_17 : decode cX6_advance 17 = .ok (.if_icmp .ge 44, 3) := by decide +kernel
theorem dX6_advance_20 : decode cX6_advance 20 = .ok (.aload_n 0, 1) := by decide +kernel
theorem dX6_advance_21 : decode cX6_advance 21 = .ok (.getfield 9, 3) := by decide +kernel
theorem dX6_advance_24 : decode cX6_advance 24 = .ok (.aload_n 0, 1) := by decide +kernel
theorem dX6_advance_25 : decode cX6_advance 25 = .ok (.getfield 34, 3) := by decide +kernel
theorem dX6_advance_28 : decode cX6_advance 28 = .ok (.iaload, 1) := by decide +kernel
theorem dX6_advance_29 : decode cX6_advance 29 = .ok (.bipush 32, 2) := by decide +kernel
theorem dX6_advance_48 : decode cX6_advance 48 = .ok (.aload_n 0, 1) := by decide +kernel
theorem dX6_advance_49 : decode cX6_advance 49 = .ok (.dup, 1) := by decide +kernel
theorem dX6_advance_50 : decode cX6_advance 50 = .ok (.getfield 34, 3) := by decide +kernel
theorem dX6_advance_53 : decode cX6_advance 53 = .ok (.iconst 1, 1) := by decide +kernel
theorem dX6_advance_54 : decode cX6_advance 54 = .ok (.iadd, 1) := by decide +kernel
theorem dX6_advance_55 : decode cX6_advance 55 = .ok (.putfield 34, 3) := by decide +kernel
theorem dX6_advance_58 : decode cX6_advance 58 = .ok (.goto (-49), 3) := by decide +kernel
theorem dX6_advance_31 : decode cX6_advance 31 = .ok (.if_icmp .eq 17, 3) := by decide +kernel
theorem dX6_advance_34 : decode cX6_advance 34 = .ok (.aload_n 0, 1) := by decide +kernel
theorem dX6_advance_35 : decode cX6_advance 35 = .ok (.getfield 9, 3) := by decide +kernel
theorem dX6_advance_38 : decode cX6_advance 38 = .ok (.aload_n 0, 1) := by decide +kernel
theorem dX6_advance_39 : decode cX6_advance 39 = .ok (.getfield 34, 3) := by decide +kernel
theorem dX6_advance_42 : decode cX6_advance 42 = .ok (.iaload, 1) := by decide +kernel
theorem dX6_advance_43 : decode cX6_advance 43 = .ok (.bipush 10, 2) := by decide +kernel
theorem dX6_advance_45 : decode cX6_advance 45 = .ok (.if_icmp .ne 16, 3) := by decide +kernel
theorem dX6_advance_8 : decode cX6_advance 8 = .ok (.return_, 1) := by decide +kernel
theorem dX6_refuse_0 : decode cX6_refuse 0 = .ok (.aload_n 0, 1) := by decide +kernel
theorem dX6_refuse_1 : decode cX6_refuse 1 = .ok (.getfield 50, 3) := by decide +kernel
theorem dX6_refuse_4 : decode cX6_refuse 4 = .ok (.iconst 5, 1) := by decide +kernel
theorem dX6_refuse_26 : decode cX6_refuse 26 = .ok (.return_, 1) := by decide +kernel
theorem dX6_refuse_5 : decode cX6_refuse 5 = .ok (.if_icmp .eq 21, 3) := by decide +kernel
theorem dX6_refuse_8 : decode cX6_refuse 8 = .ok (.aload_n 0, 1) := by decide +kernel
theorem dX6_refuse_9 : decode cX6_refuse 9 = .ok (.iload_n 1, 1) := by decide +kernel
theorem tw_201 : (Jvm.Cond.fieldLink "MarshBells$Parser" (37 : Nat) "MarshBells$Parser" "fault" "I") ∈ lw_tbl := tk_1 (List.mem_of_getElem? (i := 201) rfl)
theorem fl_X6_37 : kFL RX6 37 6 11 7 := ⟨RX6, TX6, rfl, by decide, inWX6, tw_201⟩
theorem ft_X6_7 : kFT 6 7 .int false RX6 := ⟨RX6, TX6, 11, tyX6, rfl, tyX6_ok, nmX6, rfl, by decide +kernel, rfl⟩
theorem dX6_refuse_10 : decode cX6_refuse 10 = .ok (.putfield 37, 3) := by decide +kernel
theorem dX6_refuse_13 : decode cX6_refuse 13 = .ok (.aload_n 0, 1) := by decide +kernel
theorem dX6_refuse_14 : decode cX6_refuse 14 = .ok (.aload_n 0, 1) := by decide +kernel
theorem dX6_refuse_15 : decode cX6_refuse 15 = .ok (.getfield 59, 3) := by decide +kernel
theorem tw_203 : (Jvm.Cond.fieldLink "MarshBells$Parser" (40 : Nat) "MarshBells$Parser" "faultPlace" "I") ∈ lw_tbl := tk_1 (List.mem_of_getElem? (i := 203) rfl)
theorem fl_X6_40 : kFL RX6 40 6 11 8 := ⟨RX6, TX6, rfl, by decide, inWX6, tw_203⟩
theorem ft_X6_8 : kFT 6 8 .int false RX6 := ⟨RX6, TX6, 11, tyX6, rfl, tyX6_ok, nmX6, rfl, by decide +kernel, rfl⟩
theorem dX6_refuse_18 : decode cX6_refuse 18 = .ok (.putfield 40, 3) := by decide +kernel
theorem dX6_refuse_21 : decode cX6_refuse 21 = .ok (.aload_n 0, 1) := by decide +kernel
theorem dX6_refuse_22 : decode cX6_refuse 22 = .ok (.iconst 5, 1) := by decide +kernel
theorem dX6_refuse_23 : decode cX6_refuse 23 = .ok (.putfield 50, 3) := by decide +kernel
theorem dX6_isTooLong_0 : decode cX6_isTooLong 0 = .ok (.aload_n 0, 1) := by decide +kernel
theorem dX6_isTooLong_1 : decode cX6_isTooLong 1 = .ok (.getfield 34, 3) := by decide +kernel
theorem dX6_isTooLong_4 : decode cX6_isTooLong 4 = .ok (.aload_n 0, 1) := by decide +kernel
theorem dX6_isTooLong_5 : decode cX6_isTooLong 5 = .ok (.getfield 59, 3) := by decide +kernel
theorem dX6_isTooLong_8 : decode cX6_isTooLong 8 = .ok (.isub, 1) := by decide +kernel
theorem dX6_isTooLong_9 : decode cX6_isTooLong 9 = .ok (.iconst 4, 1) := by decide +kernel
theorem dX6_isTooLong_18 : decode cX6_isTooLong 18 = .ok (.ireturn, 1) := by decide +kernel
theorem dX6_isTooLong_10 : decode cX6_isTooLong 10 = .ok (.if_icmp .le 7, 3) := by decide +kernel
theorem dX6_isTooLong_17 : decode cX6_isTooLong 17 = .ok (.iconst 0, 1) := by decide +kernel
theorem dX6_isTooLong_13 : decode cX6_isTooLong 13 = .ok (.iconst 1, 1) := by decide +kernel
theorem dX6_isTooLong_14 : decode cX6_isTooLong 14 = .ok (.goto 4, 3) := by decide +kernel
theorem dX6_readNumber_0 : decode cX6_readNumber 0 = .ok (.aload_n 0, 1) := by decide +kernel
theorem dX6_readNumber_1 : decode cX6_readNumber 1 = .ok (.getfield 50, 3) := by decide +kernel
theorem dX6_readNumber_4 : decode cX6_readNumber 4 = .ok (.iconst 1, 1) := by decide +kernel
theorem dX6_readNumber_5 : decode cX6_readNumber 5 = .ok (.if_icmp .eq 10, 3) := by decide +kernel
theorem dX6_readNumber_15 : decode cX6_readNumber 15 = .ok (.aload_n 0, 1) := by decide +kernel
theorem tw_892 : (Jvm.Cond.methodLink "MarshBells$Parser" (82 : Nat) ({ cls := "MarshBells$Parser", name := "isTooLong", desc := "()Z" } : Jvm.MethodName)) ∈ lw_tbl := tk_4 (List.mem_of_getElem? (i := 172) rfl)
theorem tw_895 : (Jvm.Cond.code ({ cls := "MarshBells$Parser", name := "isTooLong", desc := "()Z" } : Jvm.MethodName) prog_8_method_8_code (1 : Nat) (Option.some Jvm.ClassFile.FieldType.boolean)) ∈ lw_tbl := tk_4 (List.mem_of_getElem? (i := 175) rfl)
theorem tw_894 : (Jvm.Cond.instanceMethod ({ cls := "MarshBells$Parser", name := "isTooLong", desc := "()Z" } : Jvm.MethodName)) ∈ lw_tbl := tk_4 (List.mem_of_getElem? (i := 174) rfl)
theorem se_X6_isTooLong : Cond.selects RX6 yX6_isTooLong yX6_isTooLong ∈ lw_tbl := List.mem_append_left _ (List.mem_of_getElem? (i := 43) rfl)
theorem li_X6_82 : kLV RX6 82 RX6 yX6_isTooLong cX6_isTooLong 1 (some .boolean) 0 := ⟨tw_892, tw_894, se_X6_isTooLong, tw_895, tw_5, by decide +kernel⟩
theorem dX6_readNumber_16 : decode cX6_readNumber 16 = .ok (.invokevirtual 82, 3) := by decide +kernel
theorem dX6_readNumber_38 : decode cX6_readNumber 38 = .ok (.aload_n 0, 1) := by decide +kernel
theorem dX6_readNumber_39 : decode cX6_readNumber 39 = .ok (.iconst 2, 1) := by decide +kernel
theorem tw_880 : (Jvm.Cond.methodLink "MarshBells$Parser" (78 : Nat) ({ cls := "MarshBells$Parser", name := "refuse", desc := "(I)V" } : Jvm.MethodName)) ∈ lw_tbl := tk_4 (List.mem_of_getElem? (i := 160) rfl)
theorem tw_883 : (Jvm.Cond.code ({ cls := "MarshBells$Parser", name := "refuse", desc := "(I)V" } : Jvm.MethodName) prog_8_method_3_code (2 : Nat) (Option.none : Option Jvm.ClassFile.FieldType)) ∈ lw_tbl := tk_4 (List.mem_of_getElem? (i := 163) rfl)
theorem tw_882 : (Jvm.Cond.instanceMethod ({ cls := "MarshBells$Parser", name := "refuse", desc := "(I)V" } : Jvm.MethodName)) ∈ lw_tbl := tk_4 (List.mem_of_getElem? (i := 162) rfl)
theorem se_X6_refuse : Cond.selects RX6 yX6_refuse yX6_refuse ∈ lw_tbl := List.mem_append_left _ (List.mem_of_getElem? (i := 40) rfl)
theorem li_X6_78 : kLV RX6 78 RX6 yX6_refuse cX6_refuse 2 none 1 := ⟨tw_880, tw_882, se_X6_refuse, tw_883, tw_5, by decide +kernel⟩
theorem dX6_readNumber_40 : decode cX6_readNumber 40 = .ok (.invokevirtual 78, 3) := by decide +kernel
theorem dX6_readNumber_43 : decode cX6_readNumber 43 = .ok (.iconst 0, 1) := by decide +kernel
theorem dX6_readNumber_44 : decode cX6_readNumber 44 = .ok (.ireturn, 1) := by decide +kernel
theorem dX6_readNumber_19 : decode cX6_readNumber 19 = .ok (.ifCond .ne 19, 3) := by decide +kernel
theorem dX6_readNumber_22 : decode cX6_readNumber 22 = .ok (.aload_n 0, 1) := by decide +kernel
theorem dX6_readNumber_23 : decode cX6_readNumber 23 = .ok (.getfield 62, 3) := by decide +kernel
theorem dX6_readNumber_26 : decode cX6_readNumber 26 = .ok (.iload_n 1, 1) := by decide +kernel
theorem dX6_readNumber_27 : decode cX6_readNumber 27 = .ok (.if_icmp .lt 11, 3) := by decide +kernel
theorem dX6_readNumber_30 : decode cX6_readNumber 30 = .ok (.aload_n 0, 1) := by decide +kernel
theorem dX6_readNumber_31 : decode cX6_readNumber 31 = .ok (.getfield 62, 3) := by decide +kernel
theorem dX6_readNumber_34 : decode cX6_readNumber 34 = .ok (.iload_n 2, 1) := by decide +kernel
theorem dX6_readNumber_35 : decode cX6_readNumber 35 = .ok (.if_icmp .le 10, 3) := by decide +kernel
theorem dX6_readNumber_45 : decode cX6_readNumber 45 = .ok (.aload_n 0, 1) := by decide +kernel
theorem dX6_readNumber_46 : decode cX6_readNumber 46 = .ok (.getfield 62, 3) := by decide +kernel
theorem dX6_readNumber_49 : decode cX6_readNumber 49 = .ok (.istore_n 3, 1) := by decide +kernel
theorem dX6_readNumber_50 : decode cX6_readNumber 50 = .ok (.aload_n 0, 1) := by decide +kernel
theorem tw_812 : (Jvm.Cond.methodLink "MarshBells$Parser" (53 : Nat) ({ cls := "MarshBells$Parser", name := "advance", desc := "()V" } : Jvm.MethodName)) ∈ lw_tbl := tk_4 (List.mem_of_getElem? (i := 92) rfl)
theorem tw_815 : (Jvm.Cond.code ({ cls := "MarshBells$Parser", name := "advance", desc := "()V" } : Jvm.MethodName) prog_8_method_4_code (1 : Nat) (Option.none : Option Jvm.ClassFile.FieldType)) ∈ lw_tbl := tk_4 (List.mem_of_getElem? (i := 95) rfl)
theorem tw_814 : (Jvm.Cond.instanceMethod ({ cls := "MarshBells$Parser", name := "advance", desc := "()V" } : Jvm.MethodName)) ∈ lw_tbl := tk_4 (List.mem_of_getElem? (i := 94) rfl)
theorem se_X6_advance : Cond.selects RX6 yX6_advance yX6_advance ∈ lw_tbl := List.mem_append_left _ (List.mem_of_getElem? (i := 36) rfl)
theorem li_X6_53 : kLV RX6 53 RX6 yX6_advance cX6_advance 1 none 0 := ⟨tw_812, tw_814, se_X6_advance, tw_815, tw_5, by decide +kernel⟩
theorem dX6_readNumber_51 : decode cX6_readNumber 51 = .ok (.invokevirtual 53, 3) := by decide +kernel
theorem dX6_readNumber_54 : decode cX6_readNumber 54 = .ok (.iload_n 3, 1) := by decide +kernel
theorem dX6_readNumber_55 : decode cX6_readNumber 55 = .ok (.ireturn, 1) := by decide +kernel
theorem dX6_readNumber_8 : decode cX6_readNumber 8 = .ok (.aload_n 0, 1) := by decide +kernel
theorem dX6_readNumber_9 : decode cX6_readNumber 9 = .ok (.iconst 1, 1) := by decide +kernel
theorem dX6_readNumber_10 : decode cX6_readNumber 10 = .ok (.invokevirtual 78, 3) := by decide +kernel
theorem dX6_readNumber_13 : decode cX6_readNumber 13 = .ok (.iconst 0, 1) := by decide +kernel
theorem dX6_readNumber_14 : decode cX6_readNumber 14 = .ok (.ireturn, 1) := by decide +kernel
theorem dX6_isSignNow_0 : decode cX6_isSignNow 0 = .ok (.aload_n 0, 1) := by decide +kernel
theorem dX6_isSignNow_1 : decode cX6_isSignNow 1 = .ok (.getfield 50, 3) := by decide +kernel
theorem dX6_isSignNow_4 : decode cX6_isSignNow 4 = .ok (.iconst 3, 1) := by decide +kernel
theorem dX6_isSignNow_26 : decode cX6_isSignNow 26 = .ok (.ireturn, 1) := by decide +kernel
theorem dX6_isSignNow_25 : decode cX6_isSignNow 25 = .ok (.iconst 0, 1) := by decide +kernel
theorem dX6_isSignNow_5 : decode cX6_isSignNow 5 = .ok (.if_icmp .ne 20, 3) := by decide +kernel
theorem dX6_isSignNow_8 : decode cX6_isSignNow 8 = .ok (.aload_n 0, 1) := by decide +kernel
theorem dX6_isSignNow_9 : decode cX6_isSignNow 9 = .ok (.getfield 9, 3) := by decide +kernel
theorem dX6_isSignNow_12 : decode cX6_isSignNow 12 = .ok (.aload_n 0, 1) := by decide +kernel
theorem dX6_isSignNow_13 : decode cX6_isSignNow 13 = .ok (.getfield 59, 3) := by decide +kernel
theorem dX6_isSignNow_16 : decode cX6_isSignNow 16 = .ok (.iaload, 1) := by decide +kernel
theorem dX6_isSignNow_17 : decode cX6_isSignNow 17 = .ok (.iload_n 1, 1) := by decide +kernel
theorem dX6_isSignNow_18 : decode cX6_isSignNow 18 = .ok (.if_icmp .ne 7, 3) := by decide +kernel
theorem dX6_isSignNow_21 : decode cX6_isSignNow 21 = .ok (.iconst 1, 1) := by decide +kernel
theorem dX6_isSignNow_22 : decode cX6_isSignNow 22 = .ok (.goto 4, 3) := by decide +kernel
theorem dX6_readSign_0 : decode cX6_readSign 0 = .ok (.aload_n 0, 1) := by decide +kernel
theorem dX6_readSign_1 : decode cX6_readSign 1 = .ok (.iload_n 1, 1) := by decide +kernel
theorem tw_932 : (Jvm.Cond.methodLink "MarshBells$Parser" (86 : Nat) ({ cls := "MarshBells$Parser", name := "isSignNow", desc := "(C)Z" } : Jvm.MethodName)) ∈ lw_tbl := tk_4 (List.mem_of_getElem? (i := 212) rfl)
theorem tw_935 : (Jvm.Cond.code ({ cls := "MarshBells$Parser", name := "isSignNow", desc := "(C)Z" } : Jvm.MethodName) prog_8_method_7_code (2 : Nat) (Option.some Jvm.ClassFile.FieldType.boolean)) ∈ lw_tbl := tk_4 (List.mem_of_getElem? (i := 215) rfl)
theorem tw_934 : (Jvm.Cond.instanceMethod ({ cls := "MarshBells$Parser", name := "isSignNow", desc := "(C)Z" } : Jvm.MethodName)) ∈ lw_tbl := tk_4 (List.mem_of_getElem? (i := 214) rfl)
theorem se_X6_isSignNow : Cond.selects RX6 yX6_isSignNow yX6_isSignNow ∈ lw_tbl := List.mem_append_left _ (List.mem_of_getElem? (i := 51) rfl)
theorem li_X6_86 : kLV RX6 86 RX6 yX6_isSignNow cX6_isSignNow 2 (some .boolean) 1 := ⟨tw_932, tw_934, se_X6_isSignNow, tw_935, tw_5, by decide +kernel⟩
theorem dX6_readSign_2 : decode cX6_readSign 2 = .ok (.invokevirtual 86, 3) := by decide +kernel
theorem dX6_readSign_20 : decode cX6_readSign 20 = .ok (.return_, 1) := by decide +kernel
theorem dX6_readSign_5 : decode cX6_readSign 5 = .ok (.ifCond .eq 10, 3) := by decide +kernel
theorem dX6_readSign_15 : decode cX6_readSign 15 = .ok (.aload_n 0, 1) := by decide +kernel
theorem dX6_readSign_16 : decode cX6_readSign 16 = .ok (.iconst 1, 1) := by decide +kernel
theorem dX6_readSign_17 : decode cX6_readSign 17 = .ok (.invokevirtual 78, 3) := by decide +kernel
theorem dX6_readSign_8 : decode cX6_readSign 8 = .ok (.aload_n 0, 1) := by decide +kernel
theorem dX6_readSign_9 : decode cX6_readSign 9 = .ok (.invokevirtual 53, 3) := by decide +kernel
theorem dX6_readSign_12 : decode cX6_readSign 12 = .ok (.goto 8, 3) := by decide +kernel
def fX8_add_4_p32 (fu : Nat) (g : Nat → Nat → Int32) (L : Nat → Nat → Int64) : Option ((Unit) × zS) :=
  some ((), (g, L))
def fX8_add_4 (fu : Nat) (p1 : Int32) (g : Nat → Nat → Int32) (L : Nat → Nat → Int64) : Option ((Unit) × zS) :=
  if 700 ≤ (g 4 4) then fX8_add_4_p32 fu g L
  else ck (g 4 4) 700 (sti g 22 (Int32.toNatClampNeg (g 4 4)) p1 (fun g2 =>
  sti g2 4 4 ((g2 4 4) + 1) (fun g3 =>
  fX8_add_4_p32 fu g3 L)))
set_option maxHeartbeats 4000000 in
set_option maxRecDepth 100000 in
theorem rX8_add_4 (l : Launch) (G : kG) (sz : Nat) (b : Nat) (a : Nat → Nat) (fu : Nat) (g : Nat → Nat → Int32) (L : Nat → Nat → Int64) (p1 : Int32) (res : Unit) (s9 : zS) (h : fX8_add_4 fu p1 g L = some (res, s9)) : kM l yX8_add cX8_add 2 none { frames := 6, cells := 0, slots := 0, locals := 110 } G [.ref (a 4), .int p1] (zw G (XS b) 105 a g L) sz (kQv G (S := Unit) (fun _ => True) (fun _ => zw G (XS b) 105 a s9.1 s9.2)) := by
  refine kM.of (by decide) (Nat.le_of_ble_eq_true rfl) ?_
  intro p e s m below meth c A ls H C hr hlk hnm hP hD hS hl
  have C : kC G p s m c cX8_add 2 RX8 A := C
  have hx := C.1
  have hb := C.2.1
  have hl : lv_has ls 2 [(0, .ref (a 4)), (1, .int p1)] := hl
  obtain ⟨locs, hlocs⟩ : ∃ q : List Loc, q = [] := ⟨_, rfl⟩
  rw [← hlocs] at hS
  rw [← hlocs]
  unfold fX8_add_4 at h
  refine lv_aload_n hx hb dX8_add_0 rfl (lv_at hl 0 rfl) ?_
  refine x_getv (v := .int (g 4 4)) (Or.inl fl_X8_25) C hP (by decide) xs_4 rfl dX8_add_1 ?_
  refine lv_aload_n hx hb dX8_add_4 rfl (lv_at hl 0 rfl) ?_
  refine x_getr (Or.inl fl_X8_9) C hP (by decide) xs_4 rfl dX8_add_5 ?_
  refine x_alen (v := 700) C hP (by decide) xs_22 rfl dX8_add_8 ?_
  have J32 : ∀ (g : Nat → Nat → Int32) (L : Nat → Nat → Int64) (H : Heap) (locs : List Loc) (ls : Array Slot), fX8_add_4_p32 fu g L = some (res, s9) → va_P G.1 vwCl (zw G (XS b) 105 a g L) H → va_D A (zw G (XS b) 105 a g L) → va_S A s.heap H locs → lv_has ls 2 [] → W p l e { frames := 6, cells := 0, slots := 0, locals := 110 } s m [.ref (a 4), .int p1].toArray below meth c H locs 0 0 (MQ below ((kQv G (S := Unit) (fun _ => True) (fun _ => zw G (XS b) 105 a s9.1 s9.2)) A) [.ref (a 4), .int p1].toArray s 0 0 A) (F0 m 32 ls []) := by
    intro g L H locs ls h hP hD hS hl
    unfold fX8_add_4_p32 at h
    exact y_vret C hr hlk hP hD hS h (Nat.le_of_ble_eq_true rfl) (Nat.le_of_ble_eq_true rfl) dX8_add_32
  refine lv_icmp_ge (x := (g 4 4)) (y := 700) (tgt := 32) hx hb dX8_add_9 (by decide) (fun c1 => ?_) (fun c1 => ?_)
  ·
    have h := ite_t c1 h
    exact J32 g L H locs ls h hP hD hS (lv_sub hl [] rfl)
  ·
    have h := ite_e c1 h
    refine lv_aload_n hx hb dX8_add_12 rfl (lv_at hl 0 rfl) ?_
    refine x_getr (Or.inl fl_X8_9) C hP (by decide) xs_4 rfl dX8_add_13 ?_
    refine lv_aload_n hx hb dX8_add_16 rfl (lv_at hl 0 rfl) ?_
    refine x_getv (v := .int (g 4 4)) (Or.inl fl_X8_25) C hP (by decide) xs_4 rfl dX8_add_17 ?_
    refine lv_iload_n hx hb dX8_add_20 rfl (lv_at hl 1 rfl) ?_
    refine y_ast C hP hD hS (by decide) xs_22 dX8_add_21 h (fun g2 H locs h hP hD hS => ?_)
    refine lv_aload_n hx hb dX8_add_22 rfl (lv_at hl 0 rfl) ?_
    refine lv_dup hx hb dX8_add_23 rfl ?_
    refine x_getv (v := .int (g2 4 4)) (Or.inl fl_X8_25) C hP (by decide) xs_4 rfl dX8_add_24 ?_
    refine lv_iconst (v := 1) hx hb dX8_add_27 (by decide) ?_
    refine lv_iadd hx hb dX8_add_28 ?_
    refine y_puti (Or.inl fl_X8_25) ft_X8_4 C hP hD hS (by decide) xs_4 rfl rfl rfl dX8_add_29 h (fun g3 H locs h hP hD hS => ?_)
    exact J32 g3 L H locs ls h hP hD hS (lv_sub hl [] rfl)
def fX8_close_4_p31 (fu : Nat) (g : Nat → Nat → Int32) (L : Nat → Nat → Int64) : Option ((Unit) × zS) :=
  some ((), (g, L))
def fX8_close_4 (fu : Nat) (g : Nat → Nat → Int32) (L : Nat → Nat → Int64) : Option ((Unit) × zS) :=
  if 4 ≤ (g 4 3) then fX8_close_4_p31 fu g L
  else sti g 4 3 ((g 4 3) + 1) (fun g2 =>
  ck (g2 4 3) 5 (sti g2 23 (Int32.toNatClampNeg (g2 4 3)) (g2 4 4) (fun g3 =>
  fX8_close_4_p31 fu g3 L)))
set_option maxHeartbeats 4000000 in
set_option maxRecDepth 100000 in
theorem rX8_close_4 (l : Launch) (G : kG) (sz : Nat) (b : Nat) (a : Nat → Nat) (fu : Nat) (g : Nat → Nat → Int32) (L : Nat → Nat → Int64) (res : Unit) (s9 : zS) (h : fX8_close_4 fu g L = some (res, s9)) : kM l yX8_close cX8_close 1 none { frames := 6, cells := 0, slots := 0, locals := 110 } G [.ref (a 4)] (zw G (XS b) 105 a g L) sz (kQv G (S := Unit) (fun _ => True) (fun _ => zw G (XS b) 105 a s9.1 s9.2)) := by
  refine kM.of (by decide) (Nat.le_of_ble_eq_true rfl) ?_
  intro p e s m below meth c A ls H C hr hlk hnm hP hD hS hl
  have C : kC G p s m c cX8_close 1 RX8 A := C
  have hx := C.1
  have hb := C.2.1
  have hl : lv_has ls 1 [(0, .ref (a 4))] := hl
  obtain ⟨locs, hlocs⟩ : ∃ q : List Loc, q = [] := ⟨_, rfl⟩
  rw [← hlocs] at hS
  rw [← hlocs]
  unfold fX8_close_4 at h
  refine lv_aload_n hx hb dX8_close_0 rfl (lv_at hl 0 rfl) ?_
  refine x_getv (v := .int (g 4 3)) (Or.inl fl_X8_21) C hP (by decide) xs_4 rfl dX8_close_1 ?_
  refine lv_iconst (v := 4) hx hb dX8_close_4 (by decide) ?_
  have J31 : ∀ (g : Nat → Nat → Int32) (L : Nat → Nat → Int64) (H : Heap) (locs : List Loc) (ls : Array Slot), fX8_close_4_p31 fu g L = some (res, s9) → va_P G.1 vwCl (zw G (XS b) 105 a g L) H → va_D A (zw G (XS b) 105 a g L) → va_S A s.heap H locs → lv_has ls 1 [] → W p l e { frames := 6, cells := 0, slots := 0, locals := 110 } s m [.ref (a 4)].toArray below meth c H locs 0 0 (MQ below ((kQv G (S := Unit) (fun _ => True) (fun _ => zw G (XS b) 105 a s9.1 s9.2)) A) [.ref (a 4)].toArray s 0 0 A) (F0 m 31 ls []) := by
    intro g L H locs ls h hP hD hS hl
    unfold fX8_close_4_p31 at h
    exact y_vret C hr hlk hP hD hS h (Nat.le_of_ble_eq_true rfl) (Nat.le_of_ble_eq_true rfl) dX8_close_31
  refine lv_icmp_ge (x := (g 4 3)) (y := 4) (tgt := 31) hx hb dX8_close_5 (by decide) (fun c1 => ?_) (fun c1 => ?_)
  ·
    have h := ite_t c1 h
    exact J31 g L H locs ls h hP hD hS (lv_sub hl [] rfl)
  ·
    have h := ite_e c1 h
    refine lv_aload_n hx hb dX8_close_8 rfl (lv_at hl 0 rfl) ?_
    refine lv_dup hx hb dX8_close_9 rfl ?_
    refine x_getv (v := .int (g 4 3)) (Or.inl fl_X8_21) C hP (by decide) xs_4 rfl dX8_close_10 ?_
    refine lv_iconst (v := 1) hx hb dX8_close_13 (by decide) ?_
    refine lv_iadd hx hb dX8_close_14 ?_
    refine y_puti (Or.inl fl_X8_21) ft_X8_3 C hP hD hS (by decide) xs_4 rfl rfl rfl dX8_close_15 h (fun g2 H locs h hP hD hS => ?_)
    refine lv_aload_n hx hb dX8_close_18 rfl (lv_at hl 0 rfl) ?_
    refine x_getr (Or.inl fl_X8_15) C hP (by decide) xs_4 rfl dX8_close_19 ?_
    refine lv_aload_n hx hb dX8_close_22 rfl (lv_at hl 0 rfl) ?_
    refine x_getv (v := .int (g2 4 3)) (Or.inl fl_X8_21) C hP (by decide) xs_4 rfl dX8_close_23 ?_
    refine lv_aload_n hx hb dX8_close_26 rfl (lv_at hl 0 rfl) ?_
    refine x_getv (v := .int (g2 4 4)) (Or.inl fl_X8_25) C hP (by decide) xs_4 rfl dX8_close_27 ?_
    refine y_ast C hP hD hS (by decide) xs_23 dX8_close_30 h (fun g3 H locs h hP hD hS => ?_)
    exact J31 g3 L H locs ls h hP hD hS (lv_sub hl [] rfl)
def fX5_clear_les (fu : Nat) (q0_ : Nat) (g : Nat → Nat → Int32) (L : Nat → Nat → Int64) : Option ((Unit) × zS) :=
  sti g q0_ 9 2 (fun g1 =>
  sti g1 q0_ 10 0 (fun g2 =>
  sti g2 q0_ 1 0 (fun g3 =>
  sti g3 q0_ 2 0 (fun g4 =>
  some ((), (g4, L))))))
set_option maxHeartbeats 4000000 in
set_option maxRecDepth 100000 in
theorem rX5_clear_les (l : Launch) (G : kG) (sz : Nat) (b : Nat) (a : Nat → Nat) (fu : Nat) (g : Nat → Nat → Int32) (L : Nat → Nat → Int64) (q0_ : Nat) (q0_l : 57 ≤ q0_) (q0_h : q0_ < 81) (res : Unit) (s9 : zS) (h : fX5_clear_les fu q0_ g L = some (res, s9)) : kM l yX5_clear cX5_clear 1 none { frames := 6, cells := 0, slots := 0, locals := 110 } G [.ref (a q0_)] (zw G (XS b) 105 a g L) sz (kQv G (S := Unit) (fun _ => True) (fun _ => zw G (XS b) 105 a s9.1 s9.2)) := by
  refine kM.of (by decide) (Nat.le_of_ble_eq_true rfl) ?_
  intro p e s m below meth c A ls H C hr hlk hnm hP hD hS hl
  have C : kC G p s m c cX5_clear 1 RX5 A := C
  have hx := C.1
  have hb := C.2.1
  have hl : lv_has ls 1 [(0, .ref (a q0_))] := hl
  obtain ⟨locs, hlocs⟩ : ∃ q : List Loc, q = [] := ⟨_, rfl⟩
  rw [← hlocs] at hS
  rw [← hlocs]
  unfold fX5_clear_les at h
  refine lv_aload_n hx hb dX5_clear_0 rfl (lv_at hl 0 rfl) ?_
  refine lv_iconst (v := 2) hx hb dX5_clear_1 (by decide) ?_
  refine y_puti (Or.inl fl_X5_15) ft_X5_9 C hP hD hS (by omega) (xs_les (by omega) (by omega)) rfl rfl rfl dX5_clear_2 h (fun g1 H locs h hP hD hS => ?_)
  refine lv_aload_n hx hb dX5_clear_5 rfl (lv_at hl 0 rfl) ?_
  refine lv_iconst (v := 0) hx hb dX5_clear_6 (by decide) ?_
  refine y_puti (Or.inl fl_X5_19) ft_X5_10 C hP hD hS (by omega) (xs_les (by omega) (by omega)) rfl rfl rfl dX5_clear_7 h (fun g2 H locs h hP hD hS => ?_)
  refine lv_aload_n hx hb dX5_clear_10 rfl (lv_at hl 0 rfl) ?_
  refine lv_iconst (v := 0) hx hb dX5_clear_11 (by decide) ?_
  refine y_puti (Or.inl fl_X5_22) ft_X5_1 C hP hD hS (by omega) (xs_les (by omega) (by omega)) rfl rfl rfl dX5_clear_12 h (fun g3 H locs h hP hD hS => ?_)
  refine lv_aload_n hx hb dX5_clear_15 rfl (lv_at hl 0 rfl) ?_
  refine lv_iconst (v := 0) hx hb dX5_clear_16 (by decide) ?_
  refine y_puti (Or.inl fl_X5_25) ft_X5_2 C hP hD hS (by omega) (xs_les (by omega) (by omega)) rfl rfl rfl dX5_clear_17 h (fun g4 H locs h hP hD hS => ?_)
  exact y_vret C hr hlk hP hD hS h (Nat.le_of_ble_eq_true rfl) (Nat.le_of_ble_eq_true rfl) dX5_clear_20
def fX5_waitFor_les_p41 (fu : Nat) (g : Nat → Nat → Int32) (L : Nat → Nat → Int64) : Option ((Unit) × zS) :=
  some ((), (g, L))
def fX5_waitFor_les (fu : Nat) (q0_ : Nat) (p1 : Int32) (g : Nat → Nat → Int32) (L : Nat → Nat → Int64) : Option ((Unit) × zS) :=
  if 6 ≤ (g q0_ 1) then fX5_waitFor_les_p41 fu g L
  else ck (g q0_ 1) 6 (sti g (q0_ + 24) (Int32.toNatClampNeg (g q0_ 1)) p1 (fun g2 =>
  sti g2 q0_ 1 ((g2 q0_ 1) + 1) (fun g3 =>
  sti g3 q0_ 2 ((g3 q0_ 2) ||| ((1 : Int32) <<< ((p1 : Int32) &&& 31) : Int32)) (fun g4 =>
  fX5_waitFor_les_p41 fu g4 L))))
set_option maxHeartbeats 4000000 in
set_option maxRecDepth 100000 in
theorem rX5_waitFor_les (l : Launch) (G : kG) (sz : Nat) (b : Nat) (a : Nat → Nat) (fu : Nat) (g : Nat → Nat → Int32) (L : Nat → Nat → Int64) (q0_ : Nat) (p1 : Int32) (q0_l : 57 ≤ q0_) (q0_h : q0_ < 81) (res : Unit) (s9 : zS) (h : fX5_waitFor_les fu q0_ p1 g L = some (res, s9)) : kM l yX5_waitFor cX5_waitFor 2 none { frames := 6, cells := 0, slots := 0, locals := 110 } G [.ref (a q0_), .int p1] (zw G (XS b) 105 a g L) sz (kQv G (S := Unit) (fun _ => True) (fun _ => zw G (XS b) 105 a s9.1 s9.2)) := by
  refine kM.of (by decide) (Nat.le_of_ble_eq_true rfl) ?_
  intro p e s m below meth c A ls H C hr hlk hnm hP hD hS hl
  have C : kC G p s m c cX5_waitFor 2 RX5 A := C
  have hx := C.1
  have hb := C.2.1
  have hl : lv_has ls 2 [(0, .ref (a q0_)), (1, .int p1)] := hl
  obtain ⟨locs, hlocs⟩ : ∃ q : List Loc, q = [] := ⟨_, rfl⟩
  rw [← hlocs] at hS
  rw [← hlocs]
  unfold fX5_waitFor_les at h
  refine lv_aload_n hx hb dX5_waitFor_0 rfl (lv_at hl 0 rfl) ?_
  refine x_getv (v := .int (g q0_ 1)) (Or.inl fl_X5_22) C hP (by omega) (xs_les (by omega) (by omega)) rfl dX5_waitFor_1 ?_
  refine lv_bipush (v := 6) hx hb dX5_waitFor_4 (by decide) ?_
  have J41 : ∀ (g : Nat → Nat → Int32) (L : Nat → Nat → Int64) (H : Heap) (locs : List Loc) (ls : Array Slot), fX5_waitFor_les_p41 fu g L = some (res, s9) → va_P G.1 vwCl (zw G (XS b) 105 a g L) H → va_D A (zw G (XS b) 105 a g L) → va_S A s.heap H locs → lv_has ls 2 [] → W p l e { frames := 6, cells := 0, slots := 0, locals := 110 } s m [.ref (a q0_), .int p1].toArray below meth c H locs 0 0 (MQ below ((kQv G (S := Unit) (fun _ => True) (fun _ => zw G (XS b) 105 a s9.1 s9.2)) A) [.ref (a q0_), .int p1].toArray s 0 0 A) (F0 m 41 ls []) := by
    intro g L H locs ls h hP hD hS hl
    unfold fX5_waitFor_les_p41 at h
    exact y_vret C hr hlk hP hD hS h (Nat.le_of_ble_eq_true rfl) (Nat.le_of_ble_eq_true rfl) dX5_waitFor_41
  refine lv_icmp_ge (x := (g q0_ 1)) (y := 6) (tgt := 41) hx hb dX5_waitFor_6 (by decide) (fun c1 => ?_) (fun c1 => ?_)
  ·
    have h := ite_t c1 h
    exact J41 g L H locs ls h hP hD hS (lv_sub hl [] rfl)
  ·
    have h := ite_e c1 h
    refine lv_aload_n hx hb dX5_waitFor_9 rfl (lv_at hl 0 rfl) ?_
    refine x_getr (Or.inl fl_X5_9) C hP (by omega) (xs_les (by omega) (by omega)) rfl dX5_waitFor_10 ?_
    refine lv_aload_n hx hb dX5_waitFor_13 rfl (lv_at hl 0 rfl) ?_
    refine x_getv (v := .int (g q0_ 1)) (Or.inl fl_X5_22) C hP (by omega) (xs_les (by omega) (by omega)) rfl dX5_waitFor_14 ?_
    refine lv_iload_n hx hb dX5_waitFor_17 rfl (lv_at hl 1 rfl) ?_
    refine y_ast C hP hD hS (by omega) (xs_wai (by omega)) dX5_waitFor_18 h (fun g2 H locs h hP hD hS => ?_)
    refine lv_aload_n hx hb dX5_waitFor_19 rfl (lv_at hl 0 rfl) ?_
    refine lv_dup hx hb dX5_waitFor_20 rfl ?_
    refine x_getv (v := .int (g2 q0_ 1)) (Or.inl fl_X5_22) C hP (by omega) (xs_les (by omega) (by omega)) rfl dX5_waitFor_21 ?_
    refine lv_iconst (v := 1) hx hb dX5_waitFor_24 (by decide) ?_
    refine lv_iadd hx hb dX5_waitFor_25 ?_
    refine y_puti (Or.inl fl_X5_22) ft_X5_1 C hP hD hS (by omega) (xs_les (by omega) (by omega)) rfl rfl rfl dX5_waitFor_26 h (fun g3 H locs h hP hD hS => ?_)
    refine lv_aload_n hx hb dX5_waitFor_29 rfl (lv_at hl 0 rfl) ?_
    refine lv_dup hx hb dX5_waitFor_30 rfl ?_
    refine x_getv (v := .int (g3 q0_ 2)) (Or.inl fl_X5_25) C hP (by omega) (xs_les (by omega) (by omega)) rfl dX5_waitFor_31 ?_
    refine lv_iconst (v := 1) hx hb dX5_waitFor_34 (by decide) ?_
    refine lv_iload_n hx hb dX5_waitFor_35 rfl (lv_at hl 1 rfl) ?_
    refine lv_ishl hx hb dX5_waitFor_36 ?_
    refine lv_ior hx hb dX5_waitFor_37 ?_
    refine y_puti (Or.inl fl_X5_25) ft_X5_2 C hP hD hS (by omega) (xs_les (by omega) (by omega)) rfl rfl rfl dX5_waitFor_38 h (fun g4 H locs h hP hD hS => ?_)
    exact J41 g4 L H locs ls h hP hD hS (lv_sub hl [] rfl)
def fX6_kindOf_p28 (fu : Nat) (v0 : Int32) (g : Nat → Nat → Int32) (L : Nat → Nat → Int64) : Option ((Int32) × zS) :=
  if (Int32.toInt v0) = 40 then (some (3, (g, L))) else
  if (Int32.toInt v0) = 41 then (some (3, (g, L))) else
  if (Int32.toInt v0) = 42 then (some (3, (g, L))) else
  if (Int32.toInt v0) = 43 then (some (3, (g, L))) else
  if (Int32.toInt v0) = 44 then (some (4, (g, L))) else
  if (Int32.toInt v0) = 45 then (some (3, (g, L))) else
  if (Int32.toInt v0) = 46 then (some (4, (g, L))) else
  if (Int32.toInt v0) = 47 then (some (3, (g, L))) else
  if (Int32.toInt v0) = 48 then (some (4, (g, L))) else
  if (Int32.toInt v0) = 49 then (some (4, (g, L))) else
  if (Int32.toInt v0) = 50 then (some (4, (g, L))) else
  if (Int32.toInt v0) = 51 then (some (4, (g, L))) else
  if (Int32.toInt v0) = 52 then (some (4, (g, L))) else
  if (Int32.toInt v0) = 53 then (some (4, (g, L))) else
  if (Int32.toInt v0) = 54 then (some (4, (g, L))) else
  if (Int32.toInt v0) = 55 then (some (4, (g, L))) else
  if (Int32.toInt v0) = 56 then (some (4, (g, L))) else
  if (Int32.toInt v0) = 57 then (some (4, (g, L))) else
  if (Int32.toInt v0) = 58 then (some (4, (g, L))) else
  if (Int32.toInt v0) = 59 then (some (3, (g, L))) else
  if (Int32.toInt v0) = 60 then (some (3, (g, L))) else
  if (Int32.toInt v0) = 61 then (some (3, (g, L))) else
  some (4, (g, L))
def fX6_kindOf_p14 (fu : Nat) (v0 : Int32) (g : Nat → Nat → Int32) (L : Nat → Nat → Int64) : Option ((Int32) × zS) :=
  if (v0 : Int32) < 48 then fX6_kindOf_p28 fu v0 g L
  else if 57 < (v0 : Int32) then fX6_kindOf_p28 fu v0 g L
  else some (1, (g, L))
def fX6_kindOf (fu : Nat) (p1 : Int32) (g : Nat → Nat → Int32) (L : Nat → Nat → Int64) : Option ((Int32) × zS) :=
  if (p1 : Int32) < 97 then fX6_kindOf_p14 fu p1 g L
  else if 122 < (p1 : Int32) then fX6_kindOf_p14 fu p1 g L
  else some (2, (g, L))
set_option maxHeartbeats 4000000 in
set_option maxRecDepth 100000 in
theorem rX6_kindOf (l : Launch) (G : kG) (sz : Nat) (a : Nat → Nat) (fu : Nat) (g : Nat → Nat → Int32) (L : Nat → Nat → Int64) (p1 : Int32) (res : Int32) (s9 : zS) (h : fX6_kindOf fu p1 g L = some (res, s9)) : kM l yX6_kindOf cX6_kindOf 1 (some .int) { frames := 6, cells := 0, slots := 0, locals := 110 } G [.int p1] (zw G (XS 2) 105 a g L) sz (kQi G (S := Unit) (fun r' _ => r' = res) (fun _ => zw G (XS 2) 105 a s9.1 s9.2)) := by
  refine kM.of (by decide) (Nat.le_of_ble_eq_true rfl) ?_
  intro p e s m below meth c A ls H C hr hlk hnm hP hD hS hl
  have C : kC G p s m c cX6_kindOf 1 RX6 A := C
  have hx := C.1
  have hb := C.2.1
  have hl : lv_has ls 1 [(0, .int p1)] := hl
  obtain ⟨locs, hlocs⟩ : ∃ q : List Loc, q = [] := ⟨_, rfl⟩
  rw [← hlocs] at hS
  rw [← hlocs]
  unfold fX6_kindOf at h
  refine lv_iload_n hx hb dX6_kindOf_0 rfl (lv_at hl 0 rfl) ?_
  refine lv_bipush (v := 97) hx hb dX6_kindOf_1 (by decide) ?_
  have J14 : ∀ (v0 : Int32) (g : Nat → Nat → Int32) (L : Nat → Nat → Int64) (H : Heap) (locs : List Loc) (ls : Array Slot), fX6_kindOf_p14 fu v0 g L = some (res, s9) → va_P G.1 vwCl (zw G (XS 2) 105 a g L) H → va_D A (zw G (XS 2) 105 a g L) → va_S A s.heap H locs → lv_has ls 1 [(0, .int v0)] → W p l e { frames := 6, cells := 0, slots := 0, locals := 110 } s m [.int p1].toArray below meth c H locs 0 0 (MQ below ((kQi G (S := Unit) (fun r' _ => r' = res) (fun _ => zw G (XS 2) 105 a s9.1 s9.2)) A) [.int p1].toArray s 0 0 A) (F0 m 14 ls []) := by
    intro v0 g L H locs ls h hP hD hS hl
    unfold fX6_kindOf_p14 at h
    refine lv_iload_n hx hb dX6_kindOf_14 rfl (lv_at hl 0 rfl) ?_
    refine lv_bipush (v := 48) hx hb dX6_kindOf_15 (by decide) ?_
    have J28 : ∀ (v0 : Int32) (g : Nat → Nat → Int32) (L : Nat → Nat → Int64) (H : Heap) (locs : List Loc) (ls : Array Slot), fX6_kindOf_p28 fu v0 g L = some (res, s9) → va_P G.1 vwCl (zw G (XS 2) 105 a g L) H → va_D A (zw G (XS 2) 105 a g L) → va_S A s.heap H locs → lv_has ls 1 [(0, .int v0)] → W p l e { frames := 6, cells := 0, slots := 0, locals := 110 } s m [.int p1].toArray below meth c H locs 0 0 (MQ below ((kQi G (S := Unit) (fun r' _ => r' = res) (fun _ => zw G (XS 2) 105 a s9.1 s9.2)) A) [.int p1].toArray s 0 0 A) (F0 m 28 ls []) := by
      intro v0 g L H locs ls h hP hD hS hl
      unfold fX6_kindOf_p28 at h
      refine lv_iload_n hx hb dX6_kindOf_28 rfl (lv_at hl 0 rfl) ?_
      by_cases c1 : (Int32.toInt v0) = 40
      ·
        have h := ite_t c1 h
        refine lv_tableIn (off := 103) (tgt := 132) hx hb dX6_kindOf_29 (by omega) (by omega) (by rw [c1]; rfl) (by decide) ?_
        refine lv_iconst (v := 3) hx hb dX6_kindOf_132 (by decide) ?_
        exact y_iret C hr hlk hP hD hS h (Nat.le_of_ble_eq_true rfl) (Nat.le_of_ble_eq_true rfl) dX6_kindOf_133
      have h := ite_e c1 h
      by_cases c2 : (Int32.toInt v0) = 41
      ·
        have h := ite_t c2 h
        refine lv_tableIn (off := 103) (tgt := 132) hx hb dX6_kindOf_29 (by omega) (by omega) (by rw [c2]; rfl) (by decide) ?_
        refine lv_iconst (v := 3) hx hb dX6_kindOf_132 (by decide) ?_
        exact y_iret C hr hlk hP hD hS h (Nat.le_of_ble_eq_true rfl) (Nat.le_of_ble_eq_true rfl) dX6_kindOf_133
      have h := ite_e c2 h
      by_cases c3 : (Int32.toInt v0) = 42
      ·
        have h := ite_t c3 h
        refine lv_tableIn (off := 103) (tgt := 132) hx hb dX6_kindOf_29 (by omega) (by omega) (by rw [c3]; rfl) (by decide) ?_
        refine lv_iconst (v := 3) hx hb dX6_kindOf_132 (by decide) ?_
        exact y_iret C hr hlk hP hD hS h (Nat.le_of_ble_eq_true rfl) (Nat.le_of_ble_eq_true rfl) dX6_kindOf_133
      have h := ite_e c3 h
      by_cases c4 : (Int32.toInt v0) = 43
      ·
        have h := ite_t c4 h
        refine lv_tableIn (off := 103) (tgt := 132) hx hb dX6_kindOf_29 (by omega) (by omega) (by rw [c4]; rfl) (by decide) ?_
        refine lv_iconst (v := 3) hx hb dX6_kindOf_132 (by decide) ?_
        exact y_iret C hr hlk hP hD hS h (Nat.le_of_ble_eq_true rfl) (Nat.le_of_ble_eq_true rfl) dX6_kindOf_133
      have h := ite_e c4 h
      by_cases c5 : (Int32.toInt v0) = 44
      ·
        have h := ite_t c5 h
        refine lv_tableIn (off := 105) (tgt := 134) hx hb dX6_kindOf_29 (by omega) (by omega) (by rw [c5]; rfl) (by decide) ?_
        refine lv_iconst (v := 4) hx hb dX6_kindOf_134 (by decide) ?_
        exact y_iret C hr hlk hP hD hS h (Nat.le_of_ble_eq_true rfl) (Nat.le_of_ble_eq_true rfl) dX6_kindOf_135
      have h := ite_e c5 h
      by_cases c6 : (Int32.toInt v0) = 45
      ·
        have h := ite_t c6 h
        refine lv_tableIn (off := 103) (tgt := 132) hx hb dX6_kindOf_29 (by omega) (by omega) (by rw [c6]; rfl) (by decide) ?_
        refine lv_iconst (v := 3) hx hb dX6_kindOf_132 (by decide) ?_
        exact y_iret C hr hlk hP hD hS h (Nat.le_of_ble_eq_true rfl) (Nat.le_of_ble_eq_true rfl) dX6_kindOf_133
      have h := ite_e c6 h
      by_cases c7 : (Int32.toInt v0) = 46
      ·
        have h := ite_t c7 h
        refine lv_tableIn (off := 105) (tgt := 134) hx hb dX6_kindOf_29 (by omega) (by omega) (by rw [c7]; rfl) (by decide) ?_
        refine lv_iconst (v := 4) hx hb dX6_kindOf_134 (by decide) ?_
        exact y_iret C hr hlk hP hD hS h (Nat.le_of_ble_eq_true rfl) (Nat.le_of_ble_eq_true rfl) dX6_kindOf_135
      have h := ite_e c7 h
      by_cases c8 : (Int32.toInt v0) = 47
      ·
        have h := ite_t c8 h
        refine lv_tableIn (off := 103) (tgt := 132) hx hb dX6_kindOf_29 (by omega) (by omega) (by rw [c8]; rfl) (by decide) ?_
        refine lv_iconst (v := 3) hx hb dX6_kindOf_132 (by decide) ?_
        exact y_iret C hr hlk hP hD hS h (Nat.le_of_ble_eq_true rfl) (Nat.le_of_ble_eq_true rfl) dX6_kindOf_133
      have h := ite_e c8 h
      by_cases c9 : (Int32.toInt v0) = 48
      ·
        have h := ite_t c9 h
        refine lv_tableIn (off := 105) (tgt := 134) hx hb dX6_kindOf_29 (by omega) (by omega) (by rw [c9]; rfl) (by decide) ?_
        refine lv_iconst (v := 4) hx hb dX6_kindOf_134 (by decide) ?_
        exact y_iret C hr hlk hP hD hS h (Nat.le_of_ble_eq_true rfl) (Nat.le_of_ble_eq_true rfl) dX6_kindOf_135
      have h := ite_e c9 h
      by_cases c10 : (Int32.toInt v0) = 49
      ·
        have h := ite_t c10 h
        refine lv_tableIn (off := 105) (tgt := 134) hx hb dX6_kindOf_29 (by omega) (by omega) (by rw [c10]; rfl) (by decide) ?_
        refine lv_iconst (v := 4) hx hb dX6_kindOf_134 (by decide) ?_
        exact y_iret C hr hlk hP hD hS h (Nat.le_of_ble_eq_true rfl) (Nat.le_of_ble_eq_true rfl) dX6_kindOf_135
      have h := ite_e c10 h
      by_cases c11 : (Int32.toInt v0) = 50
      ·
        have h := ite_t c11 h
        refine lv_tableIn (off := 105) (tgt := 134) hx hb dX6_kindOf_29 (by omega) (by omega) (by rw [c11]; rfl) (by decide) ?_
        refine lv_iconst (v := 4) hx hb dX6_kindOf_134 (by decide) ?_
        exact y_iret C hr hlk hP hD hS h (Nat.le_of_ble_eq_true rfl) (Nat.le_of_ble_eq_true rfl) dX6_kindOf_135
      have h := ite_e c11 h
      by_cases c12 : (Int32.toInt v0) = 51
      ·
        have h := ite_t c12 h
        refine lv_tableIn (off := 105) (tgt := 134) hx hb dX6_kindOf_29 (by omega) (by omega) (by rw [c12]; rfl) (by decide) ?_
        refine lv_iconst (v := 4) hx hb dX6_kindOf_134 (by decide) ?_
        exact y_iret C hr hlk hP hD hS h (Nat.le_of_ble_eq_true rfl) (Nat.le_of_ble_eq_true rfl) dX6_kindOf_135
      have h := ite_e c12 h
      by_cases c13 : (Int32.toInt v0) = 52
      ·
        have h := ite_t c13 h
        refine lv_tableIn (off := 105) (tgt := 134) hx hb dX6_kindOf_29 (by omega) (by omega) (by rw [c13]; rfl) (by decide) ?_
        refine lv_iconst (v := 4) hx hb dX6_kindOf_134 (by decide) ?_
        exact y_iret C hr hlk hP hD hS h (Nat.le_of_ble_eq_true rfl) (Nat.le_of_ble_eq_true rfl) dX6_kindOf_135
      have h := ite_e c13 h
      by_cases c14 : (Int32.toInt v0) = 53
      ·
        have h := ite_t c14 h
        refine lv_tableIn (off := 105) (tgt := 134) hx hb dX6_kindOf_29 (by omega) (by omega) (by rw [c14]; rfl) (by decide) ?_
        refine lv_iconst (v := 4) hx hb dX6_kindOf_134 (by decide) ?_
        exact y_iret C hr hlk hP hD hS h (Nat.le_of_ble_eq_true rfl) (Nat.le_of_ble_eq_true rfl) dX6_kindOf_135
      have h := ite_e c14 h
      by_cases c15 : (Int32.toInt v0) = 54
      ·
        have h := ite_t c15 h
        refine lv_tableIn (off := 105) (tgt := 134) hx hb dX6_kindOf_29 (by omega) (by omega) (by rw [c15]; rfl) (by decide) ?_
        refine lv_iconst (v := 4) hx hb dX6_kindOf_134 (by decide) ?_
        exact y_iret C hr hlk hP hD hS h (Nat.le_of_ble_eq_true rfl) (Nat.le_of_ble_eq_true rfl) dX6_kindOf_135
      have h := ite_e c15 h
      by_cases c16 : (Int32.toInt v0) = 55
      ·
        have h := ite_t c16 h
        refine lv_tableIn (off := 105) (tgt := 134) hx hb dX6_kindOf_29 (by omega) (by omega) (by rw [c16]; rfl) (by decide) ?_
        refine lv_iconst (v := 4) hx hb dX6_kindOf_134 (by decide) ?_
        exact y_iret C hr hlk hP hD hS h (Nat.le_of_ble_eq_true rfl) (Nat.le_of_ble_eq_true rfl) dX6_kindOf_135
      have h := ite_e c16 h
      by_cases c17 : (Int32.toInt v0) = 56
      ·
        have h := ite_t c17 h
        refine lv_tableIn (off := 105) (tgt := 134) hx hb dX6_kindOf_29 (by omega) (by omega) (by rw [c17]; rfl) (by decide) ?_
        refine lv_iconst (v := 4) hx hb dX6_kindOf_134 (by decide) ?_
        exact y_iret C hr hlk hP hD hS h (Nat.le_of_ble_eq_true rfl) (Nat.le_of_ble_eq_true rfl) dX6_kindOf_135
      have h := ite_e c17 h
      by_cases c18 : (Int32.toInt v0) = 57
      ·
        have h := ite_t c18 h
        refine lv_tableIn (off := 105) (tgt := 134) hx hb dX6_kindOf_29 (by omega) (by omega) (by rw [c18]; rfl) (by decide) ?_
        refine lv_iconst (v := 4) hx hb dX6_kindOf_134 (by decide) ?_
        exact y_iret C hr hlk hP hD hS h (Nat.le_of_ble_eq_true rfl) (Nat.le_of_ble_eq_true rfl) dX6_kindOf_135
      have h := ite_e c18 h
      by_cases c19 : (Int32.toInt v0) = 58
      ·
        have h := ite_t c19 h
        refine lv_tableIn (off := 105) (tgt := 134) hx hb dX6_kindOf_29 (by omega) (by omega) (by rw [c19]; rfl) (by decide) ?_
        refine lv_iconst (v := 4) hx hb dX6_kindOf_134 (by decide) ?_
        exact y_iret C hr hlk hP hD hS h (Nat.le_of_ble_eq_true rfl) (Nat.le_of_ble_eq_true rfl) dX6_kindOf_135
      have h := ite_e c19 h
      by_cases c20 : (Int32.toInt v0) = 59
      ·
        have h := ite_t c20 h
        refine lv_tableIn (off := 103) (tgt := 132) hx hb dX6_kindOf_29 (by omega) (by omega) (by rw [c20]; rfl) (by decide) ?_
        refine lv_iconst (v := 3) hx hb dX6_kindOf_132 (by decide) ?_
        exact y_iret C hr hlk hP hD hS h (Nat.le_of_ble_eq_true rfl) (Nat.le_of_ble_eq_true rfl) dX6_kindOf_133
      have h := ite_e c20 h
      by_cases c21 : (Int32.toInt v0) = 60
      ·
        have h := ite_t c21 h
        refine lv_tableIn (off := 103) (tgt := 132) hx hb dX6_kindOf_29 (by omega) (by omega) (by rw [c21]; rfl) (by decide) ?_
        refine lv_iconst (v := 3) hx hb dX6_kindOf_132 (by decide) ?_
        exact y_iret C hr hlk hP hD hS h (Nat.le_of_ble_eq_true rfl) (Nat.le_of_ble_eq_true rfl) dX6_kindOf_133
      have h := ite_e c21 h
      by_cases c22 : (Int32.toInt v0) = 61
      ·
        have h := ite_t c22 h
        refine lv_tableIn (off := 103) (tgt := 132) hx hb dX6_kindOf_29 (by omega) (by omega) (by rw [c22]; rfl) (by decide) ?_
        refine lv_iconst (v := 3) hx hb dX6_kindOf_132 (by decide) ?_
        exact y_iret C hr hlk hP hD hS h (Nat.le_of_ble_eq_true rfl) (Nat.le_of_ble_eq_true rfl) dX6_kindOf_133
      have h := ite_e c22 h
      refine lv_tableOut (tgt := 134) hx hb dX6_kindOf_29 (by omega) (by decide) ?_
      refine lv_iconst (v := 4) hx hb dX6_kindOf_134 (by decide) ?_
      exact y_iret C hr hlk hP hD hS h (Nat.le_of_ble_eq_true rfl) (Nat.le_of_ble_eq_true rfl) dX6_kindOf_135
    refine lv_icmp_lt (x := v0) (y := 48) (tgt := 28) hx hb dX6_kindOf_17 (by decide) (fun c23 => ?_) (fun c23 => ?_)
    ·
      have h := ite_t c23 h
      exact J28 v0 g L H locs ls h hP hD hS (lv_sub hl [0] rfl)
    ·
      have h := ite_e c23 h
      refine lv_iload_n hx hb dX6_kindOf_20 rfl (lv_at hl 0 rfl) ?_
      refine lv_bipush (v := 57) hx hb dX6_kindOf_21 (by decide) ?_
      refine lv_icmp_gt (x := v0) (y := 57) (tgt := 28) hx hb dX6_kindOf_23 (by decide) (fun c24 => ?_) (fun c24 => ?_)
      ·
        have h := ite_t c24 h
        exact J28 v0 g L H locs ls h hP hD hS (lv_sub hl [0] rfl)
      ·
        have h := ite_e c24 h
        refine lv_iconst (v := 1) hx hb dX6_kindOf_26 (by decide) ?_
        exact y_iret C hr hlk hP hD hS h (Nat.le_of_ble_eq_true rfl) (Nat.le_of_ble_eq_true rfl) dX6_kindOf_27
  refine lv_icmp_lt (x := p1) (y := 97) (tgt := 14) hx hb dX6_kindOf_3 (by decide) (fun c25 => ?_) (fun c25 => ?_)
  ·
    have h := ite_t c25 h
    exact J14 p1 g L H locs ls h hP hD hS (lv_sub hl [0] rfl)
  ·
    have h := ite_e c25 h
    refine lv_iload_n hx hb dX6_kindOf_6 rfl (lv_at hl 0 rfl) ?_
    refine lv_bipush (v := 122) hx hb dX6_kindOf_7 (by decide) ?_
    refine lv_icmp_gt (x := p1) (y := 122) (tgt := 14) hx hb dX6_kindOf_9 (by decide) (fun c26 => ?_) (fun c26 => ?_)
    ·
      have h := ite_t c26 h
      exact J14 p1 g L H locs ls h hP hD hS (lv_sub hl [0] rfl)
    ·
      have h := ite_e c26 h
      refine lv_iconst (v := 2) hx hb dX6_kindOf_12 (by decide) ?_
      exact y_iret C hr hlk hP hD hS h (Nat.le_of_ble_eq_true rfl) (Nat.le_of_ble_eq_true rfl) dX6_kindOf_13
def fX6_advance_5_p123 (fu : Nat) (g : Nat → Nat → Int32) (L : Nat → Nat → Int64) : Option ((Unit) × zS) :=
  sti g 5 3 ((g 5 3) + 1) (fun g10 =>
  some ((), (g10, L)))
def fX6_advance_5_p222 (fu : Nat) (g : Nat → Nat → Int32) (L : Nat → Nat → Int64) : Option ((Unit) × zS) :=
  some ((), (g, L))
def fX6_advance_5_p209 (fu : Nat) (k134 : (Nat → Nat → Int32) × (Nat → Nat → Int64) → Option ((Unit) × zS)) (g : Nat → Nat → Int32) (L : Nat → Nat → Int64) : Option ((Unit) × zS) :=
  sti g 5 3 ((g 5 3) + 1) (fun g19 =>
  k134 (g19, L))
def fX6_advance_5_s134 (fu : Nat) (k134 : (Nat → Nat → Int32) × (Nat → Nat → Int64) → Option ((Unit) × zS)) (g : Nat → Nat → Int32) (L : Nat → Nat → Int64) : Option ((Unit) × zS) :=
  if (g 5 2) ≤ (g 5 3) then fX6_advance_5_p222 fu g L
  else ck (g 5 3) 700 (
  cb (fX6_kindOf fu (g 14 (Int32.toNatClampNeg (g 5 3))) g L) (fun x14 g15 L16 =>
  if x14 = (g15 5 4) then (if (g15 5 4) = 1 then (if 4 ≤ ((g15 5 3) - (g15 5 5)) then fX6_advance_5_p209 fu k134 g15 L16
  else ck (g15 5 3) 700 (
  sti g15 5 6 ((((g15 5 6) * 10) + (g15 14 (Int32.toNatClampNeg (g15 5 3)))) - 48) (fun g22 =>
  fX6_advance_5_p209 fu k134 g22 L16)))
  else fX6_advance_5_p209 fu k134 g15 L16)
  else fX6_advance_5_p222 fu g15 L16))
def fX6_advance_5_l134 (fu : Nat) (g : Nat → Nat → Int32) (L : Nat → Nat → Int64) : Option ((Unit) × zS) :=
  whileK (fun k v => fX6_advance_5_s134 fu k v.1 v.2) fu (g, L)
def fX6_advance_5_p61 (fu : Nat) (g : Nat → Nat → Int32) (L : Nat → Nat → Int64) : Option ((Unit) × zS) :=
  sti g 5 5 (g 5 3) (fun g2 =>
  sti g2 5 6 0 (fun g3 =>
  if (g3 5 3) < (g3 5 2) then ck (g3 5 3) 700 (
  cb (fX6_kindOf fu (g3 14 (Int32.toNatClampNeg (g3 5 3))) g3 L) (fun x5 g6 L7 =>
  sti g6 5 4 x5 (fun g9 =>
  if (g9 5 4) = 3 then fX6_advance_5_p123 fu g9 L7
  else if (g9 5 4) = 4 then fX6_advance_5_p123 fu g9 L7
  else fX6_advance_5_l134 fu g9 L7)))
  else sti g3 5 4 0 (fun g23 =>
  some ((), (g23, L)))))
def fX6_advance_5_p48 (fu : Nat) (k9 : (Nat → Nat → Int32) × (Nat → Nat → Int64) → Option ((Unit) × zS)) (g : Nat → Nat → Int32) (L : Nat → Nat → Int64) : Option ((Unit) × zS) :=
  sti g 5 3 ((g 5 3) + 1) (fun g25 =>
  k9 (g25, L))
def fX6_advance_5_s9 (fu : Nat) (k9 : (Nat → Nat → Int32) × (Nat → Nat → Int64) → Option ((Unit) × zS)) (g : Nat → Nat → Int32) (L : Nat → Nat → Int64) : Option ((Unit) × zS) :=
  if (g 5 2) ≤ (g 5 3) then fX6_advance_5_p61 fu g L
  else ck (g 5 3) 700 (
  if (g 14 (Int32.toNatClampNeg (g 5 3))) = 32 then fX6_advance_5_p48 fu k9 g L
  else ck (g 5 3) 700 (
  if (g 14 (Int32.toNatClampNeg (g 5 3))) = 10 then fX6_advance_5_p48 fu k9 g L
  else fX6_advance_5_p61 fu g L))
def fX6_advance_5_l9 (fu : Nat) (g : Nat → Nat → Int32) (L : Nat → Nat → Int64) : Option ((Unit) × zS) :=
  whileK (fun k v => fX6_advance_5_s9 fu k v.1 v.2) fu (g, L)
def fX6_advance_5 (fu : Nat) (g : Nat → Nat → Int32) (L : Nat → Nat → Int64) : Option ((Unit) × zS) :=
  if (g 5 4) = 5 then some ((), (g, L))
  else fX6_advance_5_l9 fu g L
set_option maxHeartbeats 4000000 in
set_option maxRecDepth 100000 in
theorem rX6_advance_5 (l : Launch) (G : kG) (sz : Nat) (a : Nat → Nat) (fu : Nat) (g : Nat → Nat → Int32) (L : Nat → Nat → Int64) (res : Unit) (s9 : zS) (h : fX6_advance_5 fu g L = some (res, s9)) : kM l yX6_advance cX6_advance 1 none { frames := 7, cells := 0, slots := 0, locals := 130 } G [.ref (a 5)] (zw G (XS 2) 105 a g L) sz (kQv G (S := Unit) (fun _ => True) (fun _ => zw G (XS 2) 105 a s9.1 s9.2)) := by
  refine kM.of (by decide) (Nat.le_of_ble_eq_true rfl) ?_
  intro p e s m below meth c A ls H C hr hlk hnm hP hD hS hl
  have C : kC G p s m c cX6_advance 1 RX6 A := C
  have hx := C.1
  have hb := C.2.1
  have hl : lv_has ls 1 [(0, .ref (a 5))] := hl
  obtain ⟨locs, hlocs⟩ : ∃ q : List Loc, q = [] := ⟨_, rfl⟩
  rw [← hlocs] at hS
  rw [← hlocs]
  unfold fX6_advance_5 at h
  refine lv_aload_n hx hb dX6_advance_0 rfl (lv_at hl 0 rfl) ?_
  refine x_getv (v := .int (g 5 4)) (Or.inl fl_X6_50) C hP (by decide) xs_5 rfl dX6_advance_1 ?_
  refine lv_iconst (v := 5) hx hb dX6_advance_4 (by decide) ?_
  refine lv_icmp_ne (x := (g 5 4)) (y := 5) (tgt := 9) hx hb dX6_advance_5 (by decide) (fun c1 => ?_) (fun c1 => ?_)
  ·
    have h := ite_e c1 h
    have lp9 : ∀ (_ : True), ∀ (n : Nat) (v : (Nat → Nat → Int32) × (Nat → Nat → Int64)), whileK (fun k v => fX6_advance_5_s9 fu k v.1 v.2) n v = some (res, s9) → ∀ (H : Heap) (locs : List Loc) (ls : Array Slot), va_P G.1 vwCl (zw G (XS 2) 105 a (v.1) (v.2)) H → va_D A (zw G (XS 2) 105 a (v.1) (v.2)) → va_S A s.heap H locs → lv_has ls 1 [(0, .ref (a 5))] → W p l e { frames := 7, cells := 0, slots := 0, locals := 130 } s m [.ref (a 5)].toArray below meth c H locs 0 0 (MQ below ((kQv G (S := Unit) (fun _ => True) (fun _ => zw G (XS 2) 105 a s9.1 s9.2)) A) [.ref (a 5)].toArray s 0 0 A) (F0 m 9 ls []) := by
      intro _
      refine while_ind (fun k9 ih9 v h => ?_)
      obtain ⟨g, L⟩ := v
      intro H locs ls hP hD hS hl
      have h : fX6_advance_5_s9 fu k9 g L = some (res, s9) := h
      have hP : va_P G.1 vwCl (zw G (XS 2) 105 a g L) H := hP
      have hD : va_D A (zw G (XS 2) 105 a g L) := hD
      have hl : lv_has ls 1 [(0, .ref (a 5))] := hl
      show W p l e { frames := 7, cells := 0, slots := 0, locals := 130 } s m [.ref (a 5)].toArray below meth c H locs 0 0 (MQ below ((kQv G (S := Unit) (fun _ => True) (fun _ => zw G (XS 2) 105 a s9.1 s9.2)) A) [.ref (a 5)].toArray s 0 0 A) (F0 m 9 ls [])
      unfold fX6_advance_5_s9 at h
      refine lv_aload_n hx hb dX6_advance_9 rfl (lv_at hl 0 rfl) ?_
      refine x_getv (v := .int (g 5 3)) (Or.inl fl_X6_34) C hP (by decide) xs_5 rfl dX6_advance_10 ?_
      refine lv_aload_n hx hb dX6_advance_13 rfl (lv_at hl 0 rfl) ?_
      refine x_getv (v := .int (g 5 2)) (Or.inl fl_X6_30) C hP (by decide) xs_5 rfl dX6_advance_14 ?_
      have J61 : ∀ (g : Nat → Nat → Int32) (L : Nat → Nat → Int64) (H : Heap) (locs : List Loc) (ls : Array Slot), fX6_advance_5_p61 fu g L = some (res, s9) → va_P G.1 vwCl (zw G (XS 2) 105 a g L) H → va_D A (zw G (XS 2) 105 a g L) → va_S A s.heap H locs → lv_has ls 1 [(0, .ref (a 5))] → W p l e { frames := 7, cells := 0, slots := 0, locals := 130 } s m [.ref (a 5)].toArray below meth c H locs 0 0 (MQ below ((kQv G (S := Unit) (fun _ => True) (fun _ => zw G (XS 2) 105 a s9.1 s9.2)) A) [.ref (a 5)].toArray s 0 0 A) (F0 m 61 ls []) := by
        intro g L H locs ls h hP hD hS hl
        unfold fX6_advance_5_p61 at h
        refine lv_aload_n hx hb dX6_advance_61 rfl (lv_at hl 0 rfl) ?_
        refine lv_aload_n hx hb dX6_advance_62 rfl (lv_at hl 0 rfl) ?_
        refine x_getv (v := .int (g 5 3)) (Or.inl fl_X6_34) C hP (by decide) xs_5 rfl dX6_advance_63 ?_
        refine y_puti (Or.inl fl_X6_59) ft_X6_5 C hP hD hS (by decide) xs_5 rfl rfl rfl dX6_advance_66 h (fun g2 H locs h hP hD hS => ?_)
        refine lv_aload_n hx hb dX6_advance_69 rfl (lv_at hl 0 rfl) ?_
        refine lv_iconst (v := 0) hx hb dX6_advance_70 (by decide) ?_
        refine y_puti (Or.inl fl_X6_62) ft_X6_6 C hP hD hS (by decide) xs_5 rfl rfl rfl dX6_advance_71 h (fun g3 H locs h hP hD hS => ?_)
        refine lv_aload_n hx hb dX6_advance_74 rfl (lv_at hl 0 rfl) ?_
        refine x_getv (v := .int (g3 5 3)) (Or.inl fl_X6_34) C hP (by decide) xs_5 rfl dX6_advance_75 ?_
        refine lv_aload_n hx hb dX6_advance_78 rfl (lv_at hl 0 rfl) ?_
        refine x_getv (v := .int (g3 5 2)) (Or.inl fl_X6_30) C hP (by decide) xs_5 rfl dX6_advance_79 ?_
        refine lv_icmp_lt (x := (g3 5 3)) (y := (g3 5 2)) (tgt := 91) hx hb dX6_advance_82 (by decide) (fun c4 => ?_) (fun c4 => ?_)
        ·
          have h := ite_t c4 h
          refine lv_aload_n hx hb dX6_advance_91 rfl (lv_at hl 0 rfl) ?_
          refine lv_aload_n hx hb dX6_advance_92 rfl (lv_at hl 0 rfl) ?_
          refine x_getr (Or.inl fl_X6_9) C hP (by decide) xs_5 rfl dX6_advance_93 ?_
          refine lv_aload_n hx hb dX6_advance_96 rfl (lv_at hl 0 rfl) ?_
          refine x_getv (v := .int (g3 5 3)) (Or.inl fl_X6_34) C hP (by decide) xs_5 rfl dX6_advance_97 ?_
          refine y_ald C hP (by decide) xs_14 dX6_advance_100 h (fun h => ?_)
          obtain ⟨z_, g6, L7, hf8, h⟩ := cb_some h
          refine x_callSi (rest := [.ref (a 5)]) li_X6_65 C (rX6_kindOf l G H.size a fu g3 L (g3 14 (Int32.toNatClampNeg (g3 5 3))) z_ (g6, L7) hf8) (kR rfl) hP hD hS rfl hl.1 rfl (Nat.le_of_ble_eq_true rfl) dX6_advance_101 (fun x5 u_ H locs e_ hP hD hS => ?_)
          have e_ : x5 = z_ := e_
          subst e_
          have hP : va_P G.1 vwCl (zw G (XS 2) 105 a g6 L7) H := hP
          have hD : va_D A (zw G (XS 2) 105 a g6 L7) := hD
          refine y_puti (Or.inl fl_X6_50) ft_X6_4 C hP hD hS (by decide) xs_5 rfl rfl rfl dX6_advance_104 h (fun g9 H locs h hP hD hS => ?_)
          refine lv_aload_n hx hb dX6_advance_107 rfl (lv_at hl 0 rfl) ?_
          refine x_getv (v := .int (g9 5 4)) (Or.inl fl_X6_50) C hP (by decide) xs_5 rfl dX6_advance_108 ?_
          refine lv_iconst (v := 3) hx hb dX6_advance_111 (by decide) ?_
          have J123 : ∀ (g : Nat → Nat → Int32) (L : Nat → Nat → Int64) (H : Heap) (locs : List Loc) (ls : Array Slot), fX6_advance_5_p123 fu g L = some (res, s9) → va_P G.1 vwCl (zw G (XS 2) 105 a g L) H → va_D A (zw G (XS 2) 105 a g L) → va_S A s.heap H locs → lv_has ls 1 [(0, .ref (a 5))] → W p l e { frames := 7, cells := 0, slots := 0, locals := 130 } s m [.ref (a 5)].toArray below meth c H locs 0 0 (MQ below ((kQv G (S := Unit) (fun _ => True) (fun _ => zw G (XS 2) 105 a s9.1 s9.2)) A) [.ref (a 5)].toArray s 0 0 A) (F0 m 123 ls []) := by
            intro g L H locs ls h hP hD hS hl
            unfold fX6_advance_5_p123 at h
            refine lv_aload_n hx hb dX6_advance_123 rfl (lv_at hl 0 rfl) ?_
            refine lv_dup hx hb dX6_advance_124 rfl ?_
            refine x_getv (v := .int (g 5 3)) (Or.inl fl_X6_34) C hP (by decide) xs_5 rfl dX6_advance_125 ?_
            refine lv_iconst (v := 1) hx hb dX6_advance_128 (by decide) ?_
            refine lv_iadd hx hb dX6_advance_129 ?_
            refine y_puti (Or.inl fl_X6_34) ft_X6_3 C hP hD hS (by decide) xs_5 rfl rfl rfl dX6_advance_130 h (fun g10 H locs h hP hD hS => ?_)
            exact y_vret C hr hlk hP hD hS h (Nat.le_of_ble_eq_true rfl) (Nat.le_of_ble_eq_true rfl) dX6_advance_133
          refine lv_icmp_eq (x := (g9 5 4)) (y := 3) (tgt := 123) hx hb dX6_advance_112 (by decide) (fun c11 => ?_) (fun c11 => ?_)
          ·
            have h := ite_t c11 h
            exact J123 g9 L7 H locs ls h hP hD hS (lv_sub hl [0] rfl)
          ·
            have h := ite_e c11 h
            refine lv_aload_n hx hb dX6_advance_115 rfl (lv_at hl 0 rfl) ?_
            refine x_getv (v := .int (g9 5 4)) (Or.inl fl_X6_50) C hP (by decide) xs_5 rfl dX6_advance_116 ?_
            refine lv_iconst (v := 4) hx hb dX6_advance_119 (by decide) ?_
            refine lv_icmp_ne (x := (g9 5 4)) (y := 4) (tgt := 134) hx hb dX6_advance_120 (by decide) (fun c12 => ?_) (fun c12 => ?_)
            ·
              have h := ite_e c12 h
              have lp134 : ∀ (_ : True), ∀ (n : Nat) (v : (Nat → Nat → Int32) × (Nat → Nat → Int64)), whileK (fun k v => fX6_advance_5_s134 fu k v.1 v.2) n v = some (res, s9) → ∀ (H : Heap) (locs : List Loc) (ls : Array Slot), va_P G.1 vwCl (zw G (XS 2) 105 a (v.1) (v.2)) H → va_D A (zw G (XS 2) 105 a (v.1) (v.2)) → va_S A s.heap H locs → lv_has ls 1 [(0, .ref (a 5))] → W p l e { frames := 7, cells := 0, slots := 0, locals := 130 } s m [.ref (a 5)].toArray below meth c H locs 0 0 (MQ below ((kQv G (S := Unit) (fun _ => True) (fun _ => zw G (XS 2) 105 a s9.1 s9.2)) A) [.ref (a 5)].toArray s 0 0 A) (F0 m 134 ls []) := by
                intro _
                refine while_ind (fun k134 ih134 v h => ?_)
                obtain ⟨g, L⟩ := v
                intro H locs ls hP hD hS hl
                have h : fX6_advance_5_s134 fu k134 g L = some (res, s9) := h
                have hP : va_P G.1 vwCl (zw G (XS 2) 105 a g L) H := hP
                have hD : va_D A (zw G (XS 2) 105 a g L) := hD
                have hl : lv_has ls 1 [(0, .ref (a 5))] := hl
                show W p l e { frames := 7, cells := 0, slots := 0, locals := 130 } s m [.ref (a 5)].toArray below meth c H locs 0 0 (MQ below ((kQv G (S := Unit) (fun _ => True) (fun _ => zw G (XS 2) 105 a s9.1 s9.2)) A) [.ref (a 5)].toArray s 0 0 A) (F0 m 134 ls [])
                unfold fX6_advance_5_s134 at h
                refine lv_aload_n hx hb dX6_advance_134 rfl (lv_at hl 0 rfl) ?_
                refine x_getv (v := .int (g 5 3)) (Or.inl fl_X6_34) C hP (by decide) xs_5 rfl dX6_advance_135 ?_
                refine lv_aload_n hx hb dX6_advance_138 rfl (lv_at hl 0 rfl) ?_
                refine x_getv (v := .int (g 5 2)) (Or.inl fl_X6_30) C hP (by decide) xs_5 rfl dX6_advance_139 ?_
                have J222 : ∀ (g : Nat → Nat → Int32) (L : Nat → Nat → Int64) (H : Heap) (locs : List Loc) (ls : Array Slot), fX6_advance_5_p222 fu g L = some (res, s9) → va_P G.1 vwCl (zw G (XS 2) 105 a g L) H → va_D A (zw G (XS 2) 105 a g L) → va_S A s.heap H locs → lv_has ls 1 [] → W p l e { frames := 7, cells := 0, slots := 0, locals := 130 } s m [.ref (a 5)].toArray below meth c H locs 0 0 (MQ below ((kQv G (S := Unit) (fun _ => True) (fun _ => zw G (XS 2) 105 a s9.1 s9.2)) A) [.ref (a 5)].toArray s 0 0 A) (F0 m 222 ls []) := by
                  intro g L H locs ls h hP hD hS hl
                  unfold fX6_advance_5_p222 at h
                  exact y_vret C hr hlk hP hD hS h (Nat.le_of_ble_eq_true rfl) (Nat.le_of_ble_eq_true rfl) dX6_advance_222
                refine lv_icmp_ge (x := (g 5 3)) (y := (g 5 2)) (tgt := 222) hx hb dX6_advance_142 (by decide) (fun c13 => ?_) (fun c13 => ?_)
                ·
                  have h := ite_t c13 h
                  exact J222 g L H locs ls h hP hD hS (lv_sub hl [] rfl)
                ·
                  have h := ite_e c13 h
                  refine lv_aload_n hx hb dX6_advance_145 rfl (lv_at hl 0 rfl) ?_
                  refine x_getr (Or.inl fl_X6_9) C hP (by decide) xs_5 rfl dX6_advance_146 ?_
                  refine lv_aload_n hx hb dX6_advance_149 rfl (lv_at hl 0 rfl) ?_
                  refine x_getv (v := .int (g 5 3)) (Or.inl fl_X6_34) C hP (by decide) xs_5 rfl dX6_advance_150 ?_
                  refine y_ald C hP (by decide) xs_14 dX6_advance_153 h (fun h => ?_)
                  obtain ⟨z_, g15, L16, hf17, h⟩ := cb_some h
                  refine x_callSi (rest := []) li_X6_65 C (rX6_kindOf l G H.size a fu g L (g 14 (Int32.toNatClampNeg (g 5 3))) z_ (g15, L16) hf17) (kR rfl) hP hD hS rfl hl.1 rfl (Nat.le_of_ble_eq_true rfl) dX6_advance_154 (fun x14 u_ H locs e_ hP hD hS => ?_)
                  have e_ : x14 = z_ := e_
                  subst e_
                  have hP : va_P G.1 vwCl (zw G (XS 2) 105 a g15 L16) H := hP
                  have hD : va_D A (zw G (XS 2) 105 a g15 L16) := hD
                  refine lv_aload_n hx hb dX6_advance_157 rfl (lv_at hl 0 rfl) ?_
                  refine x_getv (v := .int (g15 5 4)) (Or.inl fl_X6_50) C hP (by decide) xs_5 rfl dX6_advance_158 ?_
                  refine lv_icmp_ne (x := x14) (y := (g15 5 4)) (tgt := 222) hx hb dX6_advance_161 (by decide) (fun c18 => ?_) (fun c18 => ?_)
                  ·
                    have h := ite_e c18 h
                    exact J222 g15 L16 H locs ls h hP hD hS (lv_sub hl [] rfl)
                  ·
                    have h := ite_t c18 h
                    refine lv_aload_n hx hb dX6_advance_164 rfl (lv_at hl 0 rfl) ?_
                    refine x_getv (v := .int (g15 5 4)) (Or.inl fl_X6_50) C hP (by decide) xs_5 rfl dX6_advance_165 ?_
                    refine lv_iconst (v := 1) hx hb dX6_advance_168 (by decide) ?_
                    have J209 : ∀ (g : Nat → Nat → Int32) (L : Nat → Nat → Int64) (H : Heap) (locs : List Loc) (ls : Array Slot), fX6_advance_5_p209 fu k134 g L = some (res, s9) → va_P G.1 vwCl (zw G (XS 2) 105 a g L) H → va_D A (zw G (XS 2) 105 a g L) → va_S A s.heap H locs → lv_has ls 1 [(0, .ref (a 5))] → W p l e { frames := 7, cells := 0, slots := 0, locals := 130 } s m [.ref (a 5)].toArray below meth c H locs 0 0 (MQ below ((kQv G (S := Unit) (fun _ => True) (fun _ => zw G (XS 2) 105 a s9.1 s9.2)) A) [.ref (a 5)].toArray s 0 0 A) (F0 m 209 ls []) := by
                      intro g L H locs ls h hP hD hS hl
                      unfold fX6_advance_5_p209 at h
                      refine lv_aload_n hx hb dX6_advance_209 rfl (lv_at hl 0 rfl) ?_
                      refine lv_dup hx hb dX6_advance_210 rfl ?_
                      refine x_getv (v := .int (g 5 3)) (Or.inl fl_X6_34) C hP (by decide) xs_5 rfl dX6_advance_211 ?_
                      refine lv_iconst (v := 1) hx hb dX6_advance_214 (by decide) ?_
                      refine lv_iadd hx hb dX6_advance_215 ?_
                      refine y_puti (Or.inl fl_X6_34) ft_X6_3 C hP hD hS (by decide) xs_5 rfl rfl rfl dX6_advance_216 h (fun g19 H locs h hP hD hS => ?_)
                      refine lv_goto (tgt := 134) hx hb dX6_advance_219 (by decide) ?_
                      exact ih134 (g19, L) h H locs ls hP hD hS (lv_sub hl [0] rfl)
                    refine lv_icmp_ne (x := (g15 5 4)) (y := 1) (tgt := 209) hx hb dX6_advance_169 (by decide) (fun c20 => ?_) (fun c20 => ?_)
                    ·
                      have h := ite_e c20 h
                      exact J209 g15 L16 H locs ls h hP hD hS (lv_sub hl [0] rfl)
                    ·
                      have h := ite_t c20 h
                      refine lv_aload_n hx hb dX6_advance_172 rfl (lv_at hl 0 rfl) ?_
                      refine x_getv (v := .int (g15 5 3)) (Or.inl fl_X6_34) C hP (by decide) xs_5 rfl dX6_advance_173 ?_
                      refine lv_aload_n hx hb dX6_advance_176 rfl (lv_at hl 0 rfl) ?_
                      refine x_getv (v := .int (g15 5 5)) (Or.inl fl_X6_59) C hP (by decide) xs_5 rfl dX6_advance_177 ?_
                      refine lv_isub hx hb dX6_advance_180 ?_
                      refine lv_iconst (v := 4) hx hb dX6_advance_181 (by decide) ?_
                      refine lv_icmp_ge (x := ((g15 5 3) - (g15 5 5))) (y := 4) (tgt := 209) hx hb dX6_advance_182 (by decide) (fun c21 => ?_) (fun c21 => ?_)
                      ·
                        have h := ite_t c21 h
                        exact J209 g15 L16 H locs ls h hP hD hS (lv_sub hl [0] rfl)
                      ·
                        have h := ite_e c21 h
                        refine lv_aload_n hx hb dX6_advance_185 rfl (lv_at hl 0 rfl) ?_
                        refine lv_aload_n hx hb dX6_advance_186 rfl (lv_at hl 0 rfl) ?_
                        refine x_getv (v := .int (g15 5 6)) (Or.inl fl_X6_62) C hP (by decide) xs_5 rfl dX6_advance_187 ?_
                        refine lv_bipush (v := 10) hx hb dX6_advance_190 (by decide) ?_
                        refine lv_imul hx hb dX6_advance_192 ?_
                        refine lv_aload_n hx hb dX6_advance_193 rfl (lv_at hl 0 rfl) ?_
                        refine x_getr (Or.inl fl_X6_9) C hP (by decide) xs_5 rfl dX6_advance_194 ?_
                        refine lv_aload_n hx hb dX6_advance_197 rfl (lv_at hl 0 rfl) ?_
                        refine x_getv (v := .int (g15 5 3)) (Or.inl fl_X6_34) C hP (by decide) xs_5 rfl dX6_advance_198 ?_
                        refine y_ald C hP (by decide) xs_14 dX6_advance_201 h (fun h => ?_)
                        refine lv_iadd hx hb dX6_advance_202 ?_
                        refine lv_bipush (v := 48) hx hb dX6_advance_203 (by decide) ?_
                        refine lv_isub hx hb dX6_advance_205 ?_
                        refine y_puti (Or.inl fl_X6_62) ft_X6_6 C hP hD hS (by decide) xs_5 rfl rfl rfl dX6_advance_206 h (fun g22 H locs h hP hD hS => ?_)
                        exact J209 g22 L16 H locs ls h hP hD hS (lv_sub hl [0] rfl)
              exact lp134 trivial fu (g9, L7) h H locs ls hP hD hS (lv_sub hl [0] rfl)
            ·
              have h := ite_t c12 h
              exact J123 g9 L7 H locs ls h hP hD hS (lv_sub hl [0] rfl)
        ·
          have h := ite_e c4 h
          refine lv_aload_n hx hb dX6_advance_85 rfl (lv_at hl 0 rfl) ?_
          refine lv_iconst (v := 0) hx hb dX6_advance_86 (by decide) ?_
          refine y_puti (Or.inl fl_X6_50) ft_X6_4 C hP hD hS (by decide) xs_5 rfl rfl rfl dX6_advance_87 h (fun g23 H locs h hP hD hS => ?_)
          exact y_vret C hr hlk hP hD hS h (Nat.le_of_ble_eq_true rfl) (Nat.le_of_ble_eq_true rfl) dX6_advance_90
      refine lv_icmp_ge (x := (g 5 3)) (y := (g 5 2)) (tgt := 61) hx hb dX6_advance_17 (by decide) (fun c24 => ?_) (fun c24 => ?_)
      ·
        have h := ite_t c24 h
        exact J61 g L H locs ls h hP hD hS (lv_sub hl [0] rfl)
      ·
        have h := ite_e c24 h
        refine lv_aload_n hx hb dX6_advance_20 rfl (lv_at hl 0 rfl) ?_
        refine x_getr (Or.inl fl_X6_9) C hP (by decide) xs_5 rfl dX6_advance_21 ?_
        refine lv_aload_n hx hb dX6_advance_24 rfl (lv_at hl 0 rfl) ?_
        refine x_getv (v := .int (g 5 3)) (Or.inl fl_X6_34) C hP (by decide) xs_5 rfl dX6_advance_25 ?_
        refine y_ald C hP (by decide) xs_14 dX6_advance_28 h (fun h => ?_)
        refine lv_bipush (v := 32) hx hb dX6_advance_29 (by decide) ?_
        have J48 : ∀ (g : Nat → Nat → Int32) (L : Nat → Nat → Int64) (H : Heap) (locs : List Loc) (ls : Array Slot), fX6_advance_5_p48 fu k9 g L = some (res, s9) → va_P G.1 vwCl (zw G (XS 2) 105 a g L) H → va_D A (zw G (XS 2) 105 a g L) → va_S A s.heap H locs → lv_has ls 1 [(0, .ref (a 5))] → W p l e { frames := 7, cells := 0, slots := 0, locals := 130 } s m [.ref (a 5)].toArray below meth c H locs 0 0 (MQ below ((kQv G (S := Unit) (fun _ => True) (fun _ => zw G (XS 2) 105 a s9.1 s9.2)) A) [.ref (a 5)].toArray s 0 0 A) (F0 m 48 ls []) := by
          intro g L H locs ls h hP hD hS hl
          unfold fX6_advance_5_p48 at h
          refine lv_aload_n hx hb dX6_advance_48 rfl (lv_at hl 0 rfl) ?_
          refine lv_dup hx hb dX6_advance_49 rfl ?_
          refine x_getv (v := .int (g 5 3)) (Or.inl fl_X6_34) C hP (by decide) xs_5 rfl dX6_advance_50 ?_
          refine lv_iconst (v := 1) hx hb dX6_advance_53 (by decide) ?_
          refine lv_iadd hx hb dX6_advance_54 ?_
          refine y_puti (Or.inl fl_X6_34) ft_X6_3 C hP hD hS (by decide) xs_5 rfl rfl rfl dX6_advance_55 h (fun g25 H locs h hP hD hS => ?_)
          refine lv_goto (tgt := 9) hx hb dX6_advance_58 (by decide) ?_
          exact ih9 (g25, L) h H locs ls hP hD hS (lv_sub hl [0] rfl)
        refine lv_icmp_eq (x := (g 14 (Int32.toNatClampNeg (g 5 3)))) (y := 32) (tgt := 48) hx hb dX6_advance_31 (by decide) (fun c26 => ?_) (fun c26 => ?_)
        ·
          have h := ite_t c26 h
          exact J48 g L H locs ls h hP hD hS (lv_sub hl [0] rfl)
        ·
          have h := ite_e c26 h
          refine lv_aload_n hx hb dX6_advance_34 rfl (lv_at hl 0 rfl) ?_
          refine x_getr (Or.inl fl_X6_9) C hP (by decide) xs_5 rfl dX6_advance_35 ?_
          refine lv_aload_n hx hb dX6_advance_38 rfl (lv_at hl 0 rfl) ?_
          refine x_getv (v := .int (g 5 3)) (Or.inl fl_X6_34) C hP (by decide) xs_5 rfl dX6_advance_39 ?_
          refine y_ald C hP (by decide) xs_14 dX6_advance_42 h (fun h => ?_)
          refine lv_bipush (v := 10) hx hb dX6_advance_43 (by decide) ?_
          refine lv_icmp_ne (x := (g 14 (Int32.toNatClampNeg (g 5 3)))) (y := 10) (tgt := 61) hx hb dX6_advance_45 (by decide) (fun c27 => ?_) (fun c27 => ?_)
          ·
            have h := ite_e c27 h
            exact J61 g L H locs ls h hP hD hS (lv_sub hl [0] rfl)
          ·
            have h := ite_t c27 h
            exact J48 g L H locs ls h hP hD hS (lv_sub hl [0] rfl)
    exact lp9 trivial fu (g, L) h H locs ls hP hD hS (lv_sub hl [0] rfl)
  ·
    have h := ite_t c1 h
    exact y_vret C hr hlk hP hD hS h (Nat.le_of_ble_eq_true rfl) (Nat.le_of_ble_eq_true rfl) dX6_advance_8
def fX6_refuse_5_p26 (fu : Nat) (g : Nat → Nat → Int32) (L : Nat → Nat → Int64) : Option ((Unit) × zS) :=
  some ((), (g, L))
def fX6_refuse_5 (fu : Nat) (p1 : Int32) (g : Nat → Nat → Int32) (L : Nat → Nat → Int64) : Option ((Unit) × zS) :=
  if (g 5 4) = 5 then fX6_refuse_5_p26 fu g L
  else sti g 5 7 p1 (fun g2 =>
  sti g2 5 8 (g2 5 5) (fun g3 =>
  sti g3 5 4 5 (fun g4 =>
  fX6_refuse_5_p26 fu g4 L)))
set_option maxHeartbeats 4000000 in
set_option maxRecDepth 100000 in
theorem rX6_refuse_5 (l : Launch) (G : kG) (sz : Nat) (a : Nat → Nat) (fu : Nat) (g : Nat → Nat → Int32) (L : Nat → Nat → Int64) (p1 : Int32) (res : Unit) (s9 : zS) (h : fX6_refuse_5 fu p1 g L = some (res, s9)) : kM l yX6_refuse cX6_refuse 2 none { frames := 6, cells := 0, slots := 0, locals := 110 } G [.ref (a 5), .int p1] (zw G (XS 2) 105 a g L) sz (kQv G (S := Unit) (fun _ => True) (fun _ => zw G (XS 2) 105 a s9.1 s9.2)) := by
  refine kM.of (by decide) (Nat.le_of_ble_eq_true rfl) ?_
  intro p e s m below meth c A ls H C hr hlk hnm hP hD hS hl
  have C : kC G p s m c cX6_refuse 2 RX6 A := C
  have hx := C.1
  have hb := C.2.1
  have hl : lv_has ls 2 [(0, .ref (a 5)), (1, .int p1)] := hl
  obtain ⟨locs, hlocs⟩ : ∃ q : List Loc, q = [] := ⟨_, rfl⟩
  rw [← hlocs] at hS
  rw [← hlocs]
  unfold fX6_refuse_5 at h
  refine lv_aload_n hx hb dX6_refuse_0 rfl (lv_at hl 0 rfl) ?_
  refine x_getv (v := .int (g 5 4)) (Or.inl fl_X6_50) C hP (by decide) xs_5 rfl dX6_refuse_1 ?_
  refine lv_iconst (v := 5) hx hb dX6_refuse_4 (by decide) ?_
  have J26 : ∀ (g : Nat → Nat → Int32) (L : Nat → Nat → Int64) (H : Heap) (locs : List Loc) (ls : Array Slot), fX6_refuse_5_p26 fu g L = some (res, s9) → va_P G.1 vwCl (zw G (XS 2) 105 a g L) H → va_D A (zw G (XS 2) 105 a g L) → va_S A s.heap H locs → lv_has ls 2 [] → W p l e { frames := 6, cells := 0, slots := 0, locals := 110 } s m [.ref (a 5), .int p1].toArray below meth c H locs 0 0 (MQ below ((kQv G (S := Unit) (fun _ => True) (fun _ => zw G (XS 2) 105 a s9.1 s9.2)) A) [.ref (a 5), .int p1].toArray s 0 0 A) (F0 m 26 ls []) := by
    intro g L H locs ls h hP hD hS hl
    unfold fX6_refuse_5_p26 at h
    exact y_vret C hr hlk hP hD hS h (Nat.le_of_ble_eq_true rfl) (Nat.le_of_ble_eq_true rfl) dX6_refuse_26
  refine lv_icmp_eq (x := (g 5 4)) (y := 5) (tgt := 26) hx hb dX6_refuse_5 (by decide) (fun c1 => ?_) (fun c1 => ?_)
  ·
    have h := ite_t c1 h
    exact J26 g L H locs ls h hP hD hS (lv_sub hl [] rfl)
  ·
    have h := ite_e c1 h
    refine lv_aload_n hx hb dX6_refuse_8 rfl (lv_at hl 0 rfl) ?_
    refine lv_iload_n hx hb dX6_refuse_9 rfl (lv_at hl 1 rfl) ?_
    refine y_puti (Or.inl fl_X6_37) ft_X6_7 C hP hD hS (by decide) xs_5 rfl rfl rfl dX6_refuse_10 h (fun g2 H locs h hP hD hS => ?_)
    refine lv_aload_n hx hb dX6_refuse_13 rfl (lv_at hl 0 rfl) ?_
    refine lv_aload_n hx hb dX6_refuse_14 rfl (lv_at hl 0 rfl) ?_
    refine x_getv (v := .int (g2 5 5)) (Or.inl fl_X6_59) C hP (by decide) xs_5 rfl dX6_refuse_15 ?_
    refine y_puti (Or.inl fl_X6_40) ft_X6_8 C hP hD hS (by decide) xs_5 rfl rfl rfl dX6_refuse_18 h (fun g3 H locs h hP hD hS => ?_)
    refine lv_aload_n hx hb dX6_refuse_21 rfl (lv_at hl 0 rfl) ?_
    refine lv_iconst (v := 5) hx hb dX6_refuse_22 (by decide) ?_
    refine y_puti (Or.inl fl_X6_50) ft_X6_4 C hP hD hS (by decide) xs_5 rfl rfl rfl dX6_refuse_23 h (fun g4 H locs h hP hD hS => ?_)
    exact J26 g4 L H locs ls h hP hD hS (lv_sub hl [] rfl)
def fX6_isTooLong_5_p18 (fu : Nat) (t0 : Int32) (g : Nat → Nat → Int32) (L : Nat → Nat → Int64) : Option ((Int32) × zS) :=
  ckb t0 (some (t0, (g, L)))
def fX6_isTooLong_5 (fu : Nat) (g : Nat → Nat → Int32) (L : Nat → Nat → Int64) : Option ((Int32) × zS) :=
  if ((g 5 3) - (g 5 5)) ≤ 4 then fX6_isTooLong_5_p18 fu 0 g L
  else fX6_isTooLong_5_p18 fu 1 g L
set_option maxHeartbeats 4000000 in
set_option maxRecDepth 100000 in
theorem rX6_isTooLong_5 (l : Launch) (G : kG) (sz : Nat) (a : Nat → Nat) (fu : Nat) (g : Nat → Nat → Int32) (L : Nat → Nat → Int64) (res : Int32) (s9 : zS) (h : fX6_isTooLong_5 fu g L = some (res, s9)) : kM l yX6_isTooLong cX6_isTooLong 1 (some .boolean) { frames := 6, cells := 0, slots := 0, locals := 110 } G [.ref (a 5)] (zw G (XS 2) 105 a g L) sz (kQi G (S := Unit) (fun r' _ => r' = res) (fun _ => zw G (XS 2) 105 a s9.1 s9.2)) := by
  refine kM.of (by decide) (Nat.le_of_ble_eq_true rfl) ?_
  intro p e s m below meth c A ls H C hr hlk hnm hP hD hS hl
  have C : kC G p s m c cX6_isTooLong 1 RX6 A := C
  have hx := C.1
  have hb := C.2.1
  have hl : lv_has ls 1 [(0, .ref (a 5))] := hl
  obtain ⟨locs, hlocs⟩ : ∃ q : List Loc, q = [] := ⟨_, rfl⟩
  rw [← hlocs] at hS
  rw [← hlocs]
  unfold fX6_isTooLong_5 at h
  refine lv_aload_n hx hb dX6_isTooLong_0 rfl (lv_at hl 0 rfl) ?_
  refine x_getv (v := .int (g 5 3)) (Or.inl fl_X6_34) C hP (by decide) xs_5 rfl dX6_isTooLong_1 ?_
  refine lv_aload_n hx hb dX6_isTooLong_4 rfl (lv_at hl 0 rfl) ?_
  refine x_getv (v := .int (g 5 5)) (Or.inl fl_X6_59) C hP (by decide) xs_5 rfl dX6_isTooLong_5 ?_
  refine lv_isub hx hb dX6_isTooLong_8 ?_
  refine lv_iconst (v := 4) hx hb dX6_isTooLong_9 (by decide) ?_
  have J18 : ∀ (t0 : Int32) (g : Nat → Nat → Int32) (L : Nat → Nat → Int64) (H : Heap) (locs : List Loc) (ls : Array Slot), fX6_isTooLong_5_p18 fu t0 g L = some (res, s9) → va_P G.1 vwCl (zw G (XS 2) 105 a g L) H → va_D A (zw G (XS 2) 105 a g L) → va_S A s.heap H locs → lv_has ls 1 [] → W p l e { frames := 6, cells := 0, slots := 0, locals := 110 } s m [.ref (a 5)].toArray below meth c H locs 0 0 (MQ below ((kQi G (S := Unit) (fun r' _ => r' = res) (fun _ => zw G (XS 2) 105 a s9.1 s9.2)) A) [.ref (a 5)].toArray s 0 0 A) (F0 m 18 ls [.int t0]) := by
    intro t0 g L H locs ls h hP hD hS hl
    unfold fX6_isTooLong_5_p18 at h
    exact y_zret C hr hlk hP hD hS h (Nat.le_of_ble_eq_true rfl) (Nat.le_of_ble_eq_true rfl) dX6_isTooLong_18
  refine lv_icmp_le (x := ((g 5 3) - (g 5 5))) (y := 4) (tgt := 17) hx hb dX6_isTooLong_10 (by decide) (fun c1 => ?_) (fun c1 => ?_)
  ·
    have h := ite_t c1 h
    refine lv_iconst (v := 0) hx hb dX6_isTooLong_17 (by decide) ?_
    exact J18 0 g L H locs ls h hP hD hS (lv_sub hl [] rfl)
  ·
    have h := ite_e c1 h
    refine lv_iconst (v := 1) hx hb dX6_isTooLong_13 (by decide) ?_
    refine lv_goto (tgt := 18) hx hb dX6_isTooLong_14 (by decide) ?_
    exact J18 1 g L H locs ls h hP hD hS (lv_sub hl [] rfl)
def fX6_readNumber_5_p38 (fu : Nat) (g : Nat → Nat → Int32) (L : Nat → Nat → Int64) : Option ((Int32) × zS) :=
  cb (fX6_refuse_5 fu 2 g L) (fun x6 g7 L8 =>
  some (0, (g7, L8)))
def fX6_readNumber_5 (fu : Nat) (p1 : Int32) (p2 : Int32) (g : Nat → Nat → Int32) (L : Nat → Nat → Int64) : Option ((Int32) × zS) :=
  if (g 5 4) = 1 then cb (fX6_isTooLong_5 fu g L) (fun x2 g3 L4 =>
  if x2 = 0 then (if (g3 5 6) < p1 then fX6_readNumber_5_p38 fu g3 L4
  else if (g3 5 6) ≤ p2 then lti (g3 5 6) (fun x13 =>
  cb (fX6_advance_5 fu g3 L4) (fun x14 g15 L16 =>
  some (x13, (g15, L16))))
  else fX6_readNumber_5_p38 fu g3 L4)
  else fX6_readNumber_5_p38 fu g3 L4)
  else cb (fX6_refuse_5 fu 1 g L) (fun x18 g19 L20 =>
  some (0, (g19, L20)))
set_option maxHeartbeats 4000000 in
set_option maxRecDepth 100000 in
theorem rX6_readNumber_5 (l : Launch) (G : kG) (sz : Nat) (a : Nat → Nat) (fu : Nat) (g : Nat → Nat → Int32) (L : Nat → Nat → Int64) (p1 : Int32) (p2 : Int32) (res : Int32) (s9 : zS) (h : fX6_readNumber_5 fu p1 p2 g L = some (res, s9)) : kM l yX6_readNumber cX6_readNumber 4 (some .int) { frames := 8, cells := 0, slots := 0, locals := 150 } G [.ref (a 5), .int p1, .int p2] (zw G (XS 2) 105 a g L) sz (kQi G (S := Unit) (fun r' _ => r' = res) (fun _ => zw G (XS 2) 105 a s9.1 s9.2)) := by
  refine kM.of (by decide) (Nat.le_of_ble_eq_true rfl) ?_
  intro p e s m below meth c A ls H C hr hlk hnm hP hD hS hl
  have C : kC G p s m c cX6_readNumber 4 RX6 A := C
  have hx := C.1
  have hb := C.2.1
  have hl : lv_has ls 4 [(0, .ref (a 5)), (1, .int p1), (2, .int p2)] := hl
  obtain ⟨locs, hlocs⟩ : ∃ q : List Loc, q = [] := ⟨_, rfl⟩
  rw [← hlocs] at hS
  rw [← hlocs]
  unfold fX6_readNumber_5 at h
  refine lv_aload_n hx hb dX6_readNumber_0 rfl (lv_at hl 0 rfl) ?_
  refine x_getv (v := .int (g 5 4)) (Or.inl fl_X6_50) C hP (by decide) xs_5 rfl dX6_readNumber_1 ?_
  refine lv_iconst (v := 1) hx hb dX6_readNumber_4 (by decide) ?_
  refine lv_icmp_eq (x := (g 5 4)) (y := 1) (tgt := 15) hx hb dX6_readNumber_5 (by decide) (fun c1 => ?_) (fun c1 => ?_)
  ·
    have h := ite_t c1 h
    refine lv_aload_n hx hb dX6_readNumber_15 rfl (lv_at hl 0 rfl) ?_
    obtain ⟨z_, g3, L4, hf5, h⟩ := cb_some h
    refine x_callVi (rest := []) li_X6_82 C (rX6_isTooLong_5 l G H.size a fu g L z_ (g3, L4) hf5) (kR rfl) hP hD hS 5 6 rfl (zat (by decide) xs_5) rfl hl.1 rfl (Nat.le_of_ble_eq_true rfl) dX6_readNumber_16 (fun x2 u_ H locs e_ hP hD hS => ?_)
    have e_ : x2 = z_ := e_
    subst e_
    have hP : va_P G.1 vwCl (zw G (XS 2) 105 a g3 L4) H := hP
    have hD : va_D A (zw G (XS 2) 105 a g3 L4) := hD
    have J38 : ∀ (g : Nat → Nat → Int32) (L : Nat → Nat → Int64) (H : Heap) (locs : List Loc) (ls : Array Slot), fX6_readNumber_5_p38 fu g L = some (res, s9) → va_P G.1 vwCl (zw G (XS 2) 105 a g L) H → va_D A (zw G (XS 2) 105 a g L) → va_S A s.heap H locs → lv_has ls 4 [(0, .ref (a 5))] → W p l e { frames := 8, cells := 0, slots := 0, locals := 150 } s m [.ref (a 5), .int p1, .int p2].toArray below meth c H locs 0 0 (MQ below ((kQi G (S := Unit) (fun r' _ => r' = res) (fun _ => zw G (XS 2) 105 a s9.1 s9.2)) A) [.ref (a 5), .int p1, .int p2].toArray s 0 0 A) (F0 m 38 ls []) := by
      intro g L H locs ls h hP hD hS hl
      unfold fX6_readNumber_5_p38 at h
      refine lv_aload_n hx hb dX6_readNumber_38 rfl (lv_at hl 0 rfl) ?_
      refine lv_iconst (v := 2) hx hb dX6_readNumber_39 (by decide) ?_
      obtain ⟨z_, g7, L8, hf9, h⟩ := cb_some h
      refine x_callVv (rest := []) li_X6_78 C (rX6_refuse_5 l G H.size a fu g L 2 z_ (g7, L8) hf9) (kR rfl) hP hD hS 5 6 rfl (zat (by decide) xs_5) rfl hl.1 rfl (Nat.le_of_ble_eq_true rfl) dX6_readNumber_40 (fun u_ H locs e_ hP hD hS => ?_)
      have hP : va_P G.1 vwCl (zw G (XS 2) 105 a g7 L8) H := hP
      have hD : va_D A (zw G (XS 2) 105 a g7 L8) := hD
      refine lv_iconst (v := 0) hx hb dX6_readNumber_43 (by decide) ?_
      exact y_iret C hr hlk hP hD hS h (Nat.le_of_ble_eq_true rfl) (Nat.le_of_ble_eq_true rfl) dX6_readNumber_44
    refine lv_if_ne (x := x2) (tgt := 38) hx hb dX6_readNumber_19 (by decide) (fun c10 => ?_) (fun c10 => ?_)
    ·
      have h := ite_e c10 h
      exact J38 g3 L4 H locs ls h hP hD hS (lv_sub hl [0] rfl)
    ·
      have h := ite_t c10 h
      refine lv_aload_n hx hb dX6_readNumber_22 rfl (lv_at hl 0 rfl) ?_
      refine x_getv (v := .int (g3 5 6)) (Or.inl fl_X6_62) C hP (by decide) xs_5 rfl dX6_readNumber_23 ?_
      refine lv_iload_n hx hb dX6_readNumber_26 rfl (lv_at hl 1 rfl) ?_
      refine lv_icmp_lt (x := (g3 5 6)) (y := p1) (tgt := 38) hx hb dX6_readNumber_27 (by decide) (fun c11 => ?_) (fun c11 => ?_)
      ·
        have h := ite_t c11 h
        exact J38 g3 L4 H locs ls h hP hD hS (lv_sub hl [0] rfl)
      ·
        have h := ite_e c11 h
        refine lv_aload_n hx hb dX6_readNumber_30 rfl (lv_at hl 0 rfl) ?_
        refine x_getv (v := .int (g3 5 6)) (Or.inl fl_X6_62) C hP (by decide) xs_5 rfl dX6_readNumber_31 ?_
        refine lv_iload_n hx hb dX6_readNumber_34 rfl (lv_at hl 2 rfl) ?_
        refine lv_icmp_le (x := (g3 5 6)) (y := p2) (tgt := 45) hx hb dX6_readNumber_35 (by decide) (fun c12 => ?_) (fun c12 => ?_)
        ·
          have h := ite_t c12 h
          refine lv_aload_n hx hb dX6_readNumber_45 rfl (lv_at hl 0 rfl) ?_
          refine x_getv (v := .int (g3 5 6)) (Or.inl fl_X6_62) C hP (by decide) xs_5 rfl dX6_readNumber_46 ?_
          refine y_let h (fun x13 h => ?_)
          refine lv_istore_n (lv' := [(3, .int x13), (0, .ref (a 5)), (1, .int p1), (2, .int p2)]) hx hb dX6_readNumber_49 rfl hl (by decide) rfl (fun ls hl => ?_)
          refine lv_aload_n hx hb dX6_readNumber_50 rfl (lv_at hl 1 rfl) ?_
          obtain ⟨z_, g15, L16, hf17, h⟩ := cb_some h
          refine x_callVv (rest := []) li_X6_53 C (rX6_advance_5 l G H.size a fu g3 L4 z_ (g15, L16) hf17) (kR rfl) hP hD hS 5 6 rfl (zat (by decide) xs_5) rfl hl.1 rfl (Nat.le_of_ble_eq_true rfl) dX6_readNumber_51 (fun u_ H locs e_ hP hD hS => ?_)
          have hP : va_P G.1 vwCl (zw G (XS 2) 105 a g15 L16) H := hP
          have hD : va_D A (zw G (XS 2) 105 a g15 L16) := hD
          refine lv_iload_n hx hb dX6_readNumber_54 rfl (lv_at hl 0 rfl) ?_
          exact y_iret C hr hlk hP hD hS h (Nat.le_of_ble_eq_true rfl) (Nat.le_of_ble_eq_true rfl) dX6_readNumber_55
        ·
          have h := ite_e c12 h
          exact J38 g3 L4 H locs ls h hP hD hS (lv_sub hl [0] rfl)
  ·
    have h := ite_e c1 h
    refine lv_aload_n hx hb dX6_readNumber_8 rfl (lv_at hl 0 rfl) ?_
    refine lv_iconst (v := 1) hx hb dX6_readNumber_9 (by decide) ?_
    obtain ⟨z_, g19, L20, hf21, h⟩ := cb_some h
    refine x_callVv (rest := []) li_X6_78 C (rX6_refuse_5 l G H.size a fu g L 1 z_ (g19, L20) hf21) (kR rfl) hP hD hS 5 6 rfl (zat (by decide) xs_5) rfl hl.1 rfl (Nat.le_of_ble_eq_true rfl) dX6_readNumber_10 (fun u_ H locs e_ hP hD hS => ?_)
    have hP : va_P G.1 vwCl (zw G (XS 2) 105 a g19 L20) H := hP
    have hD : va_D A (zw G (XS 2) 105 a g19 L20) := hD
    refine lv_iconst (v := 0) hx hb dX6_readNumber_13 (by decide) ?_
    exact y_iret C hr hlk hP hD hS h (Nat.le_of_ble_eq_true rfl) (Nat.le_of_ble_eq_true rfl) dX6_readNumber_14
def fX6_isSignNow_5_p26 (fu : Nat) (t0 : Int32) (g : Nat → Nat → Int32) (L : Nat → Nat → Int64) : Option ((Int32) × zS) :=
  ckb t0 (some (t0, (g, L)))
def fX6_isSignNow_5_p25 (fu : Nat) (g : Nat → Nat → Int32) (L : Nat → Nat → Int64) : Option ((Int32) × zS) :=
  fX6_isSignNow_5_p26 fu 0 g L
def fX6_isSignNow_5 (fu : Nat) (p1 : Int32) (g : Nat → Nat → Int32) (L : Nat → Nat → Int64) : Option ((Int32) × zS) :=
  if (g 5 4) = 3 then ck (g 5 5) 700 (
  if (g 14 (Int32.toNatClampNeg (g 5 5))) = p1 then fX6_isSignNow_5_p26 fu 1 g L
  else fX6_isSignNow_5_p25 fu g L)
  else fX6_isSignNow_5_p25 fu g L
set_option maxHeartbeats 4000000 in
set_option maxRecDepth 100000 in
theorem rX6_isSignNow_5 (l : Launch) (G : kG) (sz : Nat) (a : Nat → Nat) (fu : Nat) (g : Nat → Nat → Int32) (L : Nat → Nat → Int64) (p1 : Int32) (res : Int32) (s9 : zS) (h : fX6_isSignNow_5 fu p1 g L = some (res, s9)) : kM l yX6_isSignNow cX6_isSignNow 2 (some .boolean) { frames := 6, cells := 0, slots := 0, locals := 110 } G [.ref (a 5), .int p1] (zw G (XS 2) 105 a g L) sz (kQi G (S := Unit) (fun r' _ => r' = res) (fun _ => zw G (XS 2) 105 a s9.1 s9.2)) := by
  refine kM.of (by decide) (Nat.le_of_ble_eq_true rfl) ?_
  intro p e s m below meth c A ls H C hr hlk hnm hP hD hS hl
  have C : kC G p s m c cX6_isSignNow 2 RX6 A := C
  have hx := C.1
  have hb := C.2.1
  have hl : lv_has ls 2 [(0, .ref (a 5)), (1, .int p1)] := hl
  obtain ⟨locs, hlocs⟩ : ∃ q : List Loc, q = [] := ⟨_, rfl⟩
  rw [← hlocs] at hS
  rw [← hlocs]
  unfold fX6_isSignNow_5 at h
  refine lv_aload_n hx hb dX6_isSignNow_0 rfl (lv_at hl 0 rfl) ?_
  refine x_getv (v := .int (g 5 4)) (Or.inl fl_X6_50) C hP (by decide) xs_5 rfl dX6_isSignNow_1 ?_
  refine lv_iconst (v := 3) hx hb dX6_isSignNow_4 (by decide) ?_
  have J26 : ∀ (t0 : Int32) (g : Nat → Nat → Int32) (L : Nat → Nat → Int64) (H : Heap) (locs : List Loc) (ls : Array Slot), fX6_isSignNow_5_p26 fu t0 g L = some (res, s9) → va_P G.1 vwCl (zw G (XS 2) 105 a g L) H → va_D A (zw G (XS 2) 105 a g L) → va_S A s.heap H locs → lv_has ls 2 [] → W p l e { frames := 6, cells := 0, slots := 0, locals := 110 } s m [.ref (a 5), .int p1].toArray below meth c H locs 0 0 (MQ below ((kQi G (S := Unit) (fun r' _ => r' = res) (fun _ => zw G (XS 2) 105 a s9.1 s9.2)) A) [.ref (a 5), .int p1].toArray s 0 0 A) (F0 m 26 ls [.int t0]) := by
    intro t0 g L H locs ls h hP hD hS hl
    unfold fX6_isSignNow_5_p26 at h
    exact y_zret C hr hlk hP hD hS h (Nat.le_of_ble_eq_true rfl) (Nat.le_of_ble_eq_true rfl) dX6_isSignNow_26
  have J25 : ∀ (g : Nat → Nat → Int32) (L : Nat → Nat → Int64) (H : Heap) (locs : List Loc) (ls : Array Slot), fX6_isSignNow_5_p25 fu g L = some (res, s9) → va_P G.1 vwCl (zw G (XS 2) 105 a g L) H → va_D A (zw G (XS 2) 105 a g L) → va_S A s.heap H locs → lv_has ls 2 [] → W p l e { frames := 6, cells := 0, slots := 0, locals := 110 } s m [.ref (a 5), .int p1].toArray below meth c H locs 0 0 (MQ below ((kQi G (S := Unit) (fun r' _ => r' = res) (fun _ => zw G (XS 2) 105 a s9.1 s9.2)) A) [.ref (a 5), .int p1].toArray s 0 0 A) (F0 m 25 ls []) := by
    intro g L H locs ls h hP hD hS hl
    unfold fX6_isSignNow_5_p25 at h
    refine lv_iconst (v := 0) hx hb dX6_isSignNow_25 (by decide) ?_
    exact J26 0 g L H locs ls h hP hD hS (lv_sub hl [] rfl)
  refine lv_icmp_ne (x := (g 5 4)) (y := 3) (tgt := 25) hx hb dX6_isSignNow_5 (by decide) (fun c1 => ?_) (fun c1 => ?_)
  ·
    have h := ite_e c1 h
    exact J25 g L H locs ls h hP hD hS (lv_sub hl [] rfl)
  ·
    have h := ite_t c1 h
    refine lv_aload_n hx hb dX6_isSignNow_8 rfl (lv_at hl 0 rfl) ?_
    refine x_getr (Or.inl fl_X6_9) C hP (by decide) xs_5 rfl dX6_isSignNow_9 ?_
    refine lv_aload_n hx hb dX6_isSignNow_12 rfl (lv_at hl 0 rfl) ?_
    refine x_getv (v := .int (g 5 5)) (Or.inl fl_X6_59) C hP (by decide) xs_5 rfl dX6_isSignNow_13 ?_
    refine y_ald C hP (by decide) xs_14 dX6_isSignNow_16 h (fun h => ?_)
    refine lv_iload_n hx hb dX6_isSignNow_17 rfl (lv_at hl 1 rfl) ?_
    refine lv_icmp_ne (x := (g 14 (Int32.toNatClampNeg (g 5 5)))) (y := p1) (tgt := 25) hx hb dX6_isSignNow_18 (by decide) (fun c2 => ?_) (fun c2 => ?_)
    ·
      have h := ite_e c2 h
      exact J25 g L H locs ls h hP hD hS (lv_sub hl [] rfl)
    ·
      have h := ite_t c2 h
      refine lv_iconst (v := 1) hx hb dX6_isSignNow_21 (by decide) ?_
      refine lv_goto (tgt := 26) hx hb dX6_isSignNow_22 (by decide) ?_
      exact J26 1 g L H locs ls h hP hD hS (lv_sub hl [] rfl)
def fX6_readSign_5_p20 (fu : Nat) (g : Nat → Nat → Int32) (L : Nat → Nat → Int64) : Option ((Unit) × zS) :=
  some ((), (g, L))
def fX6_readSign_5 (fu : Nat) (p1 : Int32) (g : Nat → Nat → Int32) (L : Nat → Nat → Int64) : Option ((Unit) × zS) :=
  cb (fX6_isSignNow_5 fu p1 g L) (fun x1 g2 L3 =>
  if x1 = 0 then cb (fX6_refuse_5 fu 1 g2 L3) (fun x6 g7 L8 =>
  fX6_readSign_5_p20 fu g7 L8)
  else cb (fX6_advance_5 fu g2 L3) (fun x10 g11 L12 =>
  fX6_readSign_5_p20 fu g11 L12))
set_option maxHeartbeats 4000000 in
set_option maxRecDepth 100000 in
theorem rX6_readSign_5 (l : Launch) (G : kG) (sz : Nat) (a : Nat → Nat) (fu : Nat) (g : Nat → Nat → Int32) (L : Nat → Nat → Int64) (p1 : Int32) (res : Unit) (s9 : zS) (h : fX6_readSign_5 fu p1 g L = some (res, s9)) : kM l yX6_readSign cX6_readSign 2 none { frames := 8, cells := 0, slots := 0, locals := 150 } G [.ref (a 5), .int p1] (zw G (XS 2) 105 a g L) sz (kQv G (S := Unit) (fun _ => True) (fun _ => zw G (XS 2) 105 a s9.1 s9.2)) := by
  refine kM.of (by decide) (Nat.le_of_ble_eq_true rfl) ?_
  intro p e s m below meth c A ls H C hr hlk hnm hP hD hS hl
  have C : kC G p s m c cX6_readSign 2 RX6 A := C
  have hx := C.1
  have hb := C.2.1
  have hl : lv_has ls 2 [(0, .ref (a 5)), (1, .int p1)] := hl
  obtain ⟨locs, hlocs⟩ : ∃ q : List Loc, q = [] := ⟨_, rfl⟩
  rw [← hlocs] at hS
  rw [← hlocs]
  unfold fX6_readSign_5 at h
  refine lv_aload_n hx hb dX6_readSign_0 rfl (lv_at hl 0 rfl) ?_
  refine lv_iload_n hx hb dX6_readSign_1 rfl (lv_at hl 1 rfl) ?_
  obtain ⟨z_, g2, L3, hf4, h⟩ := cb_some h
  refine x_callVi (rest := []) li_X6_86 C (rX6_isSignNow_5 l G H.size a fu g L p1 z_ (g2, L3) hf4) (kR rfl) hP hD hS 5 6 rfl (zat (by decide) xs_5) rfl hl.1 rfl (Nat.le_of_ble_eq_true rfl) dX6_readSign_2 (fun x1 u_ H locs e_ hP hD hS => ?_)
  have e_ : x1 = z_ := e_
  subst e_
  have hP : va_P G.1 vwCl (zw G (XS 2) 105 a g2 L3) H := hP
  have hD : va_D A (zw G (XS 2) 105 a g2 L3) := hD
  have J20 : ∀ (g : Nat → Nat → Int32) (L : Nat → Nat → Int64) (H : Heap) (locs : List Loc) (ls : Array Slot), fX6_readSign_5_p20 fu g L = some (res, s9) → va_P G.1 vwCl (zw G (XS 2) 105 a g L) H → va_D A (zw G (XS 2) 105 a g L) → va_S A s.heap H locs → lv_has ls 2 [] → W p l e { frames := 8, cells := 0, slots := 0, locals := 150 } s m [.ref (a 5), .int p1].toArray below meth c H locs 0 0 (MQ below ((kQv G (S := Unit) (fun _ => True) (fun _ => zw G (XS 2) 105 a s9.1 s9.2)) A) [.ref (a 5), .int p1].toArray s 0 0 A) (F0 m 20 ls []) := by
    intro g L H locs ls h hP hD hS hl
    unfold fX6_readSign_5_p20 at h
    exact y_vret C hr hlk hP hD hS h (Nat.le_of_ble_eq_true rfl) (Nat.le_of_ble_eq_true rfl) dX6_readSign_20
  refine lv_if_eq (x := x1) (tgt := 15) hx hb dX6_readSign_5 (by decide) (fun c5 => ?_) (fun c5 => ?_)
  ·
    have h := ite_t c5 h
    refine lv_aload_n hx hb dX6_readSign_15 rfl (lv_at hl 0 rfl) ?_
    refine lv_iconst (v := 1) hx hb dX6_readSign_16 (by decide) ?_
    obtain ⟨z_, g7, L8, hf9, h⟩ := cb_some h
    refine x_callVv (rest := []) li_X6_78 C (rX6_refuse_5 l G H.size a fu g2 L3 1 z_ (g7, L8) hf9) (kR rfl) hP hD hS 5 6 rfl (zat (by decide) xs_5) rfl hl.1 rfl (Nat.le_of_ble_eq_true rfl) dX6_readSign_17 (fun u_ H locs e_ hP hD hS => ?_)
    have hP : va_P G.1 vwCl (zw G (XS 2) 105 a g7 L8) H := hP
    have hD : va_D A (zw G (XS 2) 105 a g7 L8) := hD
    exact J20 g7 L8 H locs ls h hP hD hS (lv_sub hl [] rfl)
  ·
    have h := ite_e c5 h
    refine lv_aload_n hx hb dX6_readSign_8 rfl (lv_at hl 0 rfl) ?_
    obtain ⟨z_, g11, L12, hf13, h⟩ := cb_some h
    refine x_callVv (rest := []) li_X6_53 C (rX6_advance_5 l G H.size a fu g2 L3 z_ (g11, L12) hf13) (kR rfl) hP hD hS 5 6 rfl (zat (by decide) xs_5) rfl hl.1 rfl (Nat.le_of_ble_eq_true rfl) dX6_readSign_9 (fun u_ H locs e_ hP hD hS => ?_)
    have hP : va_P G.1 vwCl (zw G (XS 2) 105 a g11 L12) H := hP
    have hD : va_D A (zw G (XS 2) 105 a g11 L12) := hD
    refine lv_goto (tgt := 20) hx hb dX6_readSign_12 (by decide) ?_
    exact J20 g11 L12 H locs ls h hP hD hS (lv_sub hl [] rfl)
