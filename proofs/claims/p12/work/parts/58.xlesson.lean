theorem tw_168 : (Jvm.Cond.fieldLinkNest "MarshBells$Parser" (140 : Nat) "MarshBells$Plan" "lessonCount" "I" "MarshBells") ∈ lw_tbl := tk_1 (List.mem_of_getElem? (i := 168) rfl)
theorem fl_X6_140 : kFN RX6 140 7 5 2 := ⟨RX7, TX7, rfl, by decide, inWX7, tw_168⟩
theorem tw_154 : (Jvm.Cond.fieldLinkNest "MarshBells$Parser" (143 : Nat) "MarshBells$Plan" "lessons" "[LMarshBells$Lesson;" "MarshBells") ∈ lw_tbl := tk_1 (List.mem_of_getElem? (i := 154) rfl)
theorem fl_X6_143 : kFN RX6 143 7 5 0 := ⟨RX7, TX7, rfl, by decide, inWX7, tw_154⟩
theorem tw_86 : (Jvm.Cond.fieldLinkNest "MarshBells$Parser" (150 : Nat) "MarshBells$Lesson" "from" "I" "MarshBells") ∈ lw_tbl := tk_1 (List.mem_of_getElem? (i := 86) rfl)
theorem fl_X6_150 : kFN RX6 150 5 14 3 := ⟨RX5, TX5, rfl, by decide, inWX5, tw_86⟩
theorem tw_79 : (Jvm.Cond.fieldLinkNest "MarshBells$Parser" (197 : Nat) "MarshBells$Lesson" "waited" "I" "MarshBells") ∈ lw_tbl := tk_1 (List.mem_of_getElem? (i := 79) rfl)
theorem fl_X6_197 : kFN RX6 197 5 14 1 := ⟨RX5, TX5, rfl, by decide, inWX5, tw_79⟩
theorem tw_110 : (Jvm.Cond.fieldLinkNest "MarshBells$Parser" (179 : Nat) "MarshBells$Lesson" "some" "I" "MarshBells") ∈ lw_tbl := tk_1 (List.mem_of_getElem? (i := 110) rfl)
theorem fl_X6_179 : kFN RX6 179 5 14 10 := ⟨RX5, TX5, rfl, by decide, inWX5, tw_110⟩
theorem tw_83 : (Jvm.Cond.fieldLinkNest "MarshBells$Parser" (200 : Nat) "MarshBells$Lesson" "waitedBits" "I" "MarshBells") ∈ lw_tbl := tk_1 (List.mem_of_getElem? (i := 83) rfl)
theorem fl_X6_200 : kFN RX6 200 5 14 2 := ⟨RX5, TX5, rfl, by decide, inWX5, tw_83⟩
theorem dX6_readWaited_0 : decode cX6_readWaited 0 = .ok (.iconst 0, 1) := by decide +kernel
theorem dX6_readWaited_1 : decode cX6_readWaited 1 = .ok (.istore_n 2, 1) := by decide +kernel
theorem dX6_readWaited_2 : decode cX6_readWaited 2 = .ok (.iload_n 2, 1) := by decide +kernel
theorem dX6_readWaited_3 : decode cX6_readWaited 3 = .ok (.bipush 6, 2) := by decide +kernel
theorem dX6_readWaited_102 : decode cX6_readWaited 102 = .ok (.aload_n 1, 1) := by decide +kernel
theorem dX6_readWaited_103 : decode cX6_readWaited 103 = .ok (.getfield 197, 3) := by decide +kernel
theorem dX6_readWaited_106 : decode cX6_readWaited 106 = .ok (.aload_n 1, 1) := by decide +kernel
theorem dX6_readWaited_107 : decode cX6_readWaited 107 = .ok (.getfield 179, 3) := by decide +kernel
theorem dX6_readWaited_119 : decode cX6_readWaited 119 = .ok (.aload_n 1, 1) := by decide +kernel
theorem dX6_readWaited_120 : decode cX6_readWaited 120 = .ok (.getfield 197, 3) := by decide +kernel
theorem dX6_readWaited_131 : decode cX6_readWaited 131 = .ok (.return_, 1) := by decide +kernel
theorem dX6_readWaited_123 : decode cX6_readWaited 123 = .ok (.ifCond .ne 8, 3) := by decide +kernel
theorem dX6_readWaited_126 : decode cX6_readWaited 126 = .ok (.aload_n 0, 1) := by decide +kernel
theorem dX6_readWaited_127 : decode cX6_readWaited 127 = .ok (.iconst 1, 1) := by decide +kernel
theorem dX6_readWaited_128 : decode cX6_readWaited 128 = .ok (.invokevirtual 78, 3) := by decide +kernel
theorem dX6_readWaited_110 : decode cX6_readWaited 110 = .ok (.if_icmp .ge 9, 3) := by decide +kernel
theorem dX6_readWaited_113 : decode cX6_readWaited 113 = .ok (.aload_n 0, 1) := by decide +kernel
theorem dX6_readWaited_114 : decode cX6_readWaited 114 = .ok (.bipush 6, 2) := by decide +kernel
theorem dX6_readWaited_116 : decode cX6_readWaited 116 = .ok (.invokevirtual 78, 3) := by decide +kernel
theorem dX6_readWaited_5 : decode cX6_readWaited 5 = .ok (.if_icmp .gt 97, 3) := by decide +kernel
theorem dX6_readWaited_8 : decode cX6_readWaited 8 = .ok (.aload_n 0, 1) := by decide +kernel
theorem dX6_readWaited_9 : decode cX6_readWaited 9 = .ok (.getfield 50, 3) := by decide +kernel
theorem dX6_readWaited_12 : decode cX6_readWaited 12 = .ok (.iconst 1, 1) := by decide +kernel
theorem dX6_readWaited_13 : decode cX6_readWaited 13 = .ok (.if_icmp .ne 89, 3) := by decide +kernel
theorem dX6_readWaited_16 : decode cX6_readWaited 16 = .ok (.aload_n 0, 1) := by decide +kernel
theorem dX6_readWaited_17 : decode cX6_readWaited 17 = .ok (.invokevirtual 82, 3) := by decide +kernel
theorem dX6_readWaited_96 : decode cX6_readWaited 96 = .ok (.iinc 2 1, 3) := by decide +kernel
theorem dX6_readWaited_99 : decode cX6_readWaited 99 = .ok (.goto (-97), 3) := by decide +kernel
theorem dX6_readWaited_32 : decode cX6_readWaited 32 = .ok (.aload_n 0, 1) := by decide +kernel
theorem dX6_readWaited_33 : decode cX6_readWaited 33 = .ok (.iconst 2, 1) := by decide +kernel
theorem dX6_readWaited_34 : decode cX6_readWaited 34 = .ok (.invokevirtual 78, 3) := by decide +kernel
theorem dX6_readWaited_37 : decode cX6_readWaited 37 = .ok (.goto 59, 3) := by decide +kernel
theorem dX6_readWaited_20 : decode cX6_readWaited 20 = .ok (.ifCond .ne 12, 3) := by decide +kernel
theorem dX6_readWaited_23 : decode cX6_readWaited 23 = .ok (.aload_n 1, 1) := by decide +kernel
theorem dX6_readWaited_24 : decode cX6_readWaited 24 = .ok (.getfield 197, 3) := by decide +kernel
theorem dX6_readWaited_27 : decode cX6_readWaited 27 = .ok (.bipush 6, 2) := by decide +kernel
theorem dX6_readWaited_29 : decode cX6_readWaited 29 = .ok (.if_icmp .lt 11, 3) := by decide +kernel
theorem dX6_readWaited_40 : decode cX6_readWaited 40 = .ok (.aload_n 0, 1) := by decide +kernel
theorem dX6_readWaited_41 : decode cX6_readWaited 41 = .ok (.getfield 62, 3) := by decide +kernel
theorem dX6_readWaited_44 : decode cX6_readWaited 44 = .ok (.aload_n 0, 1) := by decide +kernel
theorem dX6_readWaited_45 : decode cX6_readWaited 45 = .ok (.getfield 15, 3) := by decide +kernel
theorem dX6_readWaited_48 : decode cX6_readWaited 48 = .ok (.getfield 140, 3) := by decide +kernel
theorem dX6_readWaited_51 : decode cX6_readWaited 51 = .ok (.if_icmp .lt 11, 3) := by decide +kernel
theorem dX6_readWaited_62 : decode cX6_readWaited 62 = .ok (.aload_n 1, 1) := by decide +kernel
theorem dX6_readWaited_63 : decode cX6_readWaited 63 = .ok (.getfield 200, 3) := by decide +kernel
theorem dX6_readWaited_66 : decode cX6_readWaited 66 = .ok (.aload_n 0, 1) := by decide +kernel
theorem dX6_readWaited_67 : decode cX6_readWaited 67 = .ok (.getfield 62, 3) := by decide +kernel
theorem dX6_readWaited_70 : decode cX6_readWaited 70 = .ok (.ishr, 1) := by decide +kernel
theorem dX6_readWaited_71 : decode cX6_readWaited 71 = .ok (.iconst 1, 1) := by decide +kernel
theorem dX6_readWaited_72 : decode cX6_readWaited 72 = .ok (.iand, 1) := by decide +kernel
theorem dX6_readWaited_73 : decode cX6_readWaited 73 = .ok (.ifCond .eq 11, 3) := by decide +kernel
theorem dX6_readWaited_84 : decode cX6_readWaited 84 = .ok (.aload_n 1, 1) := by decide +kernel
theorem dX6_readWaited_85 : decode cX6_readWaited 85 = .ok (.aload_n 0, 1) := by decide +kernel
theorem dX6_readWaited_86 : decode cX6_readWaited 86 = .ok (.getfield 62, 3) := by decide +kernel
theorem tw_901 : (Jvm.Cond.methodLinkNest "MarshBells$Parser" (203 : Nat) ({ cls := "MarshBells$Lesson", name := "waitFor", desc := "(I)V" } : Jvm.MethodName) "MarshBells") ∈ lw_tbl := tk_4 (List.mem_of_getElem? (i := 181) rfl)
theorem tw_4 : (Jvm.Cond.initialized "MarshBells$Lesson") ∈ lw_tbl := tk_1 (List.mem_of_getElem? (i := 4) rfl)
theorem tw_904 : (Jvm.Cond.code ({ cls := "MarshBells$Lesson", name := "waitFor", desc := "(I)V" } : Jvm.MethodName) prog_7_method_3_code (2 : Nat) (Option.none : Option Jvm.ClassFile.FieldType)) ∈ lw_tbl := tk_4 (List.mem_of_getElem? (i := 184) rfl)
theorem tw_903 : (Jvm.Cond.instanceMethod ({ cls := "MarshBells$Lesson", name := "waitFor", desc := "(I)V" } : Jvm.MethodName)) ∈ lw_tbl := tk_4 (List.mem_of_getElem? (i := 183) rfl)
theorem se_X5_waitFor : Cond.selects RX5 yX5_waitFor yX5_waitFor ∈ lw_tbl := List.mem_append_left _ (List.mem_of_getElem? (i := 45) rfl)
theorem li_X6_203 : kLN RX6 203 RX5 yX5_waitFor "MarshBells" cX5_waitFor 2 none 1 := ⟨tw_901, tw_903, se_X5_waitFor, tw_904, tw_4, by decide +kernel⟩
theorem dX6_readWaited_89 : decode cX6_readWaited 89 = .ok (.invokevirtual 203, 3) := by decide +kernel
theorem dX6_readWaited_92 : decode cX6_readWaited 92 = .ok (.aload_n 0, 1) := by decide +kernel
theorem dX6_readWaited_93 : decode cX6_readWaited 93 = .ok (.invokevirtual 53, 3) := by decide +kernel
theorem dX6_readWaited_76 : decode cX6_readWaited 76 = .ok (.aload_n 0, 1) := by decide +kernel
theorem dX6_readWaited_77 : decode cX6_readWaited 77 = .ok (.iconst 4, 1) := by decide +kernel
theorem dX6_readWaited_78 : decode cX6_readWaited 78 = .ok (.invokevirtual 78, 3) := by decide +kernel
theorem dX6_readWaited_81 : decode cX6_readWaited 81 = .ok (.goto 15, 3) := by decide +kernel
theorem dX6_readWaited_54 : decode cX6_readWaited 54 = .ok (.aload_n 0, 1) := by decide +kernel
theorem dX6_readWaited_55 : decode cX6_readWaited 55 = .ok (.iconst 3, 1) := by decide +kernel
theorem dX6_readWaited_56 : decode cX6_readWaited 56 = .ok (.invokevirtual 78, 3) := by decide +kernel
theorem dX6_readWaited_59 : decode cX6_readWaited 59 = .ok (.goto 37, 3) := by decide +kernel
theorem dX6_readOption_0 : decode cX6_readOption 0 = .ok (.aload_n 0, 1) := by decide +kernel
theorem dX6_readOption_1 : decode cX6_readOption 1 = .ok (.aload_n 1, 1) := by decide +kernel
theorem dX6_readOption_2 : decode cX6_readOption 2 = .ok (.invokevirtual 92, 3) := by decide +kernel
theorem dX6_readOption_5 : decode cX6_readOption 5 = .ok (.ifCond .ne 5, 3) := by decide +kernel
theorem dX6_readOption_10 : decode cX6_readOption 10 = .ok (.aload_n 0, 1) := by decide +kernel
theorem dX6_readOption_11 : decode cX6_readOption 11 = .ok (.invokevirtual 53, 3) := by decide +kernel
theorem dX6_readOption_14 : decode cX6_readOption 14 = .ok (.aload_n 0, 1) := by decide +kernel
theorem dX6_readOption_15 : decode cX6_readOption 15 = .ok (.iconst 0, 1) := by decide +kernel
theorem dX6_readOption_16 : decode cX6_readOption 16 = .ok (.iload_n 2, 1) := by decide +kernel
theorem dX6_readOption_17 : decode cX6_readOption 17 = .ok (.invokevirtual 118, 3) := by decide +kernel
theorem dX6_readOption_20 : decode cX6_readOption 20 = .ok (.ireturn, 1) := by decide +kernel
theorem dX6_readOption_8 : decode cX6_readOption 8 = .ok (.iload_n 3, 1) := by decide +kernel
theorem dX6_readOption_9 : decode cX6_readOption 9 = .ok (.ireturn, 1) := by decide +kernel
theorem dX6_readLesson_0 : decode cX6_readLesson 0 = .ok (.aload_n 0, 1) := by decide +kernel
theorem dX6_readLesson_1 : decode cX6_readLesson 1 = .ok (.getfield 15, 3) := by decide +kernel
theorem dX6_readLesson_4 : decode cX6_readLesson 4 = .ok (.getfield 140, 3) := by decide +kernel
theorem dX6_readLesson_7 : decode cX6_readLesson 7 = .ok (.bipush 12, 2) := by decide +kernel
theorem dX6_readLesson_9 : decode cX6_readLesson 9 = .ok (.if_icmp .lt 9, 3) := by decide +kernel
theorem dX6_readLesson_18 : decode cX6_readLesson 18 = .ok (.aload_n 0, 1) := by decide +kernel
theorem dX6_readLesson_19 : decode cX6_readLesson 19 = .ok (.getfield 15, 3) := by decide +kernel
theorem dX6_readLesson_22 : decode cX6_readLesson 22 = .ok (.getfield 143, 3) := by decide +kernel
theorem dX6_readLesson_25 : decode cX6_readLesson 25 = .ok (.aload_n 0, 1) := by decide +kernel
theorem dX6_readLesson_26 : decode cX6_readLesson 26 = .ok (.getfield 15, 3) := by decide +kernel
theorem dX6_readLesson_29 : decode cX6_readLesson 29 = .ok (.getfield 140, 3) := by decide +kernel
theorem dX6_readLesson_32 : decode cX6_readLesson 32 = .ok (.aaload, 1) := by decide +kernel
theorem dX6_readLesson_33 : decode cX6_readLesson 33 = .ok (.astore_n 1, 1) := by decide +kernel
theorem dX6_readLesson_34 : decode cX6_readLesson 34 = .ok (.aload_n 1, 1) := by decide +kernel
theorem tw_884 : (Jvm.Cond.methodLinkNest "MarshBells$Parser" (147 : Nat) ({ cls := "MarshBells$Lesson", name := "clear", desc := "()V" } : Jvm.MethodName) "MarshBells") ∈ lw_tbl := tk_4 (List.mem_of_getElem? (i := 164) rfl)
theorem tw_887 : (Jvm.Cond.code ({ cls := "MarshBells$Lesson", name := "clear", desc := "()V" } : Jvm.MethodName) prog_7_method_2_code (1 : Nat) (Option.none : Option Jvm.ClassFile.FieldType)) ∈ lw_tbl := tk_4 (List.mem_of_getElem? (i := 167) rfl)
theorem tw_886 : (Jvm.Cond.instanceMethod ({ cls := "MarshBells$Lesson", name := "clear", desc := "()V" } : Jvm.MethodName)) ∈ lw_tbl := tk_4 (List.mem_of_getElem? (i := 166) rfl)
theorem se_X5_clear : Cond.selects RX5 yX5_clear yX5_clear ∈ lw_tbl := List.mem_append_left _ (List.mem_of_getElem? (i := 41) rfl)
theorem li_X6_147 : kLN RX6 147 RX5 yX5_clear "MarshBells" cX5_clear 1 none 0 := ⟨tw_884, tw_886, se_X5_clear, tw_887, tw_4, by decide +kernel⟩
theorem dX6_readLesson_35 : decode cX6_readLesson 35 = .ok (.invokevirtual 147, 3) := by decide +kernel
theorem dX6_readLesson_38 : decode cX6_readLesson 38 = .ok (.aload_n 0, 1) := by decide +kernel
theorem dX6_readLesson_39 : decode cX6_readLesson 39 = .ok (.invokevirtual 53, 3) := by decide +kernel
theorem dX6_readLesson_42 : decode cX6_readLesson 42 = .ok (.aload_n 1, 1) := by decide +kernel
theorem dX6_readLesson_43 : decode cX6_readLesson 43 = .ok (.aload_n 0, 1) := by decide +kernel
theorem dX6_readLesson_44 : decode cX6_readLesson 44 = .ok (.iconst 0, 1) := by decide +kernel
theorem dX6_readLesson_45 : decode cX6_readLesson 45 = .ok (.sipush 999, 3) := by decide +kernel
theorem dX6_readLesson_48 : decode cX6_readLesson 48 = .ok (.invokevirtual 118, 3) := by decide +kernel
theorem dX6_readLesson_51 : decode cX6_readLesson 51 = .ok (.putfield 150, 3) := by decide +kernel
theorem dX6_readLesson_54 : decode cX6_readLesson 54 = .ok (.aload_n 1, 1) := by decide +kernel
theorem dX6_readLesson_55 : decode cX6_readLesson 55 = .ok (.aload_n 0, 1) := by decide +kernel
theorem dX6_readLesson_56 : decode cX6_readLesson 56 = .ok (.aload_n 1, 1) := by decide +kernel
theorem dX6_readLesson_57 : decode cX6_readLesson 57 = .ok (.getfield 150, 3) := by decide +kernel
theorem dX6_readLesson_60 : decode cX6_readLesson 60 = .ok (.iconst 1, 1) := by decide +kernel
theorem dX6_readLesson_61 : decode cX6_readLesson 61 = .ok (.iadd, 1) := by decide +kernel
theorem dX6_readLesson_62 : decode cX6_readLesson 62 = .ok (.sipush 999, 3) := by decide +kernel
theorem dX6_readLesson_65 : decode cX6_readLesson 65 = .ok (.invokevirtual 118, 3) := by decide +kernel
theorem tw_90 : (Jvm.Cond.fieldLinkNest "MarshBells$Parser" (153 : Nat) "MarshBells$Lesson" "to" "I" "MarshBells") ∈ lw_tbl := tk_1 (List.mem_of_getElem? (i := 90) rfl)
theorem fl_X6_153 : kFN RX6 153 5 14 4 := ⟨RX5, TX5, rfl, by decide, inWX5, tw_90⟩
theorem dX6_readLesson_68 : decode cX6_readLesson 68 = .ok (.putfield 153, 3) := by decide +kernel
theorem dX6_readLesson_71 : decode cX6_readLesson 71 = .ok (.aload_n 1, 1) := by decide +kernel
theorem dX6_readLesson_72 : decode cX6_readLesson 72 = .ok (.aload_n 0, 1) := by decide +kernel
theorem dX6_readLesson_73 : decode cX6_readLesson 73 = .ok (.iconst 1, 1) := by decide +kernel
theorem dX6_readLesson_74 : decode cX6_readLesson 74 = .ok (.sipush 200, 3) := by decide +kernel
theorem dX6_readLesson_77 : decode cX6_readLesson 77 = .ok (.invokevirtual 118, 3) := by decide +kernel
theorem tw_94 : (Jvm.Cond.fieldLinkNest "MarshBells$Parser" (156 : Nat) "MarshBells$Lesson" "least" "I" "MarshBells") ∈ lw_tbl := tk_1 (List.mem_of_getElem? (i := 94) rfl)
theorem fl_X6_156 : kFN RX6 156 5 14 5 := ⟨RX5, TX5, rfl, by decide, inWX5, tw_94⟩
theorem ft_X5_5 : kFT 5 5 .int false RX5 := ⟨RX5, TX5, 14, tyX5, rfl, tyX5_ok, nmX5, rfl, by decide +kernel, rfl⟩
theorem dX6_readLesson_80 : decode cX6_readLesson 80 = .ok (.putfield 156, 3) := by decide +kernel
theorem dX6_readLesson_83 : decode cX6_readLesson 83 = .ok (.aload_n 1, 1) := by decide +kernel
theorem dX6_readLesson_84 : decode cX6_readLesson 84 = .ok (.aload_n 0, 1) := by decide +kernel
theorem dX6_readLesson_85 : decode cX6_readLesson 85 = .ok (.iconst 0, 1) := by decide +kernel
theorem dX6_readLesson_86 : decode cX6_readLesson 86 = .ok (.bipush 60, 2) := by decide +kernel
theorem dX6_readLesson_88 : decode cX6_readLesson 88 = .ok (.invokevirtual 118, 3) := by decide +kernel
theorem tw_96 : (Jvm.Cond.fieldLinkNest "MarshBells$Parser" (159 : Nat) "MarshBells$Lesson" "over" "I" "MarshBells") ∈ lw_tbl := tk_1 (List.mem_of_getElem? (i := 96) rfl)
theorem fl_X6_159 : kFN RX6 159 5 14 6 := ⟨RX5, TX5, rfl, by decide, inWX5, tw_96⟩
theorem ft_X5_6 : kFT 5 6 .int false RX5 := ⟨RX5, TX5, 14, tyX5, rfl, tyX5_ok, nmX5, rfl, by decide +kernel, rfl⟩
theorem dX6_readLesson_91 : decode cX6_readLesson 91 = .ok (.putfield 159, 3) := by decide +kernel
theorem dX6_readLesson_94 : decode cX6_readLesson 94 = .ok (.aload_n 1, 1) := by decide +kernel
theorem dX6_readLesson_95 : decode cX6_readLesson 95 = .ok (.aload_n 0, 1) := by decide +kernel
theorem dX6_readLesson_96 : decode cX6_readLesson 96 = .ok (.iconst 0, 1) := by decide +kernel
theorem dX6_readLesson_97 : decode cX6_readLesson 97 = .ok (.bipush 9, 2) := by decide +kernel
theorem dX6_readLesson_99 : decode cX6_readLesson 99 = .ok (.invokevirtual 118, 3) := by decide +kernel
theorem tw_98 : (Jvm.Cond.fieldLinkNest "MarshBells$Parser" (162 : Nat) "MarshBells$Lesson" "room" "I" "MarshBells") ∈ lw_tbl := tk_1 (List.mem_of_getElem? (i := 98) rfl)
theorem fl_X6_162 : kFN RX6 162 5 14 7 := ⟨RX5, TX5, rfl, by decide, inWX5, tw_98⟩
theorem ft_X5_7 : kFT 5 7 .int false RX5 := ⟨RX5, TX5, 14, tyX5, rfl, tyX5_ok, nmX5, rfl, by decide +kernel, rfl⟩
theorem dX6_readLesson_102 : decode cX6_readLesson 102 = .ok (.putfield 162, 3) := by decide +kernel
theorem dX6_readLesson_105 : decode cX6_readLesson 105 = .ok (.aload_n 1, 1) := by decide +kernel
theorem dX6_readLesson_106 : decode cX6_readLesson 106 = .ok (.aload_n 0, 1) := by decide +kernel
theorem dX6_readLesson_107 : decode cX6_readLesson 107 = .ok (.iconst 1, 1) := by decide +kernel
theorem dX6_readLesson_108 : decode cX6_readLesson 108 = .ok (.bipush 99, 2) := by decide +kernel
theorem dX6_readLesson_110 : decode cX6_readLesson 110 = .ok (.invokevirtual 118, 3) := by decide +kernel
theorem tw_102 : (Jvm.Cond.fieldLinkNest "MarshBells$Parser" (165 : Nat) "MarshBells$Lesson" "people" "I" "MarshBells") ∈ lw_tbl := tk_1 (List.mem_of_getElem? (i := 102) rfl)
theorem fl_X6_165 : kFN RX6 165 5 14 8 := ⟨RX5, TX5, rfl, by decide, inWX5, tw_102⟩
theorem ft_X5_8 : kFT 5 8 .int false RX5 := ⟨RX5, TX5, 14, tyX5, rfl, tyX5_ok, nmX5, rfl, by decide +kernel, rfl⟩
theorem dX6_readLesson_113 : decode cX6_readLesson 113 = .ok (.putfield 165, 3) := by decide +kernel
theorem dX6_readLesson_116 : decode cX6_readLesson 116 = .ok (.aload_n 0, 1) := by decide +kernel
theorem dX6_readLesson_117 : decode cX6_readLesson 117 = .ok (.ldc 168, 2) := by decide +kernel
theorem dX6_readLesson_119 : decode cX6_readLesson 119 = .ok (.invokevirtual 92, 3) := by decide +kernel
theorem dX6_readLesson_176 : decode cX6_readLesson 176 = .ok (.aload_n 1, 1) := by decide +kernel
theorem dX6_readLesson_177 : decode cX6_readLesson 177 = .ok (.aload_n 0, 1) := by decide +kernel
theorem dX6_readLesson_178 : decode cX6_readLesson 178 = .ok (.ldc 181, 2) := by decide +kernel
theorem dX6_readLesson_180 : decode cX6_readLesson 180 = .ok (.bipush 99, 2) := by decide +kernel
theorem dX6_readLesson_182 : decode cX6_readLesson 182 = .ok (.bipush 99, 2) := by decide +kernel
theorem tw_907 : (Jvm.Cond.methodLink "MarshBells$Parser" (183 : Nat) ({ cls := "MarshBells$Parser", name := "readOption", desc := "(Ljava/lang/String;II)I" } : Jvm.MethodName)) ∈ lw_tbl := tk_4 (List.mem_of_getElem? (i := 187) rfl)
theorem tw_910 : (Jvm.Cond.code ({ cls := "MarshBells$Parser", name := "readOption", desc := "(Ljava/lang/String;II)I" } : Jvm.MethodName) prog_8_method_16_code (4 : Nat) (Option.some Jvm.ClassFile.FieldType.int)) ∈ lw_tbl := tk_4 (List.mem_of_getElem? (i := 190) rfl)
theorem tw_909 : (Jvm.Cond.instanceMethod ({ cls := "MarshBells$Parser", name := "readOption", desc := "(Ljava/lang/String;II)I" } : Jvm.MethodName)) ∈ lw_tbl := tk_4 (List.mem_of_getElem? (i := 189) rfl)
theorem se_X6_readOption : Cond.selects RX6 yX6_readOption yX6_readOption ∈ lw_tbl := List.mem_append_left _ (List.mem_of_getElem? (i := 46) rfl)
theorem li_X6_183 : kLV RX6 183 RX6 yX6_readOption cX6_readOption 4 (some .int) 3 := ⟨tw_907, tw_909, se_X6_readOption, tw_910, tw_5, by decide +kernel⟩
theorem dX6_readLesson_184 : decode cX6_readLesson 184 = .ok (.invokevirtual 183, 3) := by decide +kernel
theorem tw_112 : (Jvm.Cond.fieldLinkNest "MarshBells$Parser" (187 : Nat) "MarshBells$Lesson" "limit" "I" "MarshBells") ∈ lw_tbl := tk_1 (List.mem_of_getElem? (i := 112) rfl)
theorem fl_X6_187 : kFN RX6 187 5 14 11 := ⟨RX5, TX5, rfl, by decide, inWX5, tw_112⟩
theorem ft_X5_11 : kFT 5 11 .int false RX5 := ⟨RX5, TX5, 14, tyX5, rfl, tyX5_ok, nmX5, rfl, by decide +kernel, rfl⟩
theorem dX6_readLesson_187 : decode cX6_readLesson 187 = .ok (.putfield 187, 3) := by decide +kernel
theorem dX6_readLesson_190 : decode cX6_readLesson 190 = .ok (.aload_n 1, 1) := by decide +kernel
theorem dX6_readLesson_191 : decode cX6_readLesson 191 = .ok (.aload_n 0, 1) := by decide +kernel
theorem dX6_readLesson_192 : decode cX6_readLesson 192 = .ok (.ldc 189, 2) := by decide +kernel
theorem dX6_readLesson_194 : decode cX6_readLesson 194 = .ok (.bipush 10, 2) := by decide +kernel
theorem dX6_readLesson_196 : decode cX6_readLesson 196 = .ok (.bipush 10, 2) := by decide +kernel
theorem dX6_readLesson_198 : decode cX6_readLesson 198 = .ok (.invokevirtual 183, 3) := by decide +kernel
theorem tw_115 : (Jvm.Cond.fieldLinkNest "MarshBells$Parser" (191 : Nat) "MarshBells$Lesson" "maybe" "I" "MarshBells") ∈ lw_tbl := tk_1 (List.mem_of_getElem? (i := 115) rfl)
theorem fl_X6_191 : kFN RX6 191 5 14 12 := ⟨RX5, TX5, rfl, by decide, inWX5, tw_115⟩
theorem ft_X5_12 : kFT 5 12 .int false RX5 := ⟨RX5, TX5, 14, tyX5, rfl, tyX5_ok, nmX5, rfl, by decide +kernel, rfl⟩
theorem dX6_readLesson_201 : decode cX6_readLesson 201 = .ok (.putfield 191, 3) := by decide +kernel
theorem dX6_readLesson_204 : decode cX6_readLesson 204 = .ok (.aload_n 1, 1) := by decide +kernel
theorem dX6_readLesson_205 : decode cX6_readLesson 205 = .ok (.aload_n 0, 1) := by decide +kernel
theorem dX6_readLesson_206 : decode cX6_readLesson 206 = .ok (.ldc 193, 2) := by decide +kernel
theorem dX6_readLesson_208 : decode cX6_readLesson 208 = .ok (.bipush 30, 2) := by decide +kernel
theorem dX6_readLesson_210 : decode cX6_readLesson 210 = .ok (.iconst 0, 1) := by decide +kernel
theorem dX6_readLesson_211 : decode cX6_readLesson 211 = .ok (.invokevirtual 183, 3) := by decide +kernel
theorem tw_117 : (Jvm.Cond.fieldLinkNest "MarshBells$Parser" (195 : Nat) "MarshBells$Lesson" "gap" "I" "MarshBells") ∈ lw_tbl := tk_1 (List.mem_of_getElem? (i := 117) rfl)
theorem fl_X6_195 : kFN RX6 195 5 14 13 := ⟨RX5, TX5, rfl, by decide, inWX5, tw_117⟩
theorem ft_X5_13 : kFT 5 13 .int false RX5 := ⟨RX5, TX5, 14, tyX5, rfl, tyX5_ok, nmX5, rfl, by decide +kernel, rfl⟩
theorem dX6_readLesson_214 : decode cX6_readLesson 214 = .ok (.putfield 195, 3) := by decide +kernel
theorem dX6_readLesson_217 : decode cX6_readLesson 217 = .ok (.aload_n 0, 1) := by decide +kernel
theorem dX6_readLesson_218 : decode cX6_readLesson 218 = .ok (.getfield 15, 3) := by decide +kernel
theorem dX6_readLesson_221 : decode cX6_readLesson 221 = .ok (.dup, 1) := by decide +kernel
theorem dX6_readLesson_222 : decode cX6_readLesson 222 = .ok (.getfield 140, 3) := by decide +kernel
theorem dX6_readLesson_225 : decode cX6_readLesson 225 = .ok (.iconst 1, 1) := by decide +kernel
theorem dX6_readLesson_226 : decode cX6_readLesson 226 = .ok (.iadd, 1) := by decide +kernel
theorem dX6_readLesson_227 : decode cX6_readLesson 227 = .ok (.putfield 140, 3) := by decide +kernel
theorem dX6_readLesson_230 : decode cX6_readLesson 230 = .ok (.return_, 1) := by decide +kernel
theorem dX6_readLesson_122 : decode cX6_readLesson 122 = .ok (.ifCond .eq 20, 3) := by decide +kernel
theorem dX6_readLesson_142 : decode cX6_readLesson 142 = .ok (.aload_n 0, 1) := by decide +kernel
theorem dX6_readLesson_143 : decode cX6_readLesson 143 = .ok (.ldc 177, 2) := by decide +kernel
theorem dX6_readLesson_145 : decode cX6_readLesson 145 = .ok (.invokevirtual 92, 3) := by decide +kernel
theorem dX6_readLesson_148 : decode cX6_readLesson 148 = .ok (.ifCond .eq 28, 3) := by decide +kernel
theorem dX6_readLesson_151 : decode cX6_readLesson 151 = .ok (.aload_n 0, 1) := by decide +kernel
theorem dX6_readLesson_152 : decode cX6_readLesson 152 = .ok (.invokevirtual 53, 3) := by decide +kernel
theorem dX6_readLesson_155 : decode cX6_readLesson 155 = .ok (.aload_n 1, 1) := by decide +kernel
theorem dX6_readLesson_156 : decode cX6_readLesson 156 = .ok (.iconst 1, 1) := by decide +kernel
theorem tw_106 : (Jvm.Cond.fieldLinkNest "MarshBells$Parser" (170 : Nat) "MarshBells$Lesson" "sort" "I" "MarshBells") ∈ lw_tbl := tk_1 (List.mem_of_getElem? (i := 106) rfl)
theorem fl_X6_170 : kFN RX6 170 5 14 9 := ⟨RX5, TX5, rfl, by decide, inWX5, tw_106⟩
theorem dX6_readLesson_157 : decode cX6_readLesson 157 = .ok (.putfield 170, 3) := by decide +kernel
theorem dX6_readLesson_160 : decode cX6_readLesson 160 = .ok (.aload_n 1, 1) := by decide +kernel
theorem dX6_readLesson_161 : decode cX6_readLesson 161 = .ok (.aload_n 0, 1) := by decide +kernel
theorem dX6_readLesson_162 : decode cX6_readLesson 162 = .ok (.iconst 1, 1) := by decide +kernel
theorem dX6_readLesson_163 : decode cX6_readLesson 163 = .ok (.bipush 6, 2) := by decide +kernel
theorem dX6_readLesson_165 : decode cX6_readLesson 165 = .ok (.invokevirtual 118, 3) := by decide +kernel
theorem dX6_readLesson_168 : decode cX6_readLesson 168 = .ok (.putfield 179, 3) := by decide +kernel
theorem dX6_readLesson_171 : decode cX6_readLesson 171 = .ok (.aload_n 0, 1) := by decide +kernel
theorem dX6_readLesson_172 : decode cX6_readLesson 172 = .ok (.aload_n 1, 1) := by decide +kernel
theorem tw_897 : (Jvm.Cond.methodLink "MarshBells$Parser" (173 : Nat) ({ cls := "MarshBells$Parser", name := "readWaited", desc := "(LMarshBells$Lesson;)V" } : Jvm.MethodName)) ∈ lw_tbl := tk_4 (List.mem_of_getElem? (i := 177) rfl)
theorem tw_900 : (Jvm.Cond.code ({ cls := "MarshBells$Parser", name := "readWaited", desc := "(LMarshBells$Lesson;)V" } : Jvm.MethodName) prog_8_method_17_code (3 : Nat) (Option.none : Option Jvm.ClassFile.FieldType)) ∈ lw_tbl := tk_4 (List.mem_of_getElem? (i := 180) rfl)
theorem tw_899 : (Jvm.Cond.instanceMethod ({ cls := "MarshBells$Parser", name := "readWaited", desc := "(LMarshBells$Lesson;)V" } : Jvm.MethodName)) ∈ lw_tbl := tk_4 (List.mem_of_getElem? (i := 179) rfl)
theorem se_X6_readWaited : Cond.selects RX6 yX6_readWaited yX6_readWaited ∈ lw_tbl := List.mem_append_left _ (List.mem_of_getElem? (i := 44) rfl)
theorem li_X6_173 : kLV RX6 173 RX6 yX6_readWaited cX6_readWaited 3 none 1 := ⟨tw_897, tw_899, se_X6_readWaited, tw_900, tw_5, by decide +kernel⟩
theorem dX6_readLesson_173 : decode cX6_readLesson 173 = .ok (.invokevirtual 173, 3) := by decide +kernel
theorem dX6_readLesson_125 : decode cX6_readLesson 125 = .ok (.aload_n 0, 1) := by decide +kernel
theorem dX6_readLesson_126 : decode cX6_readLesson 126 = .ok (.invokevirtual 53, 3) := by decide +kernel
theorem dX6_readLesson_129 : decode cX6_readLesson 129 = .ok (.aload_n 1, 1) := by decide +kernel
theorem dX6_readLesson_130 : decode cX6_readLesson 130 = .ok (.iconst 0, 1) := by decide +kernel
theorem dX6_readLesson_131 : decode cX6_readLesson 131 = .ok (.putfield 170, 3) := by decide +kernel
theorem dX6_readLesson_134 : decode cX6_readLesson 134 = .ok (.aload_n 0, 1) := by decide +kernel
theorem dX6_readLesson_135 : decode cX6_readLesson 135 = .ok (.aload_n 1, 1) := by decide +kernel
theorem dX6_readLesson_136 : decode cX6_readLesson 136 = .ok (.invokevirtual 173, 3) := by decide +kernel
theorem dX6_readLesson_139 : decode cX6_readLesson 139 = .ok (.goto 37, 3) := by decide +kernel
theorem dX6_readLesson_12 : decode cX6_readLesson 12 = .ok (.aload_n 0, 1) := by decide +kernel
theorem dX6_readLesson_13 : decode cX6_readLesson 13 = .ok (.iconst 2, 1) := by decide +kernel
theorem dX6_readLesson_14 : decode cX6_readLesson 14 = .ok (.invokevirtual 78, 3) := by decide +kernel
theorem dX6_readLesson_17 : decode cX6_readLesson 17 = .ok (.return_, 1) := by decide +kernel
theorem tw_205 : (Jvm.Cond.fieldLink "MarshBells$Parser" (43 : Nat) "MarshBells$Parser" "walkTold" "Z") ∈ lw_tbl := tk_1 (List.mem_of_getElem? (i := 205) rfl)
theorem fl_X6_43 : kFL RX6 43 6 11 9 := ⟨RX6, TX6, rfl, by decide, inWX6, tw_205⟩
theorem dX6_readWalk_0 : decode cX6_readWalk 0 = .ok (.aload_n 0, 1) := by decide +kernel
theorem dX6_readWalk_1 : decode cX6_readWalk 1 = .ok (.getfield 43, 3) := by decide +kernel
theorem dX6_readWalk_12 : decode cX6_readWalk 12 = .ok (.aload_n 0, 1) := by decide +kernel
theorem dX6_readWalk_13 : decode cX6_readWalk 13 = .ok (.iconst 1, 1) := by decide +kernel
theorem ft_X6_9 : kFT 6 9 .boolean false RX6 := ⟨RX6, TX6, 11, tyX6, rfl, tyX6_ok, nmX6, rfl, by decide +kernel, rfl⟩
theorem dX6_readWalk_14 : decode cX6_readWalk 14 = .ok (.putfield 43, 3) := by decide +kernel
theorem dX6_readWalk_17 : decode cX6_readWalk 17 = .ok (.aload_n 0, 1) := by decide +kernel
theorem dX6_readWalk_18 : decode cX6_readWalk 18 = .ok (.invokevirtual 53, 3) := by decide +kernel
theorem dX6_readWalk_21 : decode cX6_readWalk 21 = .ok (.aload_n 0, 1) := by decide +kernel
theorem dX6_readWalk_22 : decode cX6_readWalk 22 = .ok (.getfield 15, 3) := by decide +kernel
theorem dX6_readWalk_25 : decode cX6_readWalk 25 = .ok (.aload_n 0, 1) := by decide +kernel
theorem dX6_readWalk_26 : decode cX6_readWalk 26 = .ok (.iconst 0, 1) := by decide +kernel
theorem dX6_readWalk_27 : decode cX6_readWalk 27 = .ok (.bipush 9, 2) := by decide +kernel
theorem dX6_readWalk_29 : decode cX6_readWalk 29 = .ok (.invokevirtual 118, 3) := by decide +kernel
theorem tw_172 : (Jvm.Cond.fieldLinkNest "MarshBells$Parser" (121 : Nat) "MarshBells$Plan" "walk" "I" "MarshBells") ∈ lw_tbl := tk_1 (List.mem_of_getElem? (i := 172) rfl)
theorem fl_X6_121 : kFN RX6 121 7 5 3 := ⟨RX7, TX7, rfl, by decide, inWX7, tw_172⟩
theorem dX6_readWalk_32 : decode cX6_readWalk 32 = .ok (.putfield 121, 3) := by decide +kernel
theorem dX6_readWalk_35 : decode cX6_readWalk 35 = .ok (.return_, 1) := by decide +kernel
theorem dX6_readWalk_4 : decode cX6_readWalk 4 = .ok (.ifCond .eq 8, 3) := by decide +kernel
theorem dX6_readWalk_7 : decode cX6_readWalk 7 = .ok (.aload_n 0, 1) := by decide +kernel
theorem dX6_readWalk_8 : decode cX6_readWalk 8 = .ok (.iconst 5, 1) := by decide +kernel
theorem dX6_readWalk_9 : decode cX6_readWalk 9 = .ok (.invokevirtual 78, 3) := by decide +kernel
theorem tw_206 : (Jvm.Cond.fieldLink "MarshBells$Parser" (47 : Nat) "MarshBells$Parser" "stairTold" "Z") ∈ lw_tbl := tk_1 (List.mem_of_getElem? (i := 206) rfl)
theorem fl_X6_47 : kFL RX6 47 6 11 10 := ⟨RX6, TX6, rfl, by decide, inWX6, tw_206⟩
theorem dX6_readStair_0 : decode cX6_readStair 0 = .ok (.aload_n 0, 1) := by decide +kernel
theorem dX6_readStair_1 : decode cX6_readStair 1 = .ok (.getfield 47, 3) := by decide +kernel
theorem dX6_readStair_12 : decode cX6_readStair 12 = .ok (.aload_n 0, 1) := by decide +kernel
theorem dX6_readStair_13 : decode cX6_readStair 13 = .ok (.iconst 1, 1) := by decide +kernel
theorem ft_X6_10 : kFT 6 10 .boolean false RX6 := ⟨RX6, TX6, 11, tyX6, rfl, tyX6_ok, nmX6, rfl, by decide +kernel, rfl⟩
theorem dX6_readStair_14 : decode cX6_readStair 14 = .ok (.putfield 47, 3) := by decide +kernel
theorem dX6_readStair_17 : decode cX6_readStair 17 = .ok (.aload_n 0, 1) := by decide +kernel
theorem dX6_readStair_18 : decode cX6_readStair 18 = .ok (.invokevirtual 53, 3) := by decide +kernel
theorem dX6_readStair_21 : decode cX6_readStair 21 = .ok (.aload_n 0, 1) := by decide +kernel
theorem dX6_readStair_22 : decode cX6_readStair 22 = .ok (.getfield 15, 3) := by decide +kernel
theorem dX6_readStair_25 : decode cX6_readStair 25 = .ok (.aload_n 0, 1) := by decide +kernel
theorem dX6_readStair_26 : decode cX6_readStair 26 = .ok (.iconst 1, 1) := by decide +kernel
theorem dX6_readStair_27 : decode cX6_readStair 27 = .ok (.bipush 99, 2) := by decide +kernel
theorem dX6_readStair_29 : decode cX6_readStair 29 = .ok (.invokevirtual 118, 3) := by decide +kernel
theorem tw_176 : (Jvm.Cond.fieldLinkNest "MarshBells$Parser" (123 : Nat) "MarshBells$Plan" "stair" "I" "MarshBells") ∈ lw_tbl := tk_1 (List.mem_of_getElem? (i := 176) rfl)
theorem fl_X6_123 : kFN RX6 123 7 5 4 := ⟨RX7, TX7, rfl, by decide, inWX7, tw_176⟩
theorem dX6_readStair_32 : decode cX6_readStair 32 = .ok (.putfield 123, 3) := by decide +kernel
theorem dX6_readStair_35 : decode cX6_readStair 35 = .ok (.return_, 1) := by decide +kernel
theorem dX6_readStair_4 : decode cX6_readStair 4 = .ok (.ifCond .eq 8, 3) := by decide +kernel
theorem dX6_readStair_7 : decode cX6_readStair 7 = .ok (.aload_n 0, 1) := by decide +kernel
theorem dX6_readStair_8 : decode cX6_readStair 8 = .ok (.iconst 5, 1) := by decide +kernel
theorem dX6_readStair_9 : decode cX6_readStair 9 = .ok (.invokevirtual 78, 3) := by decide +kernel
theorem dX6_readLine_0 : decode cX6_readLine 0 = .ok (.aload_n 0, 1) := by decide +kernel
theorem dX6_readLine_1 : decode cX6_readLine 1 = .ok (.ldc 90, 2) := by decide +kernel
theorem dX6_readLine_3 : decode cX6_readLine 3 = .ok (.invokevirtual 92, 3) := by decide +kernel
theorem dX6_readLine_69 : decode cX6_readLine 69 = .ok (.aload_n 0, 1) := by decide +kernel
theorem dX6_readLine_70 : decode cX6_readLine 70 = .ok (.bipush 59, 2) := by decide +kernel
theorem dX6_readLine_72 : decode cX6_readLine 72 = .ok (.invokevirtual 114, 3) := by decide +kernel
theorem dX6_readLine_75 : decode cX6_readLine 75 = .ok (.return_, 1) := by decide +kernel
theorem dX6_readLine_6 : decode cX6_readLine 6 = .ok (.ifCond .eq 10, 3) := by decide +kernel
theorem dX6_readLine_16 : decode cX6_readLine 16 = .ok (.aload_n 0, 1) := by decide +kernel
theorem dX6_readLine_17 : decode cX6_readLine 17 = .ok (.ldc 99, 2) := by decide +kernel
theorem dX6_readLine_19 : decode cX6_readLine 19 = .ok (.invokevirtual 92, 3) := by decide +kernel
theorem dX6_readLine_22 : decode cX6_readLine 22 = .ok (.ifCond .eq 10, 3) := by decide +kernel
theorem dX6_readLine_32 : decode cX6_readLine 32 = .ok (.aload_n 0, 1) := by decide +kernel
theorem dX6_readLine_33 : decode cX6_readLine 33 = .ok (.ldc 104, 2) := by decide +kernel
theorem dX6_readLine_35 : decode cX6_readLine 35 = .ok (.invokevirtual 92, 3) := by decide +kernel
theorem dX6_readLine_38 : decode cX6_readLine 38 = .ok (.ifCond .eq 10, 3) := by decide +kernel
theorem dX6_readLine_48 : decode cX6_readLine 48 = .ok (.aload_n 0, 1) := by decide +kernel
theorem dX6_readLine_49 : decode cX6_readLine 49 = .ok (.ldc 109, 2) := by decide +kernel
theorem dX6_readLine_51 : decode cX6_readLine 51 = .ok (.invokevirtual 92, 3) := by decide +kernel
theorem dX6_readLine_54 : decode cX6_readLine 54 = .ok (.ifCond .eq 10, 3) := by decide +kernel
theorem dX6_readLine_64 : decode cX6_readLine 64 = .ok (.aload_n 0, 1) := by decide +kernel
theorem dX6_readLine_65 : decode cX6_readLine 65 = .ok (.iconst 1, 1) := by decide +kernel
theorem dX6_readLine_66 : decode cX6_readLine 66 = .ok (.invokevirtual 78, 3) := by decide +kernel
theorem dX6_readLine_57 : decode cX6_readLine 57 = .ok (.aload_n 0, 1) := by decide +kernel
theorem tw_924 : (Jvm.Cond.methodLink "MarshBells$Parser" (111 : Nat) ({ cls := "MarshBells$Parser", name := "readRule", desc := "()V" } : Jvm.MethodName)) ∈ lw_tbl := tk_4 (List.mem_of_getElem? (i := 204) rfl)
theorem tw_927 : (Jvm.Cond.code ({ cls := "MarshBells$Parser", name := "readRule", desc := "()V" } : Jvm.MethodName) prog_8_method_14_code (1 : Nat) (Option.none : Option Jvm.ClassFile.FieldType)) ∈ lw_tbl := tk_4 (List.mem_of_getElem? (i := 207) rfl)
theorem tw_926 : (Jvm.Cond.instanceMethod ({ cls := "MarshBells$Parser", name := "readRule", desc := "()V" } : Jvm.MethodName)) ∈ lw_tbl := tk_4 (List.mem_of_getElem? (i := 206) rfl)
theorem se_X6_readRule : Cond.selects RX6 yX6_readRule yX6_readRule ∈ lw_tbl := List.mem_append_left _ (List.mem_of_getElem? (i := 49) rfl)
theorem li_X6_111 : kLV RX6 111 RX6 yX6_readRule cX6_readRule 1 none 0 := ⟨tw_924, tw_926, se_X6_readRule, tw_927, tw_5, by decide +kernel⟩
theorem dX6_readLine_58 : decode cX6_readLine 58 = .ok (.invokevirtual 111, 3) := by decide +kernel
theorem dX6_readLine_61 : decode cX6_readLine 61 = .ok (.goto 8, 3) := by decide +kernel
theorem dX6_readLine_41 : decode cX6_readLine 41 = .ok (.aload_n 0, 1) := by decide +kernel
theorem tw_919 : (Jvm.Cond.methodLink "MarshBells$Parser" (106 : Nat) ({ cls := "MarshBells$Parser", name := "readStair", desc := "()V" } : Jvm.MethodName)) ∈ lw_tbl := tk_4 (List.mem_of_getElem? (i := 199) rfl)
theorem tw_922 : (Jvm.Cond.code ({ cls := "MarshBells$Parser", name := "readStair", desc := "()V" } : Jvm.MethodName) prog_8_method_13_code (1 : Nat) (Option.none : Option Jvm.ClassFile.FieldType)) ∈ lw_tbl := tk_4 (List.mem_of_getElem? (i := 202) rfl)
theorem tw_921 : (Jvm.Cond.instanceMethod ({ cls := "MarshBells$Parser", name := "readStair", desc := "()V" } : Jvm.MethodName)) ∈ lw_tbl := tk_4 (List.mem_of_getElem? (i := 201) rfl)
theorem se_X6_readStair : Cond.selects RX6 yX6_readStair yX6_readStair ∈ lw_tbl := List.mem_append_left _ (List.mem_of_getElem? (i := 48) rfl)
theorem li_X6_106 : kLV RX6 106 RX6 yX6_readStair cX6_readStair 1 none 0 := ⟨tw_919, tw_921, se_X6_readStair, tw_922, tw_5, by decide +kernel⟩
theorem dX6_readLine_42 : decode cX6_readLine 42 = .ok (.invokevirtual 106, 3) := by decide +kernel
theorem dX6_readLine_45 : decode cX6_readLine 45 = .ok (.goto 24, 3) := by decide +kernel
theorem dX6_readLine_25 : decode cX6_readLine 25 = .ok (.aload_n 0, 1) := by decide +kernel
theorem tw_914 : (Jvm.Cond.methodLink "MarshBells$Parser" (101 : Nat) ({ cls := "MarshBells$Parser", name := "readWalk", desc := "()V" } : Jvm.MethodName)) ∈ lw_tbl := tk_4 (List.mem_of_getElem? (i := 194) rfl)
theorem tw_917 : (Jvm.Cond.code ({ cls := "MarshBells$Parser", name := "readWalk", desc := "()V" } : Jvm.MethodName) prog_8_method_12_code (1 : Nat) (Option.none : Option Jvm.ClassFile.FieldType)) ∈ lw_tbl := tk_4 (List.mem_of_getElem? (i := 197) rfl)
theorem tw_916 : (Jvm.Cond.instanceMethod ({ cls := "MarshBells$Parser", name := "readWalk", desc := "()V" } : Jvm.MethodName)) ∈ lw_tbl := tk_4 (List.mem_of_getElem? (i := 196) rfl)
theorem se_X6_readWalk : Cond.selects RX6 yX6_readWalk yX6_readWalk ∈ lw_tbl := List.mem_append_left _ (List.mem_of_getElem? (i := 47) rfl)
theorem li_X6_101 : kLV RX6 101 RX6 yX6_readWalk cX6_readWalk 1 none 0 := ⟨tw_914, tw_916, se_X6_readWalk, tw_917, tw_5, by decide +kernel⟩
theorem dX6_readLine_26 : decode cX6_readLine 26 = .ok (.invokevirtual 101, 3) := by decide +kernel
theorem dX6_readLine_29 : decode cX6_readLine 29 = .ok (.goto 40, 3) := by decide +kernel
theorem dX6_readLine_9 : decode cX6_readLine 9 = .ok (.aload_n 0, 1) := by decide +kernel
theorem tw_876 : (Jvm.Cond.methodLink "MarshBells$Parser" (96 : Nat) ({ cls := "MarshBells$Parser", name := "readLesson", desc := "()V" } : Jvm.MethodName)) ∈ lw_tbl := tk_4 (List.mem_of_getElem? (i := 156) rfl)
theorem tw_879 : (Jvm.Cond.code ({ cls := "MarshBells$Parser", name := "readLesson", desc := "()V" } : Jvm.MethodName) prog_8_method_15_code (2 : Nat) (Option.none : Option Jvm.ClassFile.FieldType)) ∈ lw_tbl := tk_4 (List.mem_of_getElem? (i := 159) rfl)
theorem tw_878 : (Jvm.Cond.instanceMethod ({ cls := "MarshBells$Parser", name := "readLesson", desc := "()V" } : Jvm.MethodName)) ∈ lw_tbl := tk_4 (List.mem_of_getElem? (i := 158) rfl)
theorem se_X6_readLesson : Cond.selects RX6 yX6_readLesson yX6_readLesson ∈ lw_tbl := List.mem_append_left _ (List.mem_of_getElem? (i := 39) rfl)
theorem li_X6_96 : kLV RX6 96 RX6 yX6_readLesson cX6_readLesson 2 none 0 := ⟨tw_876, tw_878, se_X6_readLesson, tw_879, tw_5, by decide +kernel⟩
theorem dX6_readLine_10 : decode cX6_readLine 10 = .ok (.invokevirtual 96, 3) := by decide +kernel
theorem dX6_readLine_13 : decode cX6_readLine 13 = .ok (.goto 56, 3) := by decide +kernel
theorem dX6_read_0 : decode cX6_read 0 = .ok (.aload_n 0, 1) := by decide +kernel
theorem dX6_read_1 : decode cX6_read 1 = .ok (.aload_n 2, 1) := by decide +kernel
theorem ft_X6_1 : kFT 6 1 (.object "MarshBells$Plan") false RX6 := ⟨RX6, TX6, 11, tyX6, rfl, tyX6_ok, nmX6, rfl, by decide +kernel, rfl⟩
theorem dX6_read_2 : decode cX6_read 2 = .ok (.putfield 15, 3) := by decide +kernel
theorem dX6_read_5 : decode cX6_read 5 = .ok (.aload_n 0, 1) := by decide +kernel
theorem dX6_read_6 : decode cX6_read 6 = .ok (.getfield 15, 3) := by decide +kernel
theorem tw_803 : (Jvm.Cond.methodLinkNest "MarshBells$Parser" (19 : Nat) ({ cls := "MarshBells$Plan", name := "clear", desc := "()V" } : Jvm.MethodName) "MarshBells") ∈ lw_tbl := tk_4 (List.mem_of_getElem? (i := 83) rfl)
theorem tw_2 : (Jvm.Cond.initialized "MarshBells$Plan") ∈ lw_tbl := tk_1 (List.mem_of_getElem? (i := 2) rfl)
theorem tw_806 : (Jvm.Cond.code ({ cls := "MarshBells$Plan", name := "clear", desc := "()V" } : Jvm.MethodName) prog_9_method_2_code (1 : Nat) (Option.none : Option Jvm.ClassFile.FieldType)) ∈ lw_tbl := tk_4 (List.mem_of_getElem? (i := 86) rfl)
theorem tw_805 : (Jvm.Cond.instanceMethod ({ cls := "MarshBells$Plan", name := "clear", desc := "()V" } : Jvm.MethodName)) ∈ lw_tbl := tk_4 (List.mem_of_getElem? (i := 85) rfl)
theorem se_X7_clear : Cond.selects RX7 yX7_clear yX7_clear ∈ lw_tbl := List.mem_append_left _ (List.mem_of_getElem? (i := 34) rfl)
theorem li_X6_19 : kLN RX6 19 RX7 yX7_clear "MarshBells" cX7_clear 1 none 0 := ⟨tw_803, tw_805, se_X7_clear, tw_806, tw_2, by decide +kernel⟩
theorem dX6_read_9 : decode cX6_read 9 = .ok (.invokevirtual 19, 3) := by decide +kernel
theorem dX6_read_12 : decode cX6_read 12 = .ok (.aload_n 0, 1) := by decide +kernel
theorem dX6_read_13 : decode cX6_read 13 = .ok (.iload_n 1, 1) := by decide +kernel
theorem dX6_read_14 : decode cX6_read 14 = .ok (.aload_n 0, 1) := by decide +kernel
theorem dX6_read_15 : decode cX6_read 15 = .ok (.getfield 9, 3) := by decide +kernel
theorem dX6_read_18 : decode cX6_read 18 = .ok (.arraylength, 1) := by decide +kernel
theorem tw_811 : (Jvm.Cond.methodLink "MarshBells$Parser" (24 : Nat) ({ cls := "java/lang/Math", name := "min", desc := "(II)I" } : Jvm.MethodName)) ∈ lw_tbl := tk_4 (List.mem_of_getElem? (i := 91) rfl)
theorem lm_X6_24 : kLM RX6 24 Lib.Math.min.name Lib.Math.min.code := ⟨tw_811, tw_650, tw_18, tw_651⟩
theorem dX6_read_19 : decode cX6_read 19 = .ok (.invokestatic 24, 3) := by decide +kernel
theorem ft_X6_2 : kFT 6 2 .int false RX6 := ⟨RX6, TX6, 11, tyX6, rfl, tyX6_ok, nmX6, rfl, by decide +kernel, rfl⟩
theorem dX6_read_22 : decode cX6_read 22 = .ok (.putfield 30, 3) := by decide +kernel
theorem dX6_read_25 : decode cX6_read 25 = .ok (.aload_n 0, 1) := by decide +kernel
theorem dX6_read_26 : decode cX6_read 26 = .ok (.iconst 0, 1) := by decide +kernel
theorem dX6_read_27 : decode cX6_read 27 = .ok (.putfield 34, 3) := by decide +kernel
theorem dX6_read_30 : decode cX6_read 30 = .ok (.aload_n 0, 1) := by decide +kernel
theorem dX6_read_31 : decode cX6_read 31 = .ok (.iconst 0, 1) := by decide +kernel
theorem dX6_read_32 : decode cX6_read 32 = .ok (.putfield 37, 3) := by decide +kernel
theorem dX6_read_35 : decode cX6_read 35 = .ok (.aload_n 0, 1) := by decide +kernel
theorem dX6_read_36 : decode cX6_read 36 = .ok (.iconst (-1), 1) := by decide +kernel
theorem dX6_read_37 : decode cX6_read 37 = .ok (.putfield 40, 3) := by decide +kernel
theorem dX6_read_40 : decode cX6_read 40 = .ok (.aload_n 0, 1) := by decide +kernel
theorem dX6_read_41 : decode cX6_read 41 = .ok (.iconst 0, 1) := by decide +kernel
theorem dX6_read_42 : decode cX6_read 42 = .ok (.putfield 43, 3) := by decide +kernel
theorem dX6_read_45 : decode cX6_read 45 = .ok (.aload_n 0, 1) := by decide +kernel
theorem dX6_read_46 : decode cX6_read 46 = .ok (.iconst 0, 1) := by decide +kernel
theorem dX6_read_47 : decode cX6_read 47 = .ok (.putfield 47, 3) := by decide +kernel
theorem dX6_read_50 : decode cX6_read 50 = .ok (.aload_n 0, 1) := by decide +kernel
theorem dX6_read_51 : decode cX6_read 51 = .ok (.iconst 0, 1) := by decide +kernel
theorem dX6_read_52 : decode cX6_read 52 = .ok (.putfield 50, 3) := by decide +kernel
theorem dX6_read_55 : decode cX6_read 55 = .ok (.aload_n 0, 1) := by decide +kernel
theorem dX6_read_56 : decode cX6_read 56 = .ok (.invokevirtual 53, 3) := by decide +kernel
theorem dX6_read_59 : decode cX6_read 59 = .ok (.iconst 0, 1) := by decide +kernel
theorem dX6_read_60 : decode cX6_read 60 = .ok (.istore_n 3, 1) := by decide +kernel
theorem dX6_read_61 : decode cX6_read 61 = .ok (.iload_n 3, 1) := by decide +kernel
theorem dX6_read_62 : decode cX6_read 62 = .ok (.sipush 700, 3) := by decide +kernel
theorem dX6_read_93 : decode cX6_read 93 = .ok (.return_, 1) := by decide +kernel
theorem dX6_read_65 : decode cX6_read 65 = .ok (.if_icmp .gt 28, 3) := by decide +kernel
theorem dX6_read_68 : decode cX6_read 68 = .ok (.aload_n 0, 1) := by decide +kernel
theorem dX6_read_69 : decode cX6_read 69 = .ok (.getfield 50, 3) := by decide +kernel
theorem dX6_read_72 : decode cX6_read 72 = .ok (.ifCond .eq 21, 3) := by decide +kernel
theorem dX6_read_75 : decode cX6_read 75 = .ok (.aload_n 0, 1) := by decide +kernel
theorem dX6_read_76 : decode cX6_read 76 = .ok (.getfield 50, 3) := by decide +kernel
theorem dX6_read_79 : decode cX6_read 79 = .ok (.iconst 5, 1) := by decide +kernel
theorem dX6_read_80 : decode cX6_read 80 = .ok (.if_icmp .eq 13, 3) := by decide +kernel
theorem dX6_read_83 : decode cX6_read 83 = .ok (.aload_n 0, 1) := by decide +kernel
theorem tw_819 : (Jvm.Cond.methodLink "MarshBells$Parser" (56 : Nat) ({ cls := "MarshBells$Parser", name := "readLine", desc := "()V" } : Jvm.MethodName)) ∈ lw_tbl := tk_4 (List.mem_of_getElem? (i := 99) rfl)
theorem tw_822 : (Jvm.Cond.code ({ cls := "MarshBells$Parser", name := "readLine", desc := "()V" } : Jvm.MethodName) prog_8_method_11_code (1 : Nat) (Option.none : Option Jvm.ClassFile.FieldType)) ∈ lw_tbl := tk_4 (List.mem_of_getElem? (i := 102) rfl)
theorem tw_821 : (Jvm.Cond.instanceMethod ({ cls := "MarshBells$Parser", name := "readLine", desc := "()V" } : Jvm.MethodName)) ∈ lw_tbl := tk_4 (List.mem_of_getElem? (i := 101) rfl)
theorem se_X6_readLine : Cond.selects RX6 yX6_readLine yX6_readLine ∈ lw_tbl := List.mem_append_left _ (List.mem_of_getElem? (i := 37) rfl)
theorem li_X6_56 : kLV RX6 56 RX6 yX6_readLine cX6_readLine 1 none 0 := ⟨tw_819, tw_821, se_X6_readLine, tw_822, tw_5, by decide +kernel⟩
theorem dX6_read_84 : decode cX6_read 84 = .ok (.invokevirtual 56, 3) := by decide +kernel
theorem dX6_read_87 : decode cX6_read 87 = .ok (.iinc 3 1, 3) := by decide +kernel
theorem dX6_read_90 : decode cX6_read 90 = .ok (.goto (-29), 3) := by decide +kernel
def fX6_isWord_5_all_p24 (fu : Nat) (g : Nat → Nat → Int32) (L : Nat → Nat → Int64) : Option ((Int32) × zS) :=
  ckb 0 (some (0, (g, L)))
def fX6_isWord_5_all_s28 (fu : Nat) (k28 : Int32 × (Nat → Nat → Int32) × (Nat → Nat → Int64) → Option ((Int32) × zS)) (v2 : Int32) (g : Nat → Nat → Int32) (L : Nat → Nat → Int64) : Option ((Int32) × zS) :=
  if 3 ≤ (v2 : Int32) then ckb 1 (some (1, (g, L)))
  else ck ((g 5 5) + v2) 700 (
  ck v2 3 (
  if (g 14 (Int32.toNatClampNeg ((g 5 5) + v2))) = (sch 4 (Int32.toNatClampNeg v2)) then k28 ((v2 + 1), g, L)
  else ckb 0 (some (0, (g, L)))))
def fX6_isWord_5_all_l28 (fu : Nat) (v2 : Int32) (g : Nat → Nat → Int32) (L : Nat → Nat → Int64) : Option ((Int32) × zS) :=
  whileK (fun k v => fX6_isWord_5_all_s28 fu k v.1 v.2.1 v.2.2) fu (v2, g, L)
def fX6_isWord_5_all (fu : Nat) (g : Nat → Nat → Int32) (L : Nat → Nat → Int64) : Option ((Int32) × zS) :=
  if (g 5 4) = 2 then (if ((g 5 3) - (g 5 5)) = 3 then fX6_isWord_5_all_l28 fu 0 g L
  else fX6_isWord_5_all_p24 fu g L)
  else fX6_isWord_5_all_p24 fu g L
set_option maxHeartbeats 4000000 in
set_option maxRecDepth 100000 in
theorem rX6_isWord_5_all (l : Launch) (G : kG) (sz : Nat) (a : Nat → Nat) (fu : Nat) (g : Nat → Nat → Int32) (L : Nat → Nat → Int64) (res : Int32) (s9 : zS) (h : fX6_isWord_5_all fu g L = some (res, s9)) : kM l yX6_isWord cX6_isWord 3 (some .boolean) { frames := 10, cells := 0, slots := 0, locals := 195 } G [.ref (a 5), .ref (G.2.2.2.2.2.1 4)] (zw G (XS 2) 105 a g L) sz (kQi G (S := Unit) (fun r' _ => r' = res) (fun _ => zw G (XS 2) 105 a s9.1 s9.2)) := by
  refine kM.of (by decide) (Nat.le_of_ble_eq_true rfl) ?_
  intro p e s m below meth c A ls H C hr hlk hnm hP hD hS hl
  have C : kC G p s m c cX6_isWord 3 RX6 A := C
  have hx := C.1
  have hb := C.2.1
  have hl : lv_has ls 3 [(0, .ref (a 5)), (1, .ref (G.2.2.2.2.2.1 4))] := hl
  obtain ⟨locs, hlocs⟩ : ∃ q : List Loc, q = [] := ⟨_, rfl⟩
  rw [← hlocs] at hS
  rw [← hlocs]
  unfold fX6_isWord_5_all at h
  refine lv_aload_n hx hb dX6_isWord_0 rfl (lv_at hl 0 rfl) ?_
  refine x_getv (v := .int (g 5 4)) (Or.inl fl_X6_50) C hP (by decide) xs_5 rfl dX6_isWord_1 ?_
  refine lv_iconst (v := 2) hx hb dX6_isWord_4 (by decide) ?_
  have J24 : ∀ (g : Nat → Nat → Int32) (L : Nat → Nat → Int64) (H : Heap) (locs : List Loc) (ls : Array Slot), fX6_isWord_5_all_p24 fu g L = some (res, s9) → va_P G.1 vwCl (zw G (XS 2) 105 a g L) H → va_D A (zw G (XS 2) 105 a g L) → va_S A s.heap H locs → lv_has ls 3 [] → W p l e { frames := 10, cells := 0, slots := 0, locals := 195 } s m [.ref (a 5), .ref (G.2.2.2.2.2.1 4)].toArray below meth c H locs 0 0 (MQ below ((kQi G (S := Unit) (fun r' _ => r' = res) (fun _ => zw G (XS 2) 105 a s9.1 s9.2)) A) [.ref (a 5), .ref (G.2.2.2.2.2.1 4)].toArray s 0 0 A) (F0 m 24 ls []) := by
    intro g L H locs ls h hP hD hS hl
    unfold fX6_isWord_5_all_p24 at h
    refine lv_iconst (v := 0) hx hb dX6_isWord_24 (by decide) ?_
    exact y_zret C hr hlk hP hD hS h (Nat.le_of_ble_eq_true rfl) (Nat.le_of_ble_eq_true rfl) dX6_isWord_25
  refine lv_icmp_ne (x := (g 5 4)) (y := 2) (tgt := 24) hx hb dX6_isWord_5 (by decide) (fun c1 => ?_) (fun c1 => ?_)
  ·
    have h := ite_e c1 h
    exact J24 g L H locs ls h hP hD hS (lv_sub hl [] rfl)
  ·
    have h := ite_t c1 h
    refine lv_aload_n hx hb dX6_isWord_8 rfl (lv_at hl 0 rfl) ?_
    refine x_getv (v := .int (g 5 3)) (Or.inl fl_X6_34) C hP (by decide) xs_5 rfl dX6_isWord_9 ?_
    refine lv_aload_n hx hb dX6_isWord_12 rfl (lv_at hl 0 rfl) ?_
    refine x_getv (v := .int (g 5 5)) (Or.inl fl_X6_59) C hP (by decide) xs_5 rfl dX6_isWord_13 ?_
    refine lv_isub hx hb dX6_isWord_16 ?_
    refine lv_aload_n hx hb dX6_isWord_17 rfl (lv_at hl 1 rfl) ?_
    refine y_slen (v := 3) C (by decide) (by decide) hP hD hS (kR rfl) hl.1 (Nat.le_of_ble_eq_true rfl) dX6_isWord_18 (fun H locs hP hD hS => ?_)
    refine lv_icmp_eq (x := ((g 5 3) - (g 5 5))) (y := 3) (tgt := 26) hx hb dX6_isWord_21 (by decide) (fun c2 => ?_) (fun c2 => ?_)
    ·
      have h := ite_t c2 h
      refine lv_iconst (v := 0) hx hb dX6_isWord_26 (by decide) ?_
      refine lv_istore_n (lv' := [(2, .int 0), (0, .ref (a 5)), (1, .ref (G.2.2.2.2.2.1 4))]) hx hb dX6_isWord_27 rfl hl (by decide) rfl (fun ls hl => ?_)
      have lp28 : ∀ (_ : True), ∀ (n : Nat) (v : Int32 × (Nat → Nat → Int32) × (Nat → Nat → Int64)), whileK (fun k v => fX6_isWord_5_all_s28 fu k v.1 v.2.1 v.2.2) n v = some (res, s9) → ∀ (H : Heap) (locs : List Loc) (ls : Array Slot), va_P G.1 vwCl (zw G (XS 2) 105 a (v.2.1) (v.2.2)) H → va_D A (zw G (XS 2) 105 a (v.2.1) (v.2.2)) → va_S A s.heap H locs → lv_has ls 3 [(0, .ref (a 5)), (1, .ref (G.2.2.2.2.2.1 4)), (2, .int (v.1))] → W p l e { frames := 10, cells := 0, slots := 0, locals := 195 } s m [.ref (a 5), .ref (G.2.2.2.2.2.1 4)].toArray below meth c H locs 0 0 (MQ below ((kQi G (S := Unit) (fun r' _ => r' = res) (fun _ => zw G (XS 2) 105 a s9.1 s9.2)) A) [.ref (a 5), .ref (G.2.2.2.2.2.1 4)].toArray s 0 0 A) (F0 m 28 ls []) := by
        intro _
        refine while_ind (fun k28 ih28 v h => ?_)
        obtain ⟨v2, g, L⟩ := v
        intro H locs ls hP hD hS hl
        have h : fX6_isWord_5_all_s28 fu k28 v2 g L = some (res, s9) := h
        have hP : va_P G.1 vwCl (zw G (XS 2) 105 a g L) H := hP
        have hD : va_D A (zw G (XS 2) 105 a g L) := hD
        have hl : lv_has ls 3 [(0, .ref (a 5)), (1, .ref (G.2.2.2.2.2.1 4)), (2, .int v2)] := hl
        show W p l e { frames := 10, cells := 0, slots := 0, locals := 195 } s m [.ref (a 5), .ref (G.2.2.2.2.2.1 4)].toArray below meth c H locs 0 0 (MQ below ((kQi G (S := Unit) (fun r' _ => r' = res) (fun _ => zw G (XS 2) 105 a s9.1 s9.2)) A) [.ref (a 5), .ref (G.2.2.2.2.2.1 4)].toArray s 0 0 A) (F0 m 28 ls [])
        unfold fX6_isWord_5_all_s28 at h
        refine lv_iload_n hx hb dX6_isWord_28 rfl (lv_at hl 2 rfl) ?_
        refine lv_aload_n hx hb dX6_isWord_29 rfl (lv_at hl 1 rfl) ?_
        refine y_slen (v := 3) C (by decide) (by decide) hP hD hS (kR rfl) hl.1 (Nat.le_of_ble_eq_true rfl) dX6_isWord_30 (fun H locs hP hD hS => ?_)
        refine lv_icmp_ge (x := v2) (y := 3) (tgt := 63) hx hb dX6_isWord_33 (by decide) (fun c3 => ?_) (fun c3 => ?_)
        ·
          have h := ite_t c3 h
          refine lv_iconst (v := 1) hx hb dX6_isWord_63 (by decide) ?_
          exact y_zret C hr hlk hP hD hS h (Nat.le_of_ble_eq_true rfl) (Nat.le_of_ble_eq_true rfl) dX6_isWord_64
        ·
          have h := ite_e c3 h
          refine lv_aload_n hx hb dX6_isWord_36 rfl (lv_at hl 0 rfl) ?_
          refine x_getr (Or.inl fl_X6_9) C hP (by decide) xs_5 rfl dX6_isWord_37 ?_
          refine lv_aload_n hx hb dX6_isWord_40 rfl (lv_at hl 0 rfl) ?_
          refine x_getv (v := .int (g 5 5)) (Or.inl fl_X6_59) C hP (by decide) xs_5 rfl dX6_isWord_41 ?_
          refine lv_iload_n hx hb dX6_isWord_44 rfl (lv_at hl 2 rfl) ?_
          refine lv_iadd hx hb dX6_isWord_45 ?_
          refine y_ald C hP (by decide) xs_14 dX6_isWord_46 h (fun h => ?_)
          refine lv_aload_n hx hb dX6_isWord_47 rfl (lv_at hl 1 rfl) ?_
          refine lv_iload_n hx hb dX6_isWord_48 rfl (lv_at hl 2 rfl) ?_
          refine y_schr (N := 3) C (by decide) (by decide) hP hD hS (kR rfl) hl.1 (Nat.le_of_ble_eq_true rfl) dX6_isWord_49 h (fun H locs h hP hD hS => ?_)
          refine lv_icmp_eq (x := (g 14 (Int32.toNatClampNeg ((g 5 5) + v2)))) (y := (sch 4 (Int32.toNatClampNeg v2))) (tgt := 57) hx hb dX6_isWord_52 (by decide) (fun c4 => ?_) (fun c4 => ?_)
          ·
            have h := ite_t c4 h
            refine lv_iinc (v := (v2 + 1)) (lv' := [(2, .int (v2 + 1)), (0, .ref (a 5)), (1, .ref (G.2.2.2.2.2.1 4))]) hx hb dX6_isWord_57 hl (k := 2) rfl rfl (by decide) rfl (fun ls hl => ?_)
            refine lv_goto (tgt := 28) hx hb dX6_isWord_60 (by decide) ?_
            exact ih28 ((v2 + 1), g, L) h H locs ls hP hD hS (lv_sub hl [1, 2, 0] rfl)
          ·
            have h := ite_e c4 h
            refine lv_iconst (v := 0) hx hb dX6_isWord_55 (by decide) ?_
            exact y_zret C hr hlk hP hD hS h (Nat.le_of_ble_eq_true rfl) (Nat.le_of_ble_eq_true rfl) dX6_isWord_56
      exact lp28 trivial fu (0, g, L) h H locs ls hP hD hS (lv_sub hl [1, 2, 0] rfl)
    ·
      have h := ite_e c2 h
      exact J24 g L H locs ls h hP hD hS (lv_sub hl [] rfl)
def fX6_isWord_5_some_p24 (fu : Nat) (g : Nat → Nat → Int32) (L : Nat → Nat → Int64) : Option ((Int32) × zS) :=
  ckb 0 (some (0, (g, L)))
def fX6_isWord_5_some_s28 (fu : Nat) (k28 : Int32 × (Nat → Nat → Int32) × (Nat → Nat → Int64) → Option ((Int32) × zS)) (v2 : Int32) (g : Nat → Nat → Int32) (L : Nat → Nat → Int64) : Option ((Int32) × zS) :=
  if 4 ≤ (v2 : Int32) then ckb 1 (some (1, (g, L)))
  else ck ((g 5 5) + v2) 700 (
  ck v2 4 (
  if (g 14 (Int32.toNatClampNeg ((g 5 5) + v2))) = (sch 5 (Int32.toNatClampNeg v2)) then k28 ((v2 + 1), g, L)
  else ckb 0 (some (0, (g, L)))))
def fX6_isWord_5_some_l28 (fu : Nat) (v2 : Int32) (g : Nat → Nat → Int32) (L : Nat → Nat → Int64) : Option ((Int32) × zS) :=
  whileK (fun k v => fX6_isWord_5_some_s28 fu k v.1 v.2.1 v.2.2) fu (v2, g, L)
def fX6_isWord_5_some (fu : Nat) (g : Nat → Nat → Int32) (L : Nat → Nat → Int64) : Option ((Int32) × zS) :=
  if (g 5 4) = 2 then (if ((g 5 3) - (g 5 5)) = 4 then fX6_isWord_5_some_l28 fu 0 g L
  else fX6_isWord_5_some_p24 fu g L)
  else fX6_isWord_5_some_p24 fu g L
set_option maxHeartbeats 4000000 in
set_option maxRecDepth 100000 in
theorem rX6_isWord_5_some (l : Launch) (G : kG) (sz : Nat) (a : Nat → Nat) (fu : Nat) (g : Nat → Nat → Int32) (L : Nat → Nat → Int64) (res : Int32) (s9 : zS) (h : fX6_isWord_5_some fu g L = some (res, s9)) : kM l yX6_isWord cX6_isWord 3 (some .boolean) { frames := 10, cells := 0, slots := 0, locals := 195 } G [.ref (a 5), .ref (G.2.2.2.2.2.1 5)] (zw G (XS 2) 105 a g L) sz (kQi G (S := Unit) (fun r' _ => r' = res) (fun _ => zw G (XS 2) 105 a s9.1 s9.2)) := by
  refine kM.of (by decide) (Nat.le_of_ble_eq_true rfl) ?_
  intro p e s m below meth c A ls H C hr hlk hnm hP hD hS hl
  have C : kC G p s m c cX6_isWord 3 RX6 A := C
  have hx := C.1
  have hb := C.2.1
  have hl : lv_has ls 3 [(0, .ref (a 5)), (1, .ref (G.2.2.2.2.2.1 5))] := hl
  obtain ⟨locs, hlocs⟩ : ∃ q : List Loc, q = [] := ⟨_, rfl⟩
  rw [← hlocs] at hS
  rw [← hlocs]
  unfold fX6_isWord_5_some at h
  refine lv_aload_n hx hb dX6_isWord_0 rfl (lv_at hl 0 rfl) ?_
  refine x_getv (v := .int (g 5 4)) (Or.inl fl_X6_50) C hP (by decide) xs_5 rfl dX6_isWord_1 ?_
  refine lv_iconst (v := 2) hx hb dX6_isWord_4 (by decide) ?_
  have J24 : ∀ (g : Nat → Nat → Int32) (L : Nat → Nat → Int64) (H : Heap) (locs : List Loc) (ls : Array Slot), fX6_isWord_5_some_p24 fu g L = some (res, s9) → va_P G.1 vwCl (zw G (XS 2) 105 a g L) H → va_D A (zw G (XS 2) 105 a g L) → va_S A s.heap H locs → lv_has ls 3 [] → W p l e { frames := 10, cells := 0, slots := 0, locals := 195 } s m [.ref (a 5), .ref (G.2.2.2.2.2.1 5)].toArray below meth c H locs 0 0 (MQ below ((kQi G (S := Unit) (fun r' _ => r' = res) (fun _ => zw G (XS 2) 105 a s9.1 s9.2)) A) [.ref (a 5), .ref (G.2.2.2.2.2.1 5)].toArray s 0 0 A) (F0 m 24 ls []) := by
    intro g L H locs ls h hP hD hS hl
    unfold fX6_isWord_5_some_p24 at h
    refine lv_iconst (v := 0) hx hb dX6_isWord_24 (by decide) ?_
    exact y_zret C hr hlk hP hD hS h (Nat.le_of_ble_eq_true rfl) (Nat.le_of_ble_eq_true rfl) dX6_isWord_25
  refine lv_icmp_ne (x := (g 5 4)) (y := 2) (tgt := 24) hx hb dX6_isWord_5 (by decide) (fun c1 => ?_) (fun c1 => ?_)
  ·
    have h := ite_e c1 h
    exact J24 g L H locs ls h hP hD hS (lv_sub hl [] rfl)
  ·
    have h := ite_t c1 h
    refine lv_aload_n hx hb dX6_isWord_8 rfl (lv_at hl 0 rfl) ?_
    refine x_getv (v := .int (g 5 3)) (Or.inl fl_X6_34) C hP (by decide) xs_5 rfl dX6_isWord_9 ?_
    refine lv_aload_n hx hb dX6_isWord_12 rfl (lv_at hl 0 rfl) ?_
    refine x_getv (v := .int (g 5 5)) (Or.inl fl_X6_59) C hP (by decide) xs_5 rfl dX6_isWord_13 ?_
    refine lv_isub hx hb dX6_isWord_16 ?_
    refine lv_aload_n hx hb dX6_isWord_17 rfl (lv_at hl 1 rfl) ?_
    refine y_slen (v := 4) C (by decide) (by decide) hP hD hS (kR rfl) hl.1 (Nat.le_of_ble_eq_true rfl) dX6_isWord_18 (fun H locs hP hD hS => ?_)
    refine lv_icmp_eq (x := ((g 5 3) - (g 5 5))) (y := 4) (tgt := 26) hx hb dX6_isWord_21 (by decide) (fun c2 => ?_) (fun c2 => ?_)
    ·
      have h := ite_t c2 h
      refine lv_iconst (v := 0) hx hb dX6_isWord_26 (by decide) ?_
      refine lv_istore_n (lv' := [(2, .int 0), (0, .ref (a 5)), (1, .ref (G.2.2.2.2.2.1 5))]) hx hb dX6_isWord_27 rfl hl (by decide) rfl (fun ls hl => ?_)
      have lp28 : ∀ (_ : True), ∀ (n : Nat) (v : Int32 × (Nat → Nat → Int32) × (Nat → Nat → Int64)), whileK (fun k v => fX6_isWord_5_some_s28 fu k v.1 v.2.1 v.2.2) n v = some (res, s9) → ∀ (H : Heap) (locs : List Loc) (ls : Array Slot), va_P G.1 vwCl (zw G (XS 2) 105 a (v.2.1) (v.2.2)) H → va_D A (zw G (XS 2) 105 a (v.2.1) (v.2.2)) → va_S A s.heap H locs → lv_has ls 3 [(0, .ref (a 5)), (1, .ref (G.2.2.2.2.2.1 5)), (2, .int (v.1))] → W p l e { frames := 10, cells := 0, slots := 0, locals := 195 } s m [.ref (a 5), .ref (G.2.2.2.2.2.1 5)].toArray below meth c H locs 0 0 (MQ below ((kQi G (S := Unit) (fun r' _ => r' = res) (fun _ => zw G (XS 2) 105 a s9.1 s9.2)) A) [.ref (a 5), .ref (G.2.2.2.2.2.1 5)].toArray s 0 0 A) (F0 m 28 ls []) := by
        intro _
        refine while_ind (fun k28 ih28 v h => ?_)
        obtain ⟨v2, g, L⟩ := v
        intro H locs ls hP hD hS hl
        have h : fX6_isWord_5_some_s28 fu k28 v2 g L = some (res, s9) := h
        have hP : va_P G.1 vwCl (zw G (XS 2) 105 a g L) H := hP
        have hD : va_D A (zw G (XS 2) 105 a g L) := hD
        have hl : lv_has ls 3 [(0, .ref (a 5)), (1, .ref (G.2.2.2.2.2.1 5)), (2, .int v2)] := hl
        show W p l e { frames := 10, cells := 0, slots := 0, locals := 195 } s m [.ref (a 5), .ref (G.2.2.2.2.2.1 5)].toArray below meth c H locs 0 0 (MQ below ((kQi G (S := Unit) (fun r' _ => r' = res) (fun _ => zw G (XS 2) 105 a s9.1 s9.2)) A) [.ref (a 5), .ref (G.2.2.2.2.2.1 5)].toArray s 0 0 A) (F0 m 28 ls [])
        unfold fX6_isWord_5_some_s28 at h
        refine lv_iload_n hx hb dX6_isWord_28 rfl (lv_at hl 2 rfl) ?_
        refine lv_aload_n hx hb dX6_isWord_29 rfl (lv_at hl 1 rfl) ?_
        refine y_slen (v := 4) C (by decide) (by decide) hP hD hS (kR rfl) hl.1 (Nat.le_of_ble_eq_true rfl) dX6_isWord_30 (fun H locs hP hD hS => ?_)
        refine lv_icmp_ge (x := v2) (y := 4) (tgt := 63) hx hb dX6_isWord_33 (by decide) (fun c3 => ?_) (fun c3 => ?_)
        ·
          have h := ite_t c3 h
          refine lv_iconst (v := 1) hx hb dX6_isWord_63 (by decide) ?_
          exact y_zret C hr hlk hP hD hS h (Nat.le_of_ble_eq_true rfl) (Nat.le_of_ble_eq_true rfl) dX6_isWord_64
        ·
          have h := ite_e c3 h
          refine lv_aload_n hx hb dX6_isWord_36 rfl (lv_at hl 0 rfl) ?_
          refine x_getr (Or.inl fl_X6_9) C hP (by decide) xs_5 rfl dX6_isWord_37 ?_
          refine lv_aload_n hx hb dX6_isWord_40 rfl (lv_at hl 0 rfl) ?_
          refine x_getv (v := .int (g 5 5)) (Or.inl fl_X6_59) C hP (by decide) xs_5 rfl dX6_isWord_41 ?_
          refine lv_iload_n hx hb dX6_isWord_44 rfl (lv_at hl 2 rfl) ?_
          refine lv_iadd hx hb dX6_isWord_45 ?_
          refine y_ald C hP (by decide) xs_14 dX6_isWord_46 h (fun h => ?_)
          refine lv_aload_n hx hb dX6_isWord_47 rfl (lv_at hl 1 rfl) ?_
          refine lv_iload_n hx hb dX6_isWord_48 rfl (lv_at hl 2 rfl) ?_
          refine y_schr (N := 4) C (by decide) (by decide) hP hD hS (kR rfl) hl.1 (Nat.le_of_ble_eq_true rfl) dX6_isWord_49 h (fun H locs h hP hD hS => ?_)
          refine lv_icmp_eq (x := (g 14 (Int32.toNatClampNeg ((g 5 5) + v2)))) (y := (sch 5 (Int32.toNatClampNeg v2))) (tgt := 57) hx hb dX6_isWord_52 (by decide) (fun c4 => ?_) (fun c4 => ?_)
          ·
            have h := ite_t c4 h
            refine lv_iinc (v := (v2 + 1)) (lv' := [(2, .int (v2 + 1)), (0, .ref (a 5)), (1, .ref (G.2.2.2.2.2.1 5))]) hx hb dX6_isWord_57 hl (k := 2) rfl rfl (by decide) rfl (fun ls hl => ?_)
            refine lv_goto (tgt := 28) hx hb dX6_isWord_60 (by decide) ?_
            exact ih28 ((v2 + 1), g, L) h H locs ls hP hD hS (lv_sub hl [1, 2, 0] rfl)
          ·
            have h := ite_e c4 h
            refine lv_iconst (v := 0) hx hb dX6_isWord_55 (by decide) ?_
            exact y_zret C hr hlk hP hD hS h (Nat.le_of_ble_eq_true rfl) (Nat.le_of_ble_eq_true rfl) dX6_isWord_56
      exact lp28 trivial fu (0, g, L) h H locs ls hP hD hS (lv_sub hl [1, 2, 0] rfl)
    ·
      have h := ite_e c2 h
      exact J24 g L H locs ls h hP hD hS (lv_sub hl [] rfl)
def fX6_readWaited_5_les_p131 (fu : Nat) (g : Nat → Nat → Int32) (L : Nat → Nat → Int64) : Option ((Unit) × zS) :=
  some ((), (g, L))
def fX6_readWaited_5_les_p119 (fu : Nat) (q1_ : Nat) (g : Nat → Nat → Int32) (L : Nat → Nat → Int64) : Option ((Unit) × zS) :=
  if (g q1_ 1) = 0 then cb (fX6_refuse_5 fu 1 g L) (fun x2 g3 L4 =>
  fX6_readWaited_5_les_p131 fu g3 L4)
  else fX6_readWaited_5_les_p131 fu g L
def fX6_readWaited_5_les_p102 (fu : Nat) (q1_ : Nat) (g : Nat → Nat → Int32) (L : Nat → Nat → Int64) : Option ((Unit) × zS) :=
  if (g q1_ 10) ≤ (g q1_ 1) then fX6_readWaited_5_les_p119 fu q1_ g L
  else cb (fX6_refuse_5 fu 6 g L) (fun x7 g8 L9 =>
  fX6_readWaited_5_les_p119 fu q1_ g8 L9)
def fX6_readWaited_5_les_p96 (fu : Nat) (k2 : Int32 × (Nat → Nat → Int32) × (Nat → Nat → Int64) → Option ((Unit) × zS)) (q1_ : Nat) (v2 : Int32) (g : Nat → Nat → Int32) (L : Nat → Nat → Int64) : Option ((Unit) × zS) :=
  k2 ((v2 + 1), g, L)
def fX6_readWaited_5_les_p32 (fu : Nat) (k2 : Int32 × (Nat → Nat → Int32) × (Nat → Nat → Int64) → Option ((Unit) × zS)) (q1_ : Nat) (v2 : Int32) (g : Nat → Nat → Int32) (L : Nat → Nat → Int64) : Option ((Unit) × zS) :=
  cb (fX6_refuse_5 fu 2 g L) (fun x17 g18 L19 =>
  fX6_readWaited_5_les_p96 fu k2 q1_ v2 g18 L19)
def fX6_readWaited_5_les_s2 (fu : Nat) (q1_ : Nat) (k2 : Int32 × (Nat → Nat → Int32) × (Nat → Nat → Int64) → Option ((Unit) × zS)) (v2 : Int32) (g : Nat → Nat → Int32) (L : Nat → Nat → Int64) : Option ((Unit) × zS) :=
  if 6 < (v2 : Int32) then fX6_readWaited_5_les_p102 fu q1_ g L
  else if (g 5 4) = 1 then cb (fX6_isTooLong_5 fu g L) (fun x13 g14 L15 =>
  if x13 = 0 then (if (g14 q1_ 1) < 6 then (if (g14 5 6) < (g14 2 2) then (if ((((g14 q1_ 2) : Int32) >>> (((g14 5 6) : Int32) &&& 31) : Int32) &&& 1) = 0 then cb (fX5_waitFor_les fu q1_ (g14 5 6) g14 L15) (fun x25 g26 L27 =>
  cb (fX6_advance_5 fu g26 L27) (fun x29 g30 L31 =>
  fX6_readWaited_5_les_p96 fu k2 q1_ v2 g30 L31))
  else cb (fX6_refuse_5 fu 4 g14 L15) (fun x33 g34 L35 =>
  fX6_readWaited_5_les_p96 fu k2 q1_ v2 g34 L35))
  else cb (fX6_refuse_5 fu 3 g14 L15) (fun x37 g38 L39 =>
  fX6_readWaited_5_les_p96 fu k2 q1_ v2 g38 L39))
  else fX6_readWaited_5_les_p32 fu k2 q1_ v2 g14 L15)
  else fX6_readWaited_5_les_p32 fu k2 q1_ v2 g14 L15)
  else fX6_readWaited_5_les_p102 fu q1_ g L
def fX6_readWaited_5_les_l2 (fu : Nat) (q1_ : Nat) (v2 : Int32) (g : Nat → Nat → Int32) (L : Nat → Nat → Int64) : Option ((Unit) × zS) :=
  whileK (fun k v => fX6_readWaited_5_les_s2 fu q1_ k v.1 v.2.1 v.2.2) fu (v2, g, L)
def fX6_readWaited_5_les (fu : Nat) (q0_ : Nat) (g : Nat → Nat → Int32) (L : Nat → Nat → Int64) : Option ((Unit) × zS) :=
  fX6_readWaited_5_les_l2 fu q0_ 0 g L
set_option maxHeartbeats 4000000 in
set_option maxRecDepth 100000 in
theorem rX6_readWaited_5_les (l : Launch) (G : kG) (sz : Nat) (a : Nat → Nat) (fu : Nat) (g : Nat → Nat → Int32) (L : Nat → Nat → Int64) (q0_ : Nat) (q0_l : 57 ≤ q0_) (q0_h : q0_ < 81) (res : Unit) (s9 : zS) (h : fX6_readWaited_5_les fu q0_ g L = some (res, s9)) : kM l yX6_readWaited cX6_readWaited 3 none { frames := 8, cells := 0, slots := 0, locals := 150 } G [.ref (a 5), .ref (a q0_)] (zw G (XS 2) 105 a g L) sz (kQv G (S := Unit) (fun _ => True) (fun _ => zw G (XS 2) 105 a s9.1 s9.2)) := by
  refine kM.of (by decide) (Nat.le_of_ble_eq_true rfl) ?_
  intro p e s m below meth c A ls H C hr hlk hnm hP hD hS hl
  have C : kC G p s m c cX6_readWaited 3 RX6 A := C
  have hx := C.1
  have hb := C.2.1
  have hl : lv_has ls 3 [(0, .ref (a 5)), (1, .ref (a q0_))] := hl
  obtain ⟨locs, hlocs⟩ : ∃ q : List Loc, q = [] := ⟨_, rfl⟩
  rw [← hlocs] at hS
  rw [← hlocs]
  unfold fX6_readWaited_5_les at h
  refine lv_iconst (v := 0) hx hb dX6_readWaited_0 (by decide) ?_
  refine lv_istore_n (lv' := [(2, .int 0), (0, .ref (a 5)), (1, .ref (a q0_))]) hx hb dX6_readWaited_1 rfl hl (by decide) rfl (fun ls hl => ?_)
  have lp2 : ∀ (q1_ : Nat), 57 ≤ q1_ → q1_ < 81 → ∀ (n : Nat) (v : Int32 × (Nat → Nat → Int32) × (Nat → Nat → Int64)), whileK (fun k v => fX6_readWaited_5_les_s2 fu q1_ k v.1 v.2.1 v.2.2) n v = some (res, s9) → ∀ (H : Heap) (locs : List Loc) (ls : Array Slot), va_P G.1 vwCl (zw G (XS 2) 105 a (v.2.1) (v.2.2)) H → va_D A (zw G (XS 2) 105 a (v.2.1) (v.2.2)) → va_S A s.heap H locs → lv_has ls 3 [(0, .ref (a 5)), (1, .ref (a q1_)), (2, .int (v.1))] → W p l e { frames := 8, cells := 0, slots := 0, locals := 150 } s m [.ref (a 5), .ref (a q0_)].toArray below meth c H locs 0 0 (MQ below ((kQv G (S := Unit) (fun _ => True) (fun _ => zw G (XS 2) 105 a s9.1 s9.2)) A) [.ref (a 5), .ref (a q0_)].toArray s 0 0 A) (F0 m 2 ls []) := by
    intro q1_ q1_l q1_h
    refine while_ind (fun k2 ih2 v h => ?_)
    obtain ⟨v2, g, L⟩ := v
    intro H locs ls hP hD hS hl
    have h : fX6_readWaited_5_les_s2 fu q1_ k2 v2 g L = some (res, s9) := h
    have hP : va_P G.1 vwCl (zw G (XS 2) 105 a g L) H := hP
    have hD : va_D A (zw G (XS 2) 105 a g L) := hD
    have hl : lv_has ls 3 [(0, .ref (a 5)), (1, .ref (a q1_)), (2, .int v2)] := hl
    show W p l e { frames := 8, cells := 0, slots := 0, locals := 150 } s m [.ref (a 5), .ref (a q0_)].toArray below meth c H locs 0 0 (MQ below ((kQv G (S := Unit) (fun _ => True) (fun _ => zw G (XS 2) 105 a s9.1 s9.2)) A) [.ref (a 5), .ref (a q0_)].toArray s 0 0 A) (F0 m 2 ls [])
    unfold fX6_readWaited_5_les_s2 at h
    refine lv_iload_n hx hb dX6_readWaited_2 rfl (lv_at hl 2 rfl) ?_
    refine lv_bipush (v := 6) hx hb dX6_readWaited_3 (by decide) ?_
    have J102 : ∀ (q1_ : Nat) (g : Nat → Nat → Int32) (L : Nat → Nat → Int64) (H : Heap) (locs : List Loc) (ls : Array Slot), 57 ≤ q1_ → q1_ < 81 → fX6_readWaited_5_les_p102 fu q1_ g L = some (res, s9) → va_P G.1 vwCl (zw G (XS 2) 105 a g L) H → va_D A (zw G (XS 2) 105 a g L) → va_S A s.heap H locs → lv_has ls 3 [(0, .ref (a 5)), (1, .ref (a q1_))] → W p l e { frames := 8, cells := 0, slots := 0, locals := 150 } s m [.ref (a 5), .ref (a q0_)].toArray below meth c H locs 0 0 (MQ below ((kQv G (S := Unit) (fun _ => True) (fun _ => zw G (XS 2) 105 a s9.1 s9.2)) A) [.ref (a 5), .ref (a q0_)].toArray s 0 0 A) (F0 m 102 ls []) := by
      intro q1_ g L H locs ls q1_l q1_h h hP hD hS hl
      unfold fX6_readWaited_5_les_p102 at h
      refine lv_aload_n hx hb dX6_readWaited_102 rfl (lv_at hl 1 rfl) ?_
      refine x_getv (v := .int (g q1_ 1)) (Or.inr fl_X6_197) C hP (by omega) (xs_les (by omega) (by omega)) rfl dX6_readWaited_103 ?_
      refine lv_aload_n hx hb dX6_readWaited_106 rfl (lv_at hl 1 rfl) ?_
      refine x_getv (v := .int (g q1_ 10)) (Or.inr fl_X6_179) C hP (by omega) (xs_les (by omega) (by omega)) rfl dX6_readWaited_107 ?_
      have J119 : ∀ (q1_ : Nat) (g : Nat → Nat → Int32) (L : Nat → Nat → Int64) (H : Heap) (locs : List Loc) (ls : Array Slot), 57 ≤ q1_ → q1_ < 81 → fX6_readWaited_5_les_p119 fu q1_ g L = some (res, s9) → va_P G.1 vwCl (zw G (XS 2) 105 a g L) H → va_D A (zw G (XS 2) 105 a g L) → va_S A s.heap H locs → lv_has ls 3 [(0, .ref (a 5)), (1, .ref (a q1_))] → W p l e { frames := 8, cells := 0, slots := 0, locals := 150 } s m [.ref (a 5), .ref (a q0_)].toArray below meth c H locs 0 0 (MQ below ((kQv G (S := Unit) (fun _ => True) (fun _ => zw G (XS 2) 105 a s9.1 s9.2)) A) [.ref (a 5), .ref (a q0_)].toArray s 0 0 A) (F0 m 119 ls []) := by
        intro q1_ g L H locs ls q1_l q1_h h hP hD hS hl
        unfold fX6_readWaited_5_les_p119 at h
        refine lv_aload_n hx hb dX6_readWaited_119 rfl (lv_at hl 1 rfl) ?_
        refine x_getv (v := .int (g q1_ 1)) (Or.inr fl_X6_197) C hP (by omega) (xs_les (by omega) (by omega)) rfl dX6_readWaited_120 ?_
        have J131 : ∀ (g : Nat → Nat → Int32) (L : Nat → Nat → Int64) (H : Heap) (locs : List Loc) (ls : Array Slot), fX6_readWaited_5_les_p131 fu g L = some (res, s9) → va_P G.1 vwCl (zw G (XS 2) 105 a g L) H → va_D A (zw G (XS 2) 105 a g L) → va_S A s.heap H locs → lv_has ls 3 [] → W p l e { frames := 8, cells := 0, slots := 0, locals := 150 } s m [.ref (a 5), .ref (a q0_)].toArray below meth c H locs 0 0 (MQ below ((kQv G (S := Unit) (fun _ => True) (fun _ => zw G (XS 2) 105 a s9.1 s9.2)) A) [.ref (a 5), .ref (a q0_)].toArray s 0 0 A) (F0 m 131 ls []) := by
          intro g L H locs ls h hP hD hS hl
          unfold fX6_readWaited_5_les_p131 at h
          exact y_vret C hr hlk hP hD hS h (Nat.le_of_ble_eq_true rfl) (Nat.le_of_ble_eq_true rfl) dX6_readWaited_131
        refine lv_if_ne (x := (g q1_ 1)) (tgt := 131) hx hb dX6_readWaited_123 (by decide) (fun c1 => ?_) (fun c1 => ?_)
        ·
          have h := ite_e c1 h
          exact J131 g L H locs ls h hP hD hS (lv_sub hl [] rfl)
        ·
          have h := ite_t c1 h
          refine lv_aload_n hx hb dX6_readWaited_126 rfl (lv_at hl 0 rfl) ?_
          refine lv_iconst (v := 1) hx hb dX6_readWaited_127 (by decide) ?_
          obtain ⟨z_, g3, L4, hf5, h⟩ := cb_some h
          refine x_callVv (rest := []) li_X6_78 C (rX6_refuse_5 l G H.size a fu g L 1 z_ (g3, L4) hf5) (kR rfl) hP hD hS 5 6 rfl (zat (by decide) xs_5) rfl hl.1 rfl (Nat.le_of_ble_eq_true rfl) dX6_readWaited_128 (fun u_ H locs e_ hP hD hS => ?_)
          have hP : va_P G.1 vwCl (zw G (XS 2) 105 a g3 L4) H := hP
          have hD : va_D A (zw G (XS 2) 105 a g3 L4) := hD
          exact J131 g3 L4 H locs ls h hP hD hS (lv_sub hl [] rfl)
      refine lv_icmp_ge (x := (g q1_ 1)) (y := (g q1_ 10)) (tgt := 119) hx hb dX6_readWaited_110 (by decide) (fun c6 => ?_) (fun c6 => ?_)
      ·
        have h := ite_t c6 h
        exact J119 q1_ g L H locs ls (by omega) (by omega) h hP hD hS (lv_sub hl [0, 1] rfl)
      ·
        have h := ite_e c6 h
        refine lv_aload_n hx hb dX6_readWaited_113 rfl (lv_at hl 0 rfl) ?_
        refine lv_bipush (v := 6) hx hb dX6_readWaited_114 (by decide) ?_
        obtain ⟨z_, g8, L9, hf10, h⟩ := cb_some h
        refine x_callVv (rest := []) li_X6_78 C (rX6_refuse_5 l G H.size a fu g L 6 z_ (g8, L9) hf10) (kR rfl) hP hD hS 5 6 rfl (zat (by decide) xs_5) rfl hl.1 rfl (Nat.le_of_ble_eq_true rfl) dX6_readWaited_116 (fun u_ H locs e_ hP hD hS => ?_)
        have hP : va_P G.1 vwCl (zw G (XS 2) 105 a g8 L9) H := hP
        have hD : va_D A (zw G (XS 2) 105 a g8 L9) := hD
        exact J119 q1_ g8 L9 H locs ls (by omega) (by omega) h hP hD hS (lv_sub hl [0, 1] rfl)
    refine lv_icmp_gt (x := v2) (y := 6) (tgt := 102) hx hb dX6_readWaited_5 (by decide) (fun c11 => ?_) (fun c11 => ?_)
    ·
      have h := ite_t c11 h
      exact J102 q1_ g L H locs ls (by omega) (by omega) h hP hD hS (lv_sub hl [0, 1] rfl)
    ·
      have h := ite_e c11 h
      refine lv_aload_n hx hb dX6_readWaited_8 rfl (lv_at hl 0 rfl) ?_
      refine x_getv (v := .int (g 5 4)) (Or.inl fl_X6_50) C hP (by decide) xs_5 rfl dX6_readWaited_9 ?_
      refine lv_iconst (v := 1) hx hb dX6_readWaited_12 (by decide) ?_
      refine lv_icmp_ne (x := (g 5 4)) (y := 1) (tgt := 102) hx hb dX6_readWaited_13 (by decide) (fun c12 => ?_) (fun c12 => ?_)
      ·
        have h := ite_e c12 h
        exact J102 q1_ g L H locs ls (by omega) (by omega) h hP hD hS (lv_sub hl [0, 1] rfl)
      ·
        have h := ite_t c12 h
        refine lv_aload_n hx hb dX6_readWaited_16 rfl (lv_at hl 0 rfl) ?_
        obtain ⟨z_, g14, L15, hf16, h⟩ := cb_some h
        refine x_callVi (rest := []) li_X6_82 C (rX6_isTooLong_5 l G H.size a fu g L z_ (g14, L15) hf16) (kR rfl) hP hD hS 5 6 rfl (zat (by decide) xs_5) rfl hl.1 rfl (Nat.le_of_ble_eq_true rfl) dX6_readWaited_17 (fun x13 u_ H locs e_ hP hD hS => ?_)
        have e_ : x13 = z_ := e_
        subst e_
        have hP : va_P G.1 vwCl (zw G (XS 2) 105 a g14 L15) H := hP
        have hD : va_D A (zw G (XS 2) 105 a g14 L15) := hD
        have J96 : ∀ (v2 : Int32) (g : Nat → Nat → Int32) (L : Nat → Nat → Int64) (H : Heap) (locs : List Loc) (ls : Array Slot), fX6_readWaited_5_les_p96 fu k2 q1_ v2 g L = some (res, s9) → va_P G.1 vwCl (zw G (XS 2) 105 a g L) H → va_D A (zw G (XS 2) 105 a g L) → va_S A s.heap H locs → lv_has ls 3 [(0, .ref (a 5)), (1, .ref (a q1_)), (2, .int v2)] → W p l e { frames := 8, cells := 0, slots := 0, locals := 150 } s m [.ref (a 5), .ref (a q0_)].toArray below meth c H locs 0 0 (MQ below ((kQv G (S := Unit) (fun _ => True) (fun _ => zw G (XS 2) 105 a s9.1 s9.2)) A) [.ref (a 5), .ref (a q0_)].toArray s 0 0 A) (F0 m 96 ls []) := by
          intro v2 g L H locs ls h hP hD hS hl
          unfold fX6_readWaited_5_les_p96 at h
          refine lv_iinc (v := (v2 + 1)) (lv' := [(2, .int (v2 + 1)), (0, .ref (a 5)), (1, .ref (a q1_))]) hx hb dX6_readWaited_96 hl (k := 2) rfl rfl (by decide) rfl (fun ls hl => ?_)
          refine lv_goto (tgt := 2) hx hb dX6_readWaited_99 (by decide) ?_
          exact ih2 ((v2 + 1), g, L) h H locs ls hP hD hS (lv_sub hl [1, 2, 0] rfl)
        have J32 : ∀ (v2 : Int32) (g : Nat → Nat → Int32) (L : Nat → Nat → Int64) (H : Heap) (locs : List Loc) (ls : Array Slot), fX6_readWaited_5_les_p32 fu k2 q1_ v2 g L = some (res, s9) → va_P G.1 vwCl (zw G (XS 2) 105 a g L) H → va_D A (zw G (XS 2) 105 a g L) → va_S A s.heap H locs → lv_has ls 3 [(0, .ref (a 5)), (1, .ref (a q1_)), (2, .int v2)] → W p l e { frames := 8, cells := 0, slots := 0, locals := 150 } s m [.ref (a 5), .ref (a q0_)].toArray below meth c H locs 0 0 (MQ below ((kQv G (S := Unit) (fun _ => True) (fun _ => zw G (XS 2) 105 a s9.1 s9.2)) A) [.ref (a 5), .ref (a q0_)].toArray s 0 0 A) (F0 m 32 ls []) := by
          intro v2 g L H locs ls h hP hD hS hl
          unfold fX6_readWaited_5_les_p32 at h
          refine lv_aload_n hx hb dX6_readWaited_32 rfl (lv_at hl 0 rfl) ?_
          refine lv_iconst (v := 2) hx hb dX6_readWaited_33 (by decide) ?_
          obtain ⟨z_, g18, L19, hf20, h⟩ := cb_some h
          refine x_callVv (rest := []) li_X6_78 C (rX6_refuse_5 l G H.size a fu g L 2 z_ (g18, L19) hf20) (kR rfl) hP hD hS 5 6 rfl (zat (by decide) xs_5) rfl hl.1 rfl (Nat.le_of_ble_eq_true rfl) dX6_readWaited_34 (fun u_ H locs e_ hP hD hS => ?_)
          have hP : va_P G.1 vwCl (zw G (XS 2) 105 a g18 L19) H := hP
          have hD : va_D A (zw G (XS 2) 105 a g18 L19) := hD
          refine lv_goto (tgt := 96) hx hb dX6_readWaited_37 (by decide) ?_
          exact J96 v2 g18 L19 H locs ls h hP hD hS (lv_sub hl [0, 1, 2] rfl)
        refine lv_if_ne (x := x13) (tgt := 32) hx hb dX6_readWaited_20 (by decide) (fun c21 => ?_) (fun c21 => ?_)
        ·
          have h := ite_e c21 h
          exact J32 v2 g14 L15 H locs ls h hP hD hS (lv_sub hl [0, 1, 2] rfl)
        ·
          have h := ite_t c21 h
          refine lv_aload_n hx hb dX6_readWaited_23 rfl (lv_at hl 1 rfl) ?_
          refine x_getv (v := .int (g14 q1_ 1)) (Or.inr fl_X6_197) C hP (by omega) (xs_les (by omega) (by omega)) rfl dX6_readWaited_24 ?_
          refine lv_bipush (v := 6) hx hb dX6_readWaited_27 (by decide) ?_
          refine lv_icmp_lt (x := (g14 q1_ 1)) (y := 6) (tgt := 40) hx hb dX6_readWaited_29 (by decide) (fun c22 => ?_) (fun c22 => ?_)
          ·
            have h := ite_t c22 h
            refine lv_aload_n hx hb dX6_readWaited_40 rfl (lv_at hl 0 rfl) ?_
            refine x_getv (v := .int (g14 5 6)) (Or.inl fl_X6_62) C hP (by decide) xs_5 rfl dX6_readWaited_41 ?_
            refine lv_aload_n hx hb dX6_readWaited_44 rfl (lv_at hl 0 rfl) ?_
            refine x_getr (Or.inl fl_X6_15) C hP (by decide) xs_5 rfl dX6_readWaited_45 ?_
            refine x_getv (v := .int (g14 2 2)) (Or.inr fl_X6_140) C hP (by decide) xs_2 rfl dX6_readWaited_48 ?_
            refine lv_icmp_lt (x := (g14 5 6)) (y := (g14 2 2)) (tgt := 62) hx hb dX6_readWaited_51 (by decide) (fun c23 => ?_) (fun c23 => ?_)
            ·
              have h := ite_t c23 h
              refine lv_aload_n hx hb dX6_readWaited_62 rfl (lv_at hl 1 rfl) ?_
              refine x_getv (v := .int (g14 q1_ 2)) (Or.inr fl_X6_200) C hP (by omega) (xs_les (by omega) (by omega)) rfl dX6_readWaited_63 ?_
              refine lv_aload_n hx hb dX6_readWaited_66 rfl (lv_at hl 0 rfl) ?_
              refine x_getv (v := .int (g14 5 6)) (Or.inl fl_X6_62) C hP (by decide) xs_5 rfl dX6_readWaited_67 ?_
              refine lv_ishr hx hb dX6_readWaited_70 ?_
              refine lv_iconst (v := 1) hx hb dX6_readWaited_71 (by decide) ?_
              refine lv_iand hx hb dX6_readWaited_72 ?_
              refine lv_if_eq (x := ((((g14 q1_ 2) : Int32) >>> (((g14 5 6) : Int32) &&& 31) : Int32) &&& 1)) (tgt := 84) hx hb dX6_readWaited_73 (by decide) (fun c24 => ?_) (fun c24 => ?_)
              ·
                have h := ite_t c24 h
                refine lv_aload_n hx hb dX6_readWaited_84 rfl (lv_at hl 1 rfl) ?_
                refine lv_aload_n hx hb dX6_readWaited_85 rfl (lv_at hl 0 rfl) ?_
                refine x_getv (v := .int (g14 5 6)) (Or.inl fl_X6_62) C hP (by decide) xs_5 rfl dX6_readWaited_86 ?_
                obtain ⟨z_, g26, L27, hf28, h⟩ := cb_some h
                refine x_callNv (rest := []) li_X6_203 C (rX5_waitFor_les l G H.size 2 a fu g14 L15 q1_ (g14 5 6) (by omega) (by omega) z_ (g26, L27) hf28) (kR rfl) hP hD hS q1_ 5 rfl (zat (by omega) (xs_les (by omega) (by omega))) rfl hl.1 rfl (Nat.le_of_ble_eq_true rfl) dX6_readWaited_89 (fun u_ H locs e_ hP hD hS => ?_)
                have hP : va_P G.1 vwCl (zw G (XS 2) 105 a g26 L27) H := hP
                have hD : va_D A (zw G (XS 2) 105 a g26 L27) := hD
                refine lv_aload_n hx hb dX6_readWaited_92 rfl (lv_at hl 0 rfl) ?_
                obtain ⟨z_, g30, L31, hf32, h⟩ := cb_some h
                refine x_callVv (rest := []) li_X6_53 C (rX6_advance_5 l G H.size a fu g26 L27 z_ (g30, L31) hf32) (kR rfl) hP hD hS 5 6 rfl (zat (by decide) xs_5) rfl hl.1 rfl (Nat.le_of_ble_eq_true rfl) dX6_readWaited_93 (fun u_ H locs e_ hP hD hS => ?_)
                have hP : va_P G.1 vwCl (zw G (XS 2) 105 a g30 L31) H := hP
                have hD : va_D A (zw G (XS 2) 105 a g30 L31) := hD
                exact J96 v2 g30 L31 H locs ls h hP hD hS (lv_sub hl [0, 1, 2] rfl)
              ·
                have h := ite_e c24 h
                refine lv_aload_n hx hb dX6_readWaited_76 rfl (lv_at hl 0 rfl) ?_
                refine lv_iconst (v := 4) hx hb dX6_readWaited_77 (by decide) ?_
                obtain ⟨z_, g34, L35, hf36, h⟩ := cb_some h
                refine x_callVv (rest := []) li_X6_78 C (rX6_refuse_5 l G H.size a fu g14 L15 4 z_ (g34, L35) hf36) (kR rfl) hP hD hS 5 6 rfl (zat (by decide) xs_5) rfl hl.1 rfl (Nat.le_of_ble_eq_true rfl) dX6_readWaited_78 (fun u_ H locs e_ hP hD hS => ?_)
                have hP : va_P G.1 vwCl (zw G (XS 2) 105 a g34 L35) H := hP
                have hD : va_D A (zw G (XS 2) 105 a g34 L35) := hD
                refine lv_goto (tgt := 96) hx hb dX6_readWaited_81 (by decide) ?_
                exact J96 v2 g34 L35 H locs ls h hP hD hS (lv_sub hl [0, 1, 2] rfl)
            ·
              have h := ite_e c23 h
              refine lv_aload_n hx hb dX6_readWaited_54 rfl (lv_at hl 0 rfl) ?_
              refine lv_iconst (v := 3) hx hb dX6_readWaited_55 (by decide) ?_
              obtain ⟨z_, g38, L39, hf40, h⟩ := cb_some h
              refine x_callVv (rest := []) li_X6_78 C (rX6_refuse_5 l G H.size a fu g14 L15 3 z_ (g38, L39) hf40) (kR rfl) hP hD hS 5 6 rfl (zat (by decide) xs_5) rfl hl.1 rfl (Nat.le_of_ble_eq_true rfl) dX6_readWaited_56 (fun u_ H locs e_ hP hD hS => ?_)
              have hP : va_P G.1 vwCl (zw G (XS 2) 105 a g38 L39) H := hP
              have hD : va_D A (zw G (XS 2) 105 a g38 L39) := hD
              refine lv_goto (tgt := 96) hx hb dX6_readWaited_59 (by decide) ?_
              exact J96 v2 g38 L39 H locs ls h hP hD hS (lv_sub hl [0, 1, 2] rfl)
          ·
            have h := ite_e c22 h
            exact J32 v2 g14 L15 H locs ls h hP hD hS (lv_sub hl [0, 1, 2] rfl)
  exact lp2 q0_ (by omega) (by omega) fu (0, g, L) h H locs ls hP hD hS (lv_sub hl [1, 2, 0] rfl)
def fX6_isWord_5_limit_p24 (fu : Nat) (g : Nat → Nat → Int32) (L : Nat → Nat → Int64) : Option ((Int32) × zS) :=
  ckb 0 (some (0, (g, L)))
def fX6_isWord_5_limit_s28 (fu : Nat) (k28 : Int32 × (Nat → Nat → Int32) × (Nat → Nat → Int64) → Option ((Int32) × zS)) (v2 : Int32) (g : Nat → Nat → Int32) (L : Nat → Nat → Int64) : Option ((Int32) × zS) :=
  if 5 ≤ (v2 : Int32) then ckb 1 (some (1, (g, L)))
  else ck ((g 5 5) + v2) 700 (
  ck v2 5 (
  if (g 14 (Int32.toNatClampNeg ((g 5 5) + v2))) = (sch 6 (Int32.toNatClampNeg v2)) then k28 ((v2 + 1), g, L)
  else ckb 0 (some (0, (g, L)))))
def fX6_isWord_5_limit_l28 (fu : Nat) (v2 : Int32) (g : Nat → Nat → Int32) (L : Nat → Nat → Int64) : Option ((Int32) × zS) :=
  whileK (fun k v => fX6_isWord_5_limit_s28 fu k v.1 v.2.1 v.2.2) fu (v2, g, L)
def fX6_isWord_5_limit (fu : Nat) (g : Nat → Nat → Int32) (L : Nat → Nat → Int64) : Option ((Int32) × zS) :=
  if (g 5 4) = 2 then (if ((g 5 3) - (g 5 5)) = 5 then fX6_isWord_5_limit_l28 fu 0 g L
  else fX6_isWord_5_limit_p24 fu g L)
  else fX6_isWord_5_limit_p24 fu g L
set_option maxHeartbeats 4000000 in
set_option maxRecDepth 100000 in
theorem rX6_isWord_5_limit (l : Launch) (G : kG) (sz : Nat) (a : Nat → Nat) (fu : Nat) (g : Nat → Nat → Int32) (L : Nat → Nat → Int64) (res : Int32) (s9 : zS) (h : fX6_isWord_5_limit fu g L = some (res, s9)) : kM l yX6_isWord cX6_isWord 3 (some .boolean) { frames := 10, cells := 0, slots := 0, locals := 195 } G [.ref (a 5), .ref (G.2.2.2.2.2.1 6)] (zw G (XS 2) 105 a g L) sz (kQi G (S := Unit) (fun r' _ => r' = res) (fun _ => zw G (XS 2) 105 a s9.1 s9.2)) := by
  refine kM.of (by decide) (Nat.le_of_ble_eq_true rfl) ?_
  intro p e s m below meth c A ls H C hr hlk hnm hP hD hS hl
  have C : kC G p s m c cX6_isWord 3 RX6 A := C
  have hx := C.1
  have hb := C.2.1
  have hl : lv_has ls 3 [(0, .ref (a 5)), (1, .ref (G.2.2.2.2.2.1 6))] := hl
  obtain ⟨locs, hlocs⟩ : ∃ q : List Loc, q = [] := ⟨_, rfl⟩
  rw [← hlocs] at hS
  rw [← hlocs]
  unfold fX6_isWord_5_limit at h
  refine lv_aload_n hx hb dX6_isWord_0 rfl (lv_at hl 0 rfl) ?_
  refine x_getv (v := .int (g 5 4)) (Or.inl fl_X6_50) C hP (by decide) xs_5 rfl dX6_isWord_1 ?_
  refine lv_iconst (v := 2) hx hb dX6_isWord_4 (by decide) ?_
  have J24 : ∀ (g : Nat → Nat → Int32) (L : Nat → Nat → Int64) (H : Heap) (locs : List Loc) (ls : Array Slot), fX6_isWord_5_limit_p24 fu g L = some (res, s9) → va_P G.1 vwCl (zw G (XS 2) 105 a g L) H → va_D A (zw G (XS 2) 105 a g L) → va_S A s.heap H locs → lv_has ls 3 [] → W p l e { frames := 10, cells := 0, slots := 0, locals := 195 } s m [.ref (a 5), .ref (G.2.2.2.2.2.1 6)].toArray below meth c H locs 0 0 (MQ below ((kQi G (S := Unit) (fun r' _ => r' = res) (fun _ => zw G (XS 2) 105 a s9.1 s9.2)) A) [.ref (a 5), .ref (G.2.2.2.2.2.1 6)].toArray s 0 0 A) (F0 m 24 ls []) := by
    intro g L H locs ls h hP hD hS hl
    unfold fX6_isWord_5_limit_p24 at h
    refine lv_iconst (v := 0) hx hb dX6_isWord_24 (by decide) ?_
    exact y_zret C hr hlk hP hD hS h (Nat.le_of_ble_eq_true rfl) (Nat.le_of_ble_eq_true rfl) dX6_isWord_25
  refine lv_icmp_ne (x := (g 5 4)) (y := 2) (tgt := 24) hx hb dX6_isWord_5 (by decide) (fun c1 => ?_) (fun c1 => ?_)
  ·
    have h := ite_e c1 h
    exact J24 g L H locs ls h hP hD hS (lv_sub hl [] rfl)
  ·
    have h := ite_t c1 h
    refine lv_aload_n hx hb dX6_isWord_8 rfl (lv_at hl 0 rfl) ?_
    refine x_getv (v := .int (g 5 3)) (Or.inl fl_X6_34) C hP (by decide) xs_5 rfl dX6_isWord_9 ?_
    refine lv_aload_n hx hb dX6_isWord_12 rfl (lv_at hl 0 rfl) ?_
    refine x_getv (v := .int (g 5 5)) (Or.inl fl_X6_59) C hP (by decide) xs_5 rfl dX6_isWord_13 ?_
    refine lv_isub hx hb dX6_isWord_16 ?_
    refine lv_aload_n hx hb dX6_isWord_17 rfl (lv_at hl 1 rfl) ?_
    refine y_slen (v := 5) C (by decide) (by decide) hP hD hS (kR rfl) hl.1 (Nat.le_of_ble_eq_true rfl) dX6_isWord_18 (fun H locs hP hD hS => ?_)
    refine lv_icmp_eq (x := ((g 5 3) - (g 5 5))) (y := 5) (tgt := 26) hx hb dX6_isWord_21 (by decide) (fun c2 => ?_) (fun c2 => ?_)
    ·
      have h := ite_t c2 h
      refine lv_iconst (v := 0) hx hb dX6_isWord_26 (by decide) ?_
      refine lv_istore_n (lv' := [(2, .int 0), (0, .ref (a 5)), (1, .ref (G.2.2.2.2.2.1 6))]) hx hb dX6_isWord_27 rfl hl (by decide) rfl (fun ls hl => ?_)
      have lp28 : ∀ (_ : True), ∀ (n : Nat) (v : Int32 × (Nat → Nat → Int32) × (Nat → Nat → Int64)), whileK (fun k v => fX6_isWord_5_limit_s28 fu k v.1 v.2.1 v.2.2) n v = some (res, s9) → ∀ (H : Heap) (locs : List Loc) (ls : Array Slot), va_P G.1 vwCl (zw G (XS 2) 105 a (v.2.1) (v.2.2)) H → va_D A (zw G (XS 2) 105 a (v.2.1) (v.2.2)) → va_S A s.heap H locs → lv_has ls 3 [(0, .ref (a 5)), (1, .ref (G.2.2.2.2.2.1 6)), (2, .int (v.1))] → W p l e { frames := 10, cells := 0, slots := 0, locals := 195 } s m [.ref (a 5), .ref (G.2.2.2.2.2.1 6)].toArray below meth c H locs 0 0 (MQ below ((kQi G (S := Unit) (fun r' _ => r' = res) (fun _ => zw G (XS 2) 105 a s9.1 s9.2)) A) [.ref (a 5), .ref (G.2.2.2.2.2.1 6)].toArray s 0 0 A) (F0 m 28 ls []) := by
        intro _
        refine while_ind (fun k28 ih28 v h => ?_)
        obtain ⟨v2, g, L⟩ := v
        intro H locs ls hP hD hS hl
        have h : fX6_isWord_5_limit_s28 fu k28 v2 g L = some (res, s9) := h
        have hP : va_P G.1 vwCl (zw G (XS 2) 105 a g L) H := hP
        have hD : va_D A (zw G (XS 2) 105 a g L) := hD
        have hl : lv_has ls 3 [(0, .ref (a 5)), (1, .ref (G.2.2.2.2.2.1 6)), (2, .int v2)] := hl
        show W p l e { frames := 10, cells := 0, slots := 0, locals := 195 } s m [.ref (a 5), .ref (G.2.2.2.2.2.1 6)].toArray below meth c H locs 0 0 (MQ below ((kQi G (S := Unit) (fun r' _ => r' = res) (fun _ => zw G (XS 2) 105 a s9.1 s9.2)) A) [.ref (a 5), .ref (G.2.2.2.2.2.1 6)].toArray s 0 0 A) (F0 m 28 ls [])
        unfold fX6_isWord_5_limit_s28 at h
        refine lv_iload_n hx hb dX6_isWord_28 rfl (lv_at hl 2 rfl) ?_
        refine lv_aload_n hx hb dX6_isWord_29 rfl (lv_at hl 1 rfl) ?_
        refine y_slen (v := 5) C (by decide) (by decide) hP hD hS (kR rfl) hl.1 (Nat.le_of_ble_eq_true rfl) dX6_isWord_30 (fun H locs hP hD hS => ?_)
        refine lv_icmp_ge (x := v2) (y := 5) (tgt := 63) hx hb dX6_isWord_33 (by decide) (fun c3 => ?_) (fun c3 => ?_)
        ·
          have h := ite_t c3 h
          refine lv_iconst (v := 1) hx hb dX6_isWord_63 (by decide) ?_
          exact y_zret C hr hlk hP hD hS h (Nat.le_of_ble_eq_true rfl) (Nat.le_of_ble_eq_true rfl) dX6_isWord_64
        ·
          have h := ite_e c3 h
          refine lv_aload_n hx hb dX6_isWord_36 rfl (lv_at hl 0 rfl) ?_
          refine x_getr (Or.inl fl_X6_9) C hP (by decide) xs_5 rfl dX6_isWord_37 ?_
          refine lv_aload_n hx hb dX6_isWord_40 rfl (lv_at hl 0 rfl) ?_
          refine x_getv (v := .int (g 5 5)) (Or.inl fl_X6_59) C hP (by decide) xs_5 rfl dX6_isWord_41 ?_
          refine lv_iload_n hx hb dX6_isWord_44 rfl (lv_at hl 2 rfl) ?_
          refine lv_iadd hx hb dX6_isWord_45 ?_
          refine y_ald C hP (by decide) xs_14 dX6_isWord_46 h (fun h => ?_)
          refine lv_aload_n hx hb dX6_isWord_47 rfl (lv_at hl 1 rfl) ?_
          refine lv_iload_n hx hb dX6_isWord_48 rfl (lv_at hl 2 rfl) ?_
          refine y_schr (N := 5) C (by decide) (by decide) hP hD hS (kR rfl) hl.1 (Nat.le_of_ble_eq_true rfl) dX6_isWord_49 h (fun H locs h hP hD hS => ?_)
          refine lv_icmp_eq (x := (g 14 (Int32.toNatClampNeg ((g 5 5) + v2)))) (y := (sch 6 (Int32.toNatClampNeg v2))) (tgt := 57) hx hb dX6_isWord_52 (by decide) (fun c4 => ?_) (fun c4 => ?_)
          ·
            have h := ite_t c4 h
            refine lv_iinc (v := (v2 + 1)) (lv' := [(2, .int (v2 + 1)), (0, .ref (a 5)), (1, .ref (G.2.2.2.2.2.1 6))]) hx hb dX6_isWord_57 hl (k := 2) rfl rfl (by decide) rfl (fun ls hl => ?_)
            refine lv_goto (tgt := 28) hx hb dX6_isWord_60 (by decide) ?_
            exact ih28 ((v2 + 1), g, L) h H locs ls hP hD hS (lv_sub hl [1, 2, 0] rfl)
          ·
            have h := ite_e c4 h
            refine lv_iconst (v := 0) hx hb dX6_isWord_55 (by decide) ?_
            exact y_zret C hr hlk hP hD hS h (Nat.le_of_ble_eq_true rfl) (Nat.le_of_ble_eq_true rfl) dX6_isWord_56
      exact lp28 trivial fu (0, g, L) h H locs ls hP hD hS (lv_sub hl [1, 2, 0] rfl)
    ·
      have h := ite_e c2 h
      exact J24 g L H locs ls h hP hD hS (lv_sub hl [] rfl)
def fX6_readOption_5_limit (fu : Nat) (p1 : Int32) (p2 : Int32) (g : Nat → Nat → Int32) (L : Nat → Nat → Int64) : Option ((Int32) × zS) :=
  cb (fX6_isWord_5_limit fu g L) (fun x1 g2 L3 =>
  if x1 = 0 then some (p2, (g2, L3))
  else cb (fX6_advance_5 fu g2 L3) (fun x6 g7 L8 =>
  cb (fX6_readNumber_5 fu 0 p1 g7 L8) (fun x10 g11 L12 =>
  some (x10, (g11, L12)))))
set_option maxHeartbeats 4000000 in
set_option maxRecDepth 100000 in
theorem rX6_readOption_5_limit (l : Launch) (G : kG) (sz : Nat) (a : Nat → Nat) (fu : Nat) (g : Nat → Nat → Int32) (L : Nat → Nat → Int64) (p1 : Int32) (p2 : Int32) (res : Int32) (s9 : zS) (h : fX6_readOption_5_limit fu p1 p2 g L = some (res, s9)) : kM l yX6_readOption cX6_readOption 4 (some .int) { frames := 11, cells := 0, slots := 0, locals := 217 } G [.ref (a 5), .ref (G.2.2.2.2.2.1 6), .int p1, .int p2] (zw G (XS 2) 105 a g L) sz (kQi G (S := Unit) (fun r' _ => r' = res) (fun _ => zw G (XS 2) 105 a s9.1 s9.2)) := by
  refine kM.of (by decide) (Nat.le_of_ble_eq_true rfl) ?_
  intro p e s m below meth c A ls H C hr hlk hnm hP hD hS hl
  have C : kC G p s m c cX6_readOption 4 RX6 A := C
  have hx := C.1
  have hb := C.2.1
  have hl : lv_has ls 4 [(0, .ref (a 5)), (1, .ref (G.2.2.2.2.2.1 6)), (2, .int p1), (3, .int p2)] := hl
  obtain ⟨locs, hlocs⟩ : ∃ q : List Loc, q = [] := ⟨_, rfl⟩
  rw [← hlocs] at hS
  rw [← hlocs]
  unfold fX6_readOption_5_limit at h
  refine lv_aload_n hx hb dX6_readOption_0 rfl (lv_at hl 0 rfl) ?_
  refine lv_aload_n hx hb dX6_readOption_1 rfl (lv_at hl 1 rfl) ?_
  obtain ⟨z_, g2, L3, hf4, h⟩ := cb_some h
  refine x_callVi (rest := []) li_X6_92 C (rX6_isWord_5_limit l G H.size a fu g L z_ (g2, L3) hf4) (kR rfl) hP hD hS 5 6 rfl (zat (by decide) xs_5) rfl hl.1 rfl (Nat.le_of_ble_eq_true rfl) dX6_readOption_2 (fun x1 u_ H locs e_ hP hD hS => ?_)
  have e_ : x1 = z_ := e_
  subst e_
  have hP : va_P G.1 vwCl (zw G (XS 2) 105 a g2 L3) H := hP
  have hD : va_D A (zw G (XS 2) 105 a g2 L3) := hD
  refine lv_if_ne (x := x1) (tgt := 10) hx hb dX6_readOption_5 (by decide) (fun c5 => ?_) (fun c5 => ?_)
  ·
    have h := ite_e c5 h
    refine lv_aload_n hx hb dX6_readOption_10 rfl (lv_at hl 0 rfl) ?_
    obtain ⟨z_, g7, L8, hf9, h⟩ := cb_some h
    refine x_callVv (rest := []) li_X6_53 C (rX6_advance_5 l G H.size a fu g2 L3 z_ (g7, L8) hf9) (kR rfl) hP hD hS 5 6 rfl (zat (by decide) xs_5) rfl hl.1 rfl (Nat.le_of_ble_eq_true rfl) dX6_readOption_11 (fun u_ H locs e_ hP hD hS => ?_)
    have hP : va_P G.1 vwCl (zw G (XS 2) 105 a g7 L8) H := hP
    have hD : va_D A (zw G (XS 2) 105 a g7 L8) := hD
    refine lv_aload_n hx hb dX6_readOption_14 rfl (lv_at hl 0 rfl) ?_
    refine lv_iconst (v := 0) hx hb dX6_readOption_15 (by decide) ?_
    refine lv_iload_n hx hb dX6_readOption_16 rfl (lv_at hl 2 rfl) ?_
    obtain ⟨z_, g11, L12, hf13, h⟩ := cb_some h
    refine x_callVi (rest := []) li_X6_118 C (rX6_readNumber_5 l G H.size a fu g7 L8 0 p1 z_ (g11, L12) hf13) (kR rfl) hP hD hS 5 6 rfl (zat (by decide) xs_5) rfl hl.1 rfl (Nat.le_of_ble_eq_true rfl) dX6_readOption_17 (fun x10 u_ H locs e_ hP hD hS => ?_)
    have e_ : x10 = z_ := e_
    subst e_
    have hP : va_P G.1 vwCl (zw G (XS 2) 105 a g11 L12) H := hP
    have hD : va_D A (zw G (XS 2) 105 a g11 L12) := hD
    exact y_iret C hr hlk hP hD hS h (Nat.le_of_ble_eq_true rfl) (Nat.le_of_ble_eq_true rfl) dX6_readOption_20
  ·
    have h := ite_t c5 h
    refine lv_iload_n hx hb dX6_readOption_8 rfl (lv_at hl 3 rfl) ?_
    exact y_iret C hr hlk hP hD hS h (Nat.le_of_ble_eq_true rfl) (Nat.le_of_ble_eq_true rfl) dX6_readOption_9
def fX6_isWord_5_maybe_p24 (fu : Nat) (g : Nat → Nat → Int32) (L : Nat → Nat → Int64) : Option ((Int32) × zS) :=
  ckb 0 (some (0, (g, L)))
def fX6_isWord_5_maybe_s28 (fu : Nat) (k28 : Int32 × (Nat → Nat → Int32) × (Nat → Nat → Int64) → Option ((Int32) × zS)) (v2 : Int32) (g : Nat → Nat → Int32) (L : Nat → Nat → Int64) : Option ((Int32) × zS) :=
  if 5 ≤ (v2 : Int32) then ckb 1 (some (1, (g, L)))
  else ck ((g 5 5) + v2) 700 (
  ck v2 5 (
  if (g 14 (Int32.toNatClampNeg ((g 5 5) + v2))) = (sch 7 (Int32.toNatClampNeg v2)) then k28 ((v2 + 1), g, L)
  else ckb 0 (some (0, (g, L)))))
def fX6_isWord_5_maybe_l28 (fu : Nat) (v2 : Int32) (g : Nat → Nat → Int32) (L : Nat → Nat → Int64) : Option ((Int32) × zS) :=
  whileK (fun k v => fX6_isWord_5_maybe_s28 fu k v.1 v.2.1 v.2.2) fu (v2, g, L)
def fX6_isWord_5_maybe (fu : Nat) (g : Nat → Nat → Int32) (L : Nat → Nat → Int64) : Option ((Int32) × zS) :=
  if (g 5 4) = 2 then (if ((g 5 3) - (g 5 5)) = 5 then fX6_isWord_5_maybe_l28 fu 0 g L
  else fX6_isWord_5_maybe_p24 fu g L)
  else fX6_isWord_5_maybe_p24 fu g L
set_option maxHeartbeats 4000000 in
set_option maxRecDepth 100000 in
theorem rX6_isWord_5_maybe (l : Launch) (G : kG) (sz : Nat) (a : Nat → Nat) (fu : Nat) (g : Nat → Nat → Int32) (L : Nat → Nat → Int64) (res : Int32) (s9 : zS) (h : fX6_isWord_5_maybe fu g L = some (res, s9)) : kM l yX6_isWord cX6_isWord 3 (some .boolean) { frames := 10, cells := 0, slots := 0, locals := 195 } G [.ref (a 5), .ref (G.2.2.2.2.2.1 7)] (zw G (XS 2) 105 a g L) sz (kQi G (S := Unit) (fun r' _ => r' = res) (fun _ => zw G (XS 2) 105 a s9.1 s9.2)) := by
  refine kM.of (by decide) (Nat.le_of_ble_eq_true rfl) ?_
  intro p e s m below meth c A ls H C hr hlk hnm hP hD hS hl
  have C : kC G p s m c cX6_isWord 3 RX6 A := C
  have hx := C.1
  have hb := C.2.1
  have hl : lv_has ls 3 [(0, .ref (a 5)), (1, .ref (G.2.2.2.2.2.1 7))] := hl
  obtain ⟨locs, hlocs⟩ : ∃ q : List Loc, q = [] := ⟨_, rfl⟩
  rw [← hlocs] at hS
  rw [← hlocs]
  unfold fX6_isWord_5_maybe at h
  refine lv_aload_n hx hb dX6_isWord_0 rfl (lv_at hl 0 rfl) ?_
  refine x_getv (v := .int (g 5 4)) (Or.inl fl_X6_50) C hP (by decide) xs_5 rfl dX6_isWord_1 ?_
  refine lv_iconst (v := 2) hx hb dX6_isWord_4 (by decide) ?_
  have J24 : ∀ (g : Nat → Nat → Int32) (L : Nat → Nat → Int64) (H : Heap) (locs : List Loc) (ls : Array Slot), fX6_isWord_5_maybe_p24 fu g L = some (res, s9) → va_P G.1 vwCl (zw G (XS 2) 105 a g L) H → va_D A (zw G (XS 2) 105 a g L) → va_S A s.heap H locs → lv_has ls 3 [] → W p l e { frames := 10, cells := 0, slots := 0, locals := 195 } s m [.ref (a 5), .ref (G.2.2.2.2.2.1 7)].toArray below meth c H locs 0 0 (MQ below ((kQi G (S := Unit) (fun r' _ => r' = res) (fun _ => zw G (XS 2) 105 a s9.1 s9.2)) A) [.ref (a 5), .ref (G.2.2.2.2.2.1 7)].toArray s 0 0 A) (F0 m 24 ls []) := by
    intro g L H locs ls h hP hD hS hl
    unfold fX6_isWord_5_maybe_p24 at h
    refine lv_iconst (v := 0) hx hb dX6_isWord_24 (by decide) ?_
    exact y_zret C hr hlk hP hD hS h (Nat.le_of_ble_eq_true rfl) (Nat.le_of_ble_eq_true rfl) dX6_isWord_25
  refine lv_icmp_ne (x := (g 5 4)) (y := 2) (tgt := 24) hx hb dX6_isWord_5 (by decide) (fun c1 => ?_) (fun c1 => ?_)
  ·
    have h := ite_e c1 h
    exact J24 g L H locs ls h hP hD hS (lv_sub hl [] rfl)
  ·
    have h := ite_t c1 h
    refine lv_aload_n hx hb dX6_isWord_8 rfl (lv_at hl 0 rfl) ?_
    refine x_getv (v := .int (g 5 3)) (Or.inl fl_X6_34) C hP (by decide) xs_5 rfl dX6_isWord_9 ?_
    refine lv_aload_n hx hb dX6_isWord_12 rfl (lv_at hl 0 rfl) ?_
    refine x_getv (v := .int (g 5 5)) (Or.inl fl_X6_59) C hP (by decide) xs_5 rfl dX6_isWord_13 ?_
    refine lv_isub hx hb dX6_isWord_16 ?_
    refine lv_aload_n hx hb dX6_isWord_17 rfl (lv_at hl 1 rfl) ?_
    refine y_slen (v := 5) C (by decide) (by decide) hP hD hS (kR rfl) hl.1 (Nat.le_of_ble_eq_true rfl) dX6_isWord_18 (fun H locs hP hD hS => ?_)
    refine lv_icmp_eq (x := ((g 5 3) - (g 5 5))) (y := 5) (tgt := 26) hx hb dX6_isWord_21 (by decide) (fun c2 => ?_) (fun c2 => ?_)
    ·
      have h := ite_t c2 h
      refine lv_iconst (v := 0) hx hb dX6_isWord_26 (by decide) ?_
      refine lv_istore_n (lv' := [(2, .int 0), (0, .ref (a 5)), (1, .ref (G.2.2.2.2.2.1 7))]) hx hb dX6_isWord_27 rfl hl (by decide) rfl (fun ls hl => ?_)
      have lp28 : ∀ (_ : True), ∀ (n : Nat) (v : Int32 × (Nat → Nat → Int32) × (Nat → Nat → Int64)), whileK (fun k v => fX6_isWord_5_maybe_s28 fu k v.1 v.2.1 v.2.2) n v = some (res, s9) → ∀ (H : Heap) (locs : List Loc) (ls : Array Slot), va_P G.1 vwCl (zw G (XS 2) 105 a (v.2.1) (v.2.2)) H → va_D A (zw G (XS 2) 105 a (v.2.1) (v.2.2)) → va_S A s.heap H locs → lv_has ls 3 [(0, .ref (a 5)), (1, .ref (G.2.2.2.2.2.1 7)), (2, .int (v.1))] → W p l e { frames := 10, cells := 0, slots := 0, locals := 195 } s m [.ref (a 5), .ref (G.2.2.2.2.2.1 7)].toArray below meth c H locs 0 0 (MQ below ((kQi G (S := Unit) (fun r' _ => r' = res) (fun _ => zw G (XS 2) 105 a s9.1 s9.2)) A) [.ref (a 5), .ref (G.2.2.2.2.2.1 7)].toArray s 0 0 A) (F0 m 28 ls []) := by
        intro _
        refine while_ind (fun k28 ih28 v h => ?_)
        obtain ⟨v2, g, L⟩ := v
        intro H locs ls hP hD hS hl
        have h : fX6_isWord_5_maybe_s28 fu k28 v2 g L = some (res, s9) := h
        have hP : va_P G.1 vwCl (zw G (XS 2) 105 a g L) H := hP
        have hD : va_D A (zw G (XS 2) 105 a g L) := hD
        have hl : lv_has ls 3 [(0, .ref (a 5)), (1, .ref (G.2.2.2.2.2.1 7)), (2, .int v2)] := hl
        show W p l e { frames := 10, cells := 0, slots := 0, locals := 195 } s m [.ref (a 5), .ref (G.2.2.2.2.2.1 7)].toArray below meth c H locs 0 0 (MQ below ((kQi G (S := Unit) (fun r' _ => r' = res) (fun _ => zw G (XS 2) 105 a s9.1 s9.2)) A) [.ref (a 5), .ref (G.2.2.2.2.2.1 7)].toArray s 0 0 A) (F0 m 28 ls [])
        unfold fX6_isWord_5_maybe_s28 at h
        refine lv_iload_n hx hb dX6_isWord_28 rfl (lv_at hl 2 rfl) ?_
        refine lv_aload_n hx hb dX6_isWord_29 rfl (lv_at hl 1 rfl) ?_
        refine y_slen (v := 5) C (by decide) (by decide) hP hD hS (kR rfl) hl.1 (Nat.le_of_ble_eq_true rfl) dX6_isWord_30 (fun H locs hP hD hS => ?_)
        refine lv_icmp_ge (x := v2) (y := 5) (tgt := 63) hx hb dX6_isWord_33 (by decide) (fun c3 => ?_) (fun c3 => ?_)
        ·
          have h := ite_t c3 h
          refine lv_iconst (v := 1) hx hb dX6_isWord_63 (by decide) ?_
          exact y_zret C hr hlk hP hD hS h (Nat.le_of_ble_eq_true rfl) (Nat.le_of_ble_eq_true rfl) dX6_isWord_64
        ·
          have h := ite_e c3 h
          refine lv_aload_n hx hb dX6_isWord_36 rfl (lv_at hl 0 rfl) ?_
          refine x_getr (Or.inl fl_X6_9) C hP (by decide) xs_5 rfl dX6_isWord_37 ?_
          refine lv_aload_n hx hb dX6_isWord_40 rfl (lv_at hl 0 rfl) ?_
          refine x_getv (v := .int (g 5 5)) (Or.inl fl_X6_59) C hP (by decide) xs_5 rfl dX6_isWord_41 ?_
          refine lv_iload_n hx hb dX6_isWord_44 rfl (lv_at hl 2 rfl) ?_
          refine lv_iadd hx hb dX6_isWord_45 ?_
          refine y_ald C hP (by decide) xs_14 dX6_isWord_46 h (fun h => ?_)
          refine lv_aload_n hx hb dX6_isWord_47 rfl (lv_at hl 1 rfl) ?_
          refine lv_iload_n hx hb dX6_isWord_48 rfl (lv_at hl 2 rfl) ?_
          refine y_schr (N := 5) C (by decide) (by decide) hP hD hS (kR rfl) hl.1 (Nat.le_of_ble_eq_true rfl) dX6_isWord_49 h (fun H locs h hP hD hS => ?_)
          refine lv_icmp_eq (x := (g 14 (Int32.toNatClampNeg ((g 5 5) + v2)))) (y := (sch 7 (Int32.toNatClampNeg v2))) (tgt := 57) hx hb dX6_isWord_52 (by decide) (fun c4 => ?_) (fun c4 => ?_)
          ·
            have h := ite_t c4 h
            refine lv_iinc (v := (v2 + 1)) (lv' := [(2, .int (v2 + 1)), (0, .ref (a 5)), (1, .ref (G.2.2.2.2.2.1 7))]) hx hb dX6_isWord_57 hl (k := 2) rfl rfl (by decide) rfl (fun ls hl => ?_)
            refine lv_goto (tgt := 28) hx hb dX6_isWord_60 (by decide) ?_
            exact ih28 ((v2 + 1), g, L) h H locs ls hP hD hS (lv_sub hl [1, 2, 0] rfl)
          ·
            have h := ite_e c4 h
            refine lv_iconst (v := 0) hx hb dX6_isWord_55 (by decide) ?_
            exact y_zret C hr hlk hP hD hS h (Nat.le_of_ble_eq_true rfl) (Nat.le_of_ble_eq_true rfl) dX6_isWord_56
      exact lp28 trivial fu (0, g, L) h H locs ls hP hD hS (lv_sub hl [1, 2, 0] rfl)
    ·
      have h := ite_e c2 h
      exact J24 g L H locs ls h hP hD hS (lv_sub hl [] rfl)
def fX6_readOption_5_maybe (fu : Nat) (p1 : Int32) (p2 : Int32) (g : Nat → Nat → Int32) (L : Nat → Nat → Int64) : Option ((Int32) × zS) :=
  cb (fX6_isWord_5_maybe fu g L) (fun x1 g2 L3 =>
  if x1 = 0 then some (p2, (g2, L3))
  else cb (fX6_advance_5 fu g2 L3) (fun x6 g7 L8 =>
  cb (fX6_readNumber_5 fu 0 p1 g7 L8) (fun x10 g11 L12 =>
  some (x10, (g11, L12)))))
set_option maxHeartbeats 4000000 in
set_option maxRecDepth 100000 in
theorem rX6_readOption_5_maybe (l : Launch) (G : kG) (sz : Nat) (a : Nat → Nat) (fu : Nat) (g : Nat → Nat → Int32) (L : Nat → Nat → Int64) (p1 : Int32) (p2 : Int32) (res : Int32) (s9 : zS) (h : fX6_readOption_5_maybe fu p1 p2 g L = some (res, s9)) : kM l yX6_readOption cX6_readOption 4 (some .int) { frames := 11, cells := 0, slots := 0, locals := 217 } G [.ref (a 5), .ref (G.2.2.2.2.2.1 7), .int p1, .int p2] (zw G (XS 2) 105 a g L) sz (kQi G (S := Unit) (fun r' _ => r' = res) (fun _ => zw G (XS 2) 105 a s9.1 s9.2)) := by
  refine kM.of (by decide) (Nat.le_of_ble_eq_true rfl) ?_
  intro p e s m below meth c A ls H C hr hlk hnm hP hD hS hl
  have C : kC G p s m c cX6_readOption 4 RX6 A := C
  have hx := C.1
  have hb := C.2.1
  have hl : lv_has ls 4 [(0, .ref (a 5)), (1, .ref (G.2.2.2.2.2.1 7)), (2, .int p1), (3, .int p2)] := hl
  obtain ⟨locs, hlocs⟩ : ∃ q : List Loc, q = [] := ⟨_, rfl⟩
  rw [← hlocs] at hS
  rw [← hlocs]
  unfold fX6_readOption_5_maybe at h
  refine lv_aload_n hx hb dX6_readOption_0 rfl (lv_at hl 0 rfl) ?_
  refine lv_aload_n hx hb dX6_readOption_1 rfl (lv_at hl 1 rfl) ?_
  obtain ⟨z_, g2, L3, hf4, h⟩ := cb_some h
  refine x_callVi (rest := []) li_X6_92 C (rX6_isWord_5_maybe l G H.size a fu g L z_ (g2, L3) hf4) (kR rfl) hP hD hS 5 6 rfl (zat (by decide) xs_5) rfl hl.1 rfl (Nat.le_of_ble_eq_true rfl) dX6_readOption_2 (fun x1 u_ H locs e_ hP hD hS => ?_)
  have e_ : x1 = z_ := e_
  subst e_
  have hP : va_P G.1 vwCl (zw G (XS 2) 105 a g2 L3) H := hP
  have hD : va_D A (zw G (XS 2) 105 a g2 L3) := hD
  refine lv_if_ne (x := x1) (tgt := 10) hx hb dX6_readOption_5 (by decide) (fun c5 => ?_) (fun c5 => ?_)
  ·
    have h := ite_e c5 h
    refine lv_aload_n hx hb dX6_readOption_10 rfl (lv_at hl 0 rfl) ?_
    obtain ⟨z_, g7, L8, hf9, h⟩ := cb_some h
    refine x_callVv (rest := []) li_X6_53 C (rX6_advance_5 l G H.size a fu g2 L3 z_ (g7, L8) hf9) (kR rfl) hP hD hS 5 6 rfl (zat (by decide) xs_5) rfl hl.1 rfl (Nat.le_of_ble_eq_true rfl) dX6_readOption_11 (fun u_ H locs e_ hP hD hS => ?_)
    have hP : va_P G.1 vwCl (zw G (XS 2) 105 a g7 L8) H := hP
    have hD : va_D A (zw G (XS 2) 105 a g7 L8) := hD
    refine lv_aload_n hx hb dX6_readOption_14 rfl (lv_at hl 0 rfl) ?_
    refine lv_iconst (v := 0) hx hb dX6_readOption_15 (by decide) ?_
    refine lv_iload_n hx hb dX6_readOption_16 rfl (lv_at hl 2 rfl) ?_
    obtain ⟨z_, g11, L12, hf13, h⟩ := cb_some h
    refine x_callVi (rest := []) li_X6_118 C (rX6_readNumber_5 l G H.size a fu g7 L8 0 p1 z_ (g11, L12) hf13) (kR rfl) hP hD hS 5 6 rfl (zat (by decide) xs_5) rfl hl.1 rfl (Nat.le_of_ble_eq_true rfl) dX6_readOption_17 (fun x10 u_ H locs e_ hP hD hS => ?_)
    have e_ : x10 = z_ := e_
    subst e_
    have hP : va_P G.1 vwCl (zw G (XS 2) 105 a g11 L12) H := hP
    have hD : va_D A (zw G (XS 2) 105 a g11 L12) := hD
    exact y_iret C hr hlk hP hD hS h (Nat.le_of_ble_eq_true rfl) (Nat.le_of_ble_eq_true rfl) dX6_readOption_20
  ·
    have h := ite_t c5 h
    refine lv_iload_n hx hb dX6_readOption_8 rfl (lv_at hl 3 rfl) ?_
    exact y_iret C hr hlk hP hD hS h (Nat.le_of_ble_eq_true rfl) (Nat.le_of_ble_eq_true rfl) dX6_readOption_9
def fX6_isWord_5_gap_p24 (fu : Nat) (g : Nat → Nat → Int32) (L : Nat → Nat → Int64) : Option ((Int32) × zS) :=
  ckb 0 (some (0, (g, L)))
def fX6_isWord_5_gap_s28 (fu : Nat) (k28 : Int32 × (Nat → Nat → Int32) × (Nat → Nat → Int64) → Option ((Int32) × zS)) (v2 : Int32) (g : Nat → Nat → Int32) (L : Nat → Nat → Int64) : Option ((Int32) × zS) :=
  if 3 ≤ (v2 : Int32) then ckb 1 (some (1, (g, L)))
  else ck ((g 5 5) + v2) 700 (
  ck v2 3 (
  if (g 14 (Int32.toNatClampNeg ((g 5 5) + v2))) = (sch 8 (Int32.toNatClampNeg v2)) then k28 ((v2 + 1), g, L)
  else ckb 0 (some (0, (g, L)))))
def fX6_isWord_5_gap_l28 (fu : Nat) (v2 : Int32) (g : Nat → Nat → Int32) (L : Nat → Nat → Int64) : Option ((Int32) × zS) :=
  whileK (fun k v => fX6_isWord_5_gap_s28 fu k v.1 v.2.1 v.2.2) fu (v2, g, L)
def fX6_isWord_5_gap (fu : Nat) (g : Nat → Nat → Int32) (L : Nat → Nat → Int64) : Option ((Int32) × zS) :=
  if (g 5 4) = 2 then (if ((g 5 3) - (g 5 5)) = 3 then fX6_isWord_5_gap_l28 fu 0 g L
  else fX6_isWord_5_gap_p24 fu g L)
  else fX6_isWord_5_gap_p24 fu g L
set_option maxHeartbeats 4000000 in
set_option maxRecDepth 100000 in
theorem rX6_isWord_5_gap (l : Launch) (G : kG) (sz : Nat) (a : Nat → Nat) (fu : Nat) (g : Nat → Nat → Int32) (L : Nat → Nat → Int64) (res : Int32) (s9 : zS) (h : fX6_isWord_5_gap fu g L = some (res, s9)) : kM l yX6_isWord cX6_isWord 3 (some .boolean) { frames := 10, cells := 0, slots := 0, locals := 195 } G [.ref (a 5), .ref (G.2.2.2.2.2.1 8)] (zw G (XS 2) 105 a g L) sz (kQi G (S := Unit) (fun r' _ => r' = res) (fun _ => zw G (XS 2) 105 a s9.1 s9.2)) := by
  refine kM.of (by decide) (Nat.le_of_ble_eq_true rfl) ?_
  intro p e s m below meth c A ls H C hr hlk hnm hP hD hS hl
  have C : kC G p s m c cX6_isWord 3 RX6 A := C
  have hx := C.1
  have hb := C.2.1
  have hl : lv_has ls 3 [(0, .ref (a 5)), (1, .ref (G.2.2.2.2.2.1 8))] := hl
  obtain ⟨locs, hlocs⟩ : ∃ q : List Loc, q = [] := ⟨_, rfl⟩
  rw [← hlocs] at hS
  rw [← hlocs]
  unfold fX6_isWord_5_gap at h
  refine lv_aload_n hx hb dX6_isWord_0 rfl (lv_at hl 0 rfl) ?_
  refine x_getv (v := .int (g 5 4)) (Or.inl fl_X6_50) C hP (by decide) xs_5 rfl dX6_isWord_1 ?_
  refine lv_iconst (v := 2) hx hb dX6_isWord_4 (by decide) ?_
  have J24 : ∀ (g : Nat → Nat → Int32) (L : Nat → Nat → Int64) (H : Heap) (locs : List Loc) (ls : Array Slot), fX6_isWord_5_gap_p24 fu g L = some (res, s9) → va_P G.1 vwCl (zw G (XS 2) 105 a g L) H → va_D A (zw G (XS 2) 105 a g L) → va_S A s.heap H locs → lv_has ls 3 [] → W p l e { frames := 10, cells := 0, slots := 0, locals := 195 } s m [.ref (a 5), .ref (G.2.2.2.2.2.1 8)].toArray below meth c H locs 0 0 (MQ below ((kQi G (S := Unit) (fun r' _ => r' = res) (fun _ => zw G (XS 2) 105 a s9.1 s9.2)) A) [.ref (a 5), .ref (G.2.2.2.2.2.1 8)].toArray s 0 0 A) (F0 m 24 ls []) := by
    intro g L H locs ls h hP hD hS hl
    unfold fX6_isWord_5_gap_p24 at h
    refine lv_iconst (v := 0) hx hb dX6_isWord_24 (by decide) ?_
    exact y_zret C hr hlk hP hD hS h (Nat.le_of_ble_eq_true rfl) (Nat.le_of_ble_eq_true rfl) dX6_isWord_25
  refine lv_icmp_ne (x := (g 5 4)) (y := 2) (tgt := 24) hx hb dX6_isWord_5 (by decide) (fun c1 => ?_) (fun c1 => ?_)
  ·
    have h := ite_e c1 h
    exact J24 g L H locs ls h hP hD hS (lv_sub hl [] rfl)
  ·
    have h := ite_t c1 h
    refine lv_aload_n hx hb dX6_isWord_8 rfl (lv_at hl 0 rfl) ?_
    refine x_getv (v := .int (g 5 3)) (Or.inl fl_X6_34) C hP (by decide) xs_5 rfl dX6_isWord_9 ?_
    refine lv_aload_n hx hb dX6_isWord_12 rfl (lv_at hl 0 rfl) ?_
    refine x_getv (v := .int (g 5 5)) (Or.inl fl_X6_59) C hP (by decide) xs_5 rfl dX6_isWord_13 ?_
    refine lv_isub hx hb dX6_isWord_16 ?_
    refine lv_aload_n hx hb dX6_isWord_17 rfl (lv_at hl 1 rfl) ?_
    refine y_slen (v := 3) C (by decide) (by decide) hP hD hS (kR rfl) hl.1 (Nat.le_of_ble_eq_true rfl) dX6_isWord_18 (fun H locs hP hD hS => ?_)
    refine lv_icmp_eq (x := ((g 5 3) - (g 5 5))) (y := 3) (tgt := 26) hx hb dX6_isWord_21 (by decide) (fun c2 => ?_) (fun c2 => ?_)
    ·
      have h := ite_t c2 h
      refine lv_iconst (v := 0) hx hb dX6_isWord_26 (by decide) ?_
      refine lv_istore_n (lv' := [(2, .int 0), (0, .ref (a 5)), (1, .ref (G.2.2.2.2.2.1 8))]) hx hb dX6_isWord_27 rfl hl (by decide) rfl (fun ls hl => ?_)
      have lp28 : ∀ (_ : True), ∀ (n : Nat) (v : Int32 × (Nat → Nat → Int32) × (Nat → Nat → Int64)), whileK (fun k v => fX6_isWord_5_gap_s28 fu k v.1 v.2.1 v.2.2) n v = some (res, s9) → ∀ (H : Heap) (locs : List Loc) (ls : Array Slot), va_P G.1 vwCl (zw G (XS 2) 105 a (v.2.1) (v.2.2)) H → va_D A (zw G (XS 2) 105 a (v.2.1) (v.2.2)) → va_S A s.heap H locs → lv_has ls 3 [(0, .ref (a 5)), (1, .ref (G.2.2.2.2.2.1 8)), (2, .int (v.1))] → W p l e { frames := 10, cells := 0, slots := 0, locals := 195 } s m [.ref (a 5), .ref (G.2.2.2.2.2.1 8)].toArray below meth c H locs 0 0 (MQ below ((kQi G (S := Unit) (fun r' _ => r' = res) (fun _ => zw G (XS 2) 105 a s9.1 s9.2)) A) [.ref (a 5), .ref (G.2.2.2.2.2.1 8)].toArray s 0 0 A) (F0 m 28 ls []) := by
        intro _
        refine while_ind (fun k28 ih28 v h => ?_)
        obtain ⟨v2, g, L⟩ := v
        intro H locs ls hP hD hS hl
        have h : fX6_isWord_5_gap_s28 fu k28 v2 g L = some (res, s9) := h
        have hP : va_P G.1 vwCl (zw G (XS 2) 105 a g L) H := hP
        have hD : va_D A (zw G (XS 2) 105 a g L) := hD
        have hl : lv_has ls 3 [(0, .ref (a 5)), (1, .ref (G.2.2.2.2.2.1 8)), (2, .int v2)] := hl
        show W p l e { frames := 10, cells := 0, slots := 0, locals := 195 } s m [.ref (a 5), .ref (G.2.2.2.2.2.1 8)].toArray below meth c H locs 0 0 (MQ below ((kQi G (S := Unit) (fun r' _ => r' = res) (fun _ => zw G (XS 2) 105 a s9.1 s9.2)) A) [.ref (a 5), .ref (G.2.2.2.2.2.1 8)].toArray s 0 0 A) (F0 m 28 ls [])
        unfold fX6_isWord_5_gap_s28 at h
        refine lv_iload_n hx hb dX6_isWord_28 rfl (lv_at hl 2 rfl) ?_
        refine lv_aload_n hx hb dX6_isWord_29 rfl (lv_at hl 1 rfl) ?_
        refine y_slen (v := 3) C (by decide) (by decide) hP hD hS (kR rfl) hl.1 (Nat.le_of_ble_eq_true rfl) dX6_isWord_30 (fun H locs hP hD hS => ?_)
        refine lv_icmp_ge (x := v2) (y := 3) (tgt := 63) hx hb dX6_isWord_33 (by decide) (fun c3 => ?_) (fun c3 => ?_)
        ·
          have h := ite_t c3 h
          refine lv_iconst (v := 1) hx hb dX6_isWord_63 (by decide) ?_
          exact y_zret C hr hlk hP hD hS h (Nat.le_of_ble_eq_true rfl) (Nat.le_of_ble_eq_true rfl) dX6_isWord_64
        ·
          have h := ite_e c3 h
          refine lv_aload_n hx hb dX6_isWord_36 rfl (lv_at hl 0 rfl) ?_
          refine x_getr (Or.inl fl_X6_9) C hP (by decide) xs_5 rfl dX6_isWord_37 ?_
          refine lv_aload_n hx hb dX6_isWord_40 rfl (lv_at hl 0 rfl) ?_
          refine x_getv (v := .int (g 5 5)) (Or.inl fl_X6_59) C hP (by decide) xs_5 rfl dX6_isWord_41 ?_
          refine lv_iload_n hx hb dX6_isWord_44 rfl (lv_at hl 2 rfl) ?_
          refine lv_iadd hx hb dX6_isWord_45 ?_
          refine y_ald C hP (by decide) xs_14 dX6_isWord_46 h (fun h => ?_)
          refine lv_aload_n hx hb dX6_isWord_47 rfl (lv_at hl 1 rfl) ?_
          refine lv_iload_n hx hb dX6_isWord_48 rfl (lv_at hl 2 rfl) ?_
          refine y_schr (N := 3) C (by decide) (by decide) hP hD hS (kR rfl) hl.1 (Nat.le_of_ble_eq_true rfl) dX6_isWord_49 h (fun H locs h hP hD hS => ?_)
          refine lv_icmp_eq (x := (g 14 (Int32.toNatClampNeg ((g 5 5) + v2)))) (y := (sch 8 (Int32.toNatClampNeg v2))) (tgt := 57) hx hb dX6_isWord_52 (by decide) (fun c4 => ?_) (fun c4 => ?_)
          ·
            have h := ite_t c4 h
            refine lv_iinc (v := (v2 + 1)) (lv' := [(2, .int (v2 + 1)), (0, .ref (a 5)), (1, .ref (G.2.2.2.2.2.1 8))]) hx hb dX6_isWord_57 hl (k := 2) rfl rfl (by decide) rfl (fun ls hl => ?_)
            refine lv_goto (tgt := 28) hx hb dX6_isWord_60 (by decide) ?_
            exact ih28 ((v2 + 1), g, L) h H locs ls hP hD hS (lv_sub hl [1, 2, 0] rfl)
          ·
            have h := ite_e c4 h
            refine lv_iconst (v := 0) hx hb dX6_isWord_55 (by decide) ?_
            exact y_zret C hr hlk hP hD hS h (Nat.le_of_ble_eq_true rfl) (Nat.le_of_ble_eq_true rfl) dX6_isWord_56
      exact lp28 trivial fu (0, g, L) h H locs ls hP hD hS (lv_sub hl [1, 2, 0] rfl)
    ·
      have h := ite_e c2 h
      exact J24 g L H locs ls h hP hD hS (lv_sub hl [] rfl)
def fX6_readOption_5_gap (fu : Nat) (p1 : Int32) (p2 : Int32) (g : Nat → Nat → Int32) (L : Nat → Nat → Int64) : Option ((Int32) × zS) :=
  cb (fX6_isWord_5_gap fu g L) (fun x1 g2 L3 =>
  if x1 = 0 then some (p2, (g2, L3))
  else cb (fX6_advance_5 fu g2 L3) (fun x6 g7 L8 =>
  cb (fX6_readNumber_5 fu 0 p1 g7 L8) (fun x10 g11 L12 =>
  some (x10, (g11, L12)))))
set_option maxHeartbeats 4000000 in
set_option maxRecDepth 100000 in
theorem rX6_readOption_5_gap (l : Launch) (G : kG) (sz : Nat) (a : Nat → Nat) (fu : Nat) (g : Nat → Nat → Int32) (L : Nat → Nat → Int64) (p1 : Int32) (p2 : Int32) (res : Int32) (s9 : zS) (h : fX6_readOption_5_gap fu p1 p2 g L = some (res, s9)) : kM l yX6_readOption cX6_readOption 4 (some .int) { frames := 11, cells := 0, slots := 0, locals := 217 } G [.ref (a 5), .ref (G.2.2.2.2.2.1 8), .int p1, .int p2] (zw G (XS 2) 105 a g L) sz (kQi G (S := Unit) (fun r' _ => r' = res) (fun _ => zw G (XS 2) 105 a s9.1 s9.2)) := by
  refine kM.of (by decide) (Nat.le_of_ble_eq_true rfl) ?_
  intro p e s m below meth c A ls H C hr hlk hnm hP hD hS hl
  have C : kC G p s m c cX6_readOption 4 RX6 A := C
  have hx := C.1
  have hb := C.2.1
  have hl : lv_has ls 4 [(0, .ref (a 5)), (1, .ref (G.2.2.2.2.2.1 8)), (2, .int p1), (3, .int p2)] := hl
  obtain ⟨locs, hlocs⟩ : ∃ q : List Loc, q = [] := ⟨_, rfl⟩
  rw [← hlocs] at hS
  rw [← hlocs]
  unfold fX6_readOption_5_gap at h
  refine lv_aload_n hx hb dX6_readOption_0 rfl (lv_at hl 0 rfl) ?_
  refine lv_aload_n hx hb dX6_readOption_1 rfl (lv_at hl 1 rfl) ?_
  obtain ⟨z_, g2, L3, hf4, h⟩ := cb_some h
  refine x_callVi (rest := []) li_X6_92 C (rX6_isWord_5_gap l G H.size a fu g L z_ (g2, L3) hf4) (kR rfl) hP hD hS 5 6 rfl (zat (by decide) xs_5) rfl hl.1 rfl (Nat.le_of_ble_eq_true rfl) dX6_readOption_2 (fun x1 u_ H locs e_ hP hD hS => ?_)
  have e_ : x1 = z_ := e_
  subst e_
  have hP : va_P G.1 vwCl (zw G (XS 2) 105 a g2 L3) H := hP
  have hD : va_D A (zw G (XS 2) 105 a g2 L3) := hD
  refine lv_if_ne (x := x1) (tgt := 10) hx hb dX6_readOption_5 (by decide) (fun c5 => ?_) (fun c5 => ?_)
  ·
    have h := ite_e c5 h
    refine lv_aload_n hx hb dX6_readOption_10 rfl (lv_at hl 0 rfl) ?_
    obtain ⟨z_, g7, L8, hf9, h⟩ := cb_some h
    refine x_callVv (rest := []) li_X6_53 C (rX6_advance_5 l G H.size a fu g2 L3 z_ (g7, L8) hf9) (kR rfl) hP hD hS 5 6 rfl (zat (by decide) xs_5) rfl hl.1 rfl (Nat.le_of_ble_eq_true rfl) dX6_readOption_11 (fun u_ H locs e_ hP hD hS => ?_)
    have hP : va_P G.1 vwCl (zw G (XS 2) 105 a g7 L8) H := hP
    have hD : va_D A (zw G (XS 2) 105 a g7 L8) := hD
    refine lv_aload_n hx hb dX6_readOption_14 rfl (lv_at hl 0 rfl) ?_
    refine lv_iconst (v := 0) hx hb dX6_readOption_15 (by decide) ?_
    refine lv_iload_n hx hb dX6_readOption_16 rfl (lv_at hl 2 rfl) ?_
    obtain ⟨z_, g11, L12, hf13, h⟩ := cb_some h
    refine x_callVi (rest := []) li_X6_118 C (rX6_readNumber_5 l G H.size a fu g7 L8 0 p1 z_ (g11, L12) hf13) (kR rfl) hP hD hS 5 6 rfl (zat (by decide) xs_5) rfl hl.1 rfl (Nat.le_of_ble_eq_true rfl) dX6_readOption_17 (fun x10 u_ H locs e_ hP hD hS => ?_)
    have e_ : x10 = z_ := e_
    subst e_
    have hP : va_P G.1 vwCl (zw G (XS 2) 105 a g11 L12) H := hP
    have hD : va_D A (zw G (XS 2) 105 a g11 L12) := hD
    exact y_iret C hr hlk hP hD hS h (Nat.le_of_ble_eq_true rfl) (Nat.le_of_ble_eq_true rfl) dX6_readOption_20
  ·
    have h := ite_t c5 h
    refine lv_iload_n hx hb dX6_readOption_8 rfl (lv_at hl 3 rfl) ?_
    exact y_iret C hr hlk hP hD hS h (Nat.le_of_ble_eq_true rfl) (Nat.le_of_ble_eq_true rfl) dX6_readOption_9
def fX6_readLesson_5_p176 (fu : Nat) (q1_ : Nat) (g : Nat → Nat → Int32) (L : Nat → Nat → Int64) : Option ((Unit) × zS) :=
  cb (fX6_readOption_5_limit fu 99 99 g L) (fun x45 g46 L47 =>
  sti g46 q1_ 11 x45 (fun g49 =>
  cb (fX6_readOption_5_maybe fu 10 10 g49 L47) (fun x50 g51 L52 =>
  sti g51 q1_ 12 x50 (fun g54 =>
  cb (fX6_readOption_5_gap fu 30 0 g54 L52) (fun x55 g56 L57 =>
  sti g56 q1_ 13 x55 (fun g59 =>
  sti g59 2 2 ((g59 2 2) + 1) (fun g60 =>
  some ((), (g60, L57)))))))))
def fX6_readLesson_5 (fu : Nat) (g : Nat → Nat → Int32) (L : Nat → Nat → Int64) : Option ((Unit) × zS) :=
  if (g 2 2) < 12 then ck (g 2 2) 12 (ltn (69 + (Int32.toNatClampNeg (g 2 2)) % 12) (fun q2 =>
  cb (fX5_clear_les fu q2 g L) (fun x3 g4 L5 =>
  cb (fX6_advance_5 fu g4 L5) (fun x7 g8 L9 =>
  cb (fX6_readNumber_5 fu 0 999 g8 L9) (fun x11 g12 L13 =>
  sti g12 q2 3 x11 (fun g15 =>
  cb (fX6_readNumber_5 fu ((g15 q2 3) + 1) 999 g15 L13) (fun x16 g17 L18 =>
  sti g17 q2 4 x16 (fun g20 =>
  cb (fX6_readNumber_5 fu 1 200 g20 L18) (fun x21 g22 L23 =>
  sti g22 q2 5 x21 (fun g25 =>
  cb (fX6_readNumber_5 fu 0 60 g25 L23) (fun x26 g27 L28 =>
  sti g27 q2 6 x26 (fun g30 =>
  cb (fX6_readNumber_5 fu 0 9 g30 L28) (fun x31 g32 L33 =>
  sti g32 q2 7 x31 (fun g35 =>
  cb (fX6_readNumber_5 fu 1 99 g35 L33) (fun x36 g37 L38 =>
  sti g37 q2 8 x36 (fun g40 =>
  cb (fX6_isWord_5_all fu g40 L38) (fun x41 g42 L43 =>
  if x41 = 0 then cb (fX6_isWord_5_some fu g42 L43) (fun x62 g63 L64 =>
  if x62 = 0 then fX6_readLesson_5_p176 fu q2 g63 L64
  else cb (fX6_advance_5 fu g63 L64) (fun x67 g68 L69 =>
  sti g68 q2 9 1 (fun g71 =>
  cb (fX6_readNumber_5 fu 1 6 g71 L69) (fun x72 g73 L74 =>
  sti g73 q2 10 x72 (fun g76 =>
  cb (fX6_readWaited_5_les fu q2 g76 L74) (fun x77 g78 L79 =>
  fX6_readLesson_5_p176 fu q2 g78 L79))))))
  else cb (fX6_advance_5 fu g42 L43) (fun x81 g82 L83 =>
  sti g82 q2 9 0 (fun g85 =>
  cb (fX6_readWaited_5_les fu q2 g85 L83) (fun x86 g87 L88 =>
  fX6_readLesson_5_p176 fu q2 g87 L88))))))))))))))))))))
  else cb (fX6_refuse_5 fu 2 g L) (fun x90 g91 L92 =>
  some ((), (g91, L92)))
set_option maxHeartbeats 4000000 in
set_option maxRecDepth 100000 in
theorem rX6_readLesson_5 (l : Launch) (G : kG) (sz : Nat) (a : Nat → Nat) (fu : Nat) (g : Nat → Nat → Int32) (L : Nat → Nat → Int64) (res : Unit) (s9 : zS) (h : fX6_readLesson_5 fu g L = some (res, s9)) : kM l yX6_readLesson cX6_readLesson 2 none { frames := 12, cells := 0, slots := 0, locals := 240 } G [.ref (a 5)] (zw G (XS 2) 105 a g L) sz (kQv G (S := Unit) (fun _ => True) (fun _ => zw G (XS 2) 105 a s9.1 s9.2)) := by
  refine kM.of (by decide) (Nat.le_of_ble_eq_true rfl) ?_
  intro p e s m below meth c A ls H C hr hlk hnm hP hD hS hl
  have C : kC G p s m c cX6_readLesson 2 RX6 A := C
  have hx := C.1
  have hb := C.2.1
  have hl : lv_has ls 2 [(0, .ref (a 5))] := hl
  obtain ⟨locs, hlocs⟩ : ∃ q : List Loc, q = [] := ⟨_, rfl⟩
  rw [← hlocs] at hS
  rw [← hlocs]
  unfold fX6_readLesson_5 at h
  refine lv_aload_n hx hb dX6_readLesson_0 rfl (lv_at hl 0 rfl) ?_
  refine x_getr (Or.inl fl_X6_15) C hP (by decide) xs_5 rfl dX6_readLesson_1 ?_
  refine x_getv (v := .int (g 2 2)) (Or.inr fl_X6_140) C hP (by decide) xs_2 rfl dX6_readLesson_4 ?_
  refine lv_bipush (v := 12) hx hb dX6_readLesson_7 (by decide) ?_
  refine lv_icmp_lt (x := (g 2 2)) (y := 12) (tgt := 18) hx hb dX6_readLesson_9 (by decide) (fun c1 => ?_) (fun c1 => ?_)
  ·
    have h := ite_t c1 h
    refine lv_aload_n hx hb dX6_readLesson_18 rfl (lv_at hl 0 rfl) ?_
    refine x_getr (Or.inl fl_X6_15) C hP (by decide) xs_5 rfl dX6_readLesson_19 ?_
    refine x_getr (Or.inr fl_X6_143) C hP (by decide) xs_2 rfl dX6_readLesson_22 ?_
    refine lv_aload_n hx hb dX6_readLesson_25 rfl (lv_at hl 0 rfl) ?_
    refine x_getr (Or.inl fl_X6_15) C hP (by decide) xs_5 rfl dX6_readLesson_26 ?_
    refine x_getv (v := .int (g 2 2)) (Or.inr fl_X6_140) C hP (by decide) xs_2 rfl dX6_readLesson_29 ?_
    refine y_aald (t := 69) C hP (by decide) xs_18 dX6_readLesson_32 h (fun q2 q2l q2h h => ?_)
    refine lv_astore_n (lv' := [(1, .ref (a q2)), (0, .ref (a 5))]) hx hb dX6_readLesson_33 rfl hl (by decide) rfl (fun ls hl => ?_)
    refine lv_aload_n hx hb dX6_readLesson_34 rfl (lv_at hl 0 rfl) ?_
    obtain ⟨z_, g4, L5, hf6, h⟩ := cb_some h
    refine x_callNv (rest := []) li_X6_147 C (rX5_clear_les l G H.size 2 a fu g L q2 (by omega) (by omega) z_ (g4, L5) hf6) (kR rfl) hP hD hS q2 5 rfl (zat (by omega) (xs_les (by omega) (by omega))) rfl hl.1 rfl (Nat.le_of_ble_eq_true rfl) dX6_readLesson_35 (fun u_ H locs e_ hP hD hS => ?_)
    have hP : va_P G.1 vwCl (zw G (XS 2) 105 a g4 L5) H := hP
    have hD : va_D A (zw G (XS 2) 105 a g4 L5) := hD
    refine lv_aload_n hx hb dX6_readLesson_38 rfl (lv_at hl 1 rfl) ?_
    obtain ⟨z_, g8, L9, hf10, h⟩ := cb_some h
    refine x_callVv (rest := []) li_X6_53 C (rX6_advance_5 l G H.size a fu g4 L5 z_ (g8, L9) hf10) (kR rfl) hP hD hS 5 6 rfl (zat (by decide) xs_5) rfl hl.1 rfl (Nat.le_of_ble_eq_true rfl) dX6_readLesson_39 (fun u_ H locs e_ hP hD hS => ?_)
    have hP : va_P G.1 vwCl (zw G (XS 2) 105 a g8 L9) H := hP
    have hD : va_D A (zw G (XS 2) 105 a g8 L9) := hD
    refine lv_aload_n hx hb dX6_readLesson_42 rfl (lv_at hl 0 rfl) ?_
    refine lv_aload_n hx hb dX6_readLesson_43 rfl (lv_at hl 1 rfl) ?_
    refine lv_iconst (v := 0) hx hb dX6_readLesson_44 (by decide) ?_
    refine lv_sipush (v := 999) hx hb dX6_readLesson_45 (by decide) ?_
    obtain ⟨z_, g12, L13, hf14, h⟩ := cb_some h
    refine x_callVi (rest := [.ref (a q2)]) li_X6_118 C (rX6_readNumber_5 l G H.size a fu g8 L9 0 999 z_ (g12, L13) hf14) (kR rfl) hP hD hS 5 6 rfl (zat (by decide) xs_5) rfl hl.1 rfl (Nat.le_of_ble_eq_true rfl) dX6_readLesson_48 (fun x11 u_ H locs e_ hP hD hS => ?_)
    have e_ : x11 = z_ := e_
    subst e_
    have hP : va_P G.1 vwCl (zw G (XS 2) 105 a g12 L13) H := hP
    have hD : va_D A (zw G (XS 2) 105 a g12 L13) := hD
    refine y_puti (Or.inr fl_X6_150) ft_X5_3 C hP hD hS (by omega) (xs_les (by omega) (by omega)) rfl rfl rfl dX6_readLesson_51 h (fun g15 H locs h hP hD hS => ?_)
    refine lv_aload_n hx hb dX6_readLesson_54 rfl (lv_at hl 0 rfl) ?_
    refine lv_aload_n hx hb dX6_readLesson_55 rfl (lv_at hl 1 rfl) ?_
    refine lv_aload_n hx hb dX6_readLesson_56 rfl (lv_at hl 0 rfl) ?_
    refine x_getv (v := .int (g15 q2 3)) (Or.inr fl_X6_150) C hP (by omega) (xs_les (by omega) (by omega)) rfl dX6_readLesson_57 ?_
    refine lv_iconst (v := 1) hx hb dX6_readLesson_60 (by decide) ?_
    refine lv_iadd hx hb dX6_readLesson_61 ?_
    refine lv_sipush (v := 999) hx hb dX6_readLesson_62 (by decide) ?_
    obtain ⟨z_, g17, L18, hf19, h⟩ := cb_some h
    refine x_callVi (rest := [.ref (a q2)]) li_X6_118 C (rX6_readNumber_5 l G H.size a fu g15 L13 ((g15 q2 3) + 1) 999 z_ (g17, L18) hf19) (kR rfl) hP hD hS 5 6 rfl (zat (by decide) xs_5) rfl hl.1 rfl (Nat.le_of_ble_eq_true rfl) dX6_readLesson_65 (fun x16 u_ H locs e_ hP hD hS => ?_)
    have e_ : x16 = z_ := e_
    subst e_
    have hP : va_P G.1 vwCl (zw G (XS 2) 105 a g17 L18) H := hP
    have hD : va_D A (zw G (XS 2) 105 a g17 L18) := hD
    refine y_puti (Or.inr fl_X6_153) ft_X5_4 C hP hD hS (by omega) (xs_les (by omega) (by omega)) rfl rfl rfl dX6_readLesson_68 h (fun g20 H locs h hP hD hS => ?_)
    refine lv_aload_n hx hb dX6_readLesson_71 rfl (lv_at hl 0 rfl) ?_
    refine lv_aload_n hx hb dX6_readLesson_72 rfl (lv_at hl 1 rfl) ?_
    refine lv_iconst (v := 1) hx hb dX6_readLesson_73 (by decide) ?_
    refine lv_sipush (v := 200) hx hb dX6_readLesson_74 (by decide) ?_
    obtain ⟨z_, g22, L23, hf24, h⟩ := cb_some h
    refine x_callVi (rest := [.ref (a q2)]) li_X6_118 C (rX6_readNumber_5 l G H.size a fu g20 L18 1 200 z_ (g22, L23) hf24) (kR rfl) hP hD hS 5 6 rfl (zat (by decide) xs_5) rfl hl.1 rfl (Nat.le_of_ble_eq_true rfl) dX6_readLesson_77 (fun x21 u_ H locs e_ hP hD hS => ?_)
    have e_ : x21 = z_ := e_
    subst e_
    have hP : va_P G.1 vwCl (zw G (XS 2) 105 a g22 L23) H := hP
    have hD : va_D A (zw G (XS 2) 105 a g22 L23) := hD
    refine y_puti (Or.inr fl_X6_156) ft_X5_5 C hP hD hS (by omega) (xs_les (by omega) (by omega)) rfl rfl rfl dX6_readLesson_80 h (fun g25 H locs h hP hD hS => ?_)
    refine lv_aload_n hx hb dX6_readLesson_83 rfl (lv_at hl 0 rfl) ?_
    refine lv_aload_n hx hb dX6_readLesson_84 rfl (lv_at hl 1 rfl) ?_
    refine lv_iconst (v := 0) hx hb dX6_readLesson_85 (by decide) ?_
    refine lv_bipush (v := 60) hx hb dX6_readLesson_86 (by decide) ?_
    obtain ⟨z_, g27, L28, hf29, h⟩ := cb_some h
    refine x_callVi (rest := [.ref (a q2)]) li_X6_118 C (rX6_readNumber_5 l G H.size a fu g25 L23 0 60 z_ (g27, L28) hf29) (kR rfl) hP hD hS 5 6 rfl (zat (by decide) xs_5) rfl hl.1 rfl (Nat.le_of_ble_eq_true rfl) dX6_readLesson_88 (fun x26 u_ H locs e_ hP hD hS => ?_)
    have e_ : x26 = z_ := e_
    subst e_
    have hP : va_P G.1 vwCl (zw G (XS 2) 105 a g27 L28) H := hP
    have hD : va_D A (zw G (XS 2) 105 a g27 L28) := hD
    refine y_puti (Or.inr fl_X6_159) ft_X5_6 C hP hD hS (by omega) (xs_les (by omega) (by omega)) rfl rfl rfl dX6_readLesson_91 h (fun g30 H locs h hP hD hS => ?_)
    refine lv_aload_n hx hb dX6_readLesson_94 rfl (lv_at hl 0 rfl) ?_
    refine lv_aload_n hx hb dX6_readLesson_95 rfl (lv_at hl 1 rfl) ?_
    refine lv_iconst (v := 0) hx hb dX6_readLesson_96 (by decide) ?_
    refine lv_bipush (v := 9) hx hb dX6_readLesson_97 (by decide) ?_
    obtain ⟨z_, g32, L33, hf34, h⟩ := cb_some h
    refine x_callVi (rest := [.ref (a q2)]) li_X6_118 C (rX6_readNumber_5 l G H.size a fu g30 L28 0 9 z_ (g32, L33) hf34) (kR rfl) hP hD hS 5 6 rfl (zat (by decide) xs_5) rfl hl.1 rfl (Nat.le_of_ble_eq_true rfl) dX6_readLesson_99 (fun x31 u_ H locs e_ hP hD hS => ?_)
    have e_ : x31 = z_ := e_
    subst e_
    have hP : va_P G.1 vwCl (zw G (XS 2) 105 a g32 L33) H := hP
    have hD : va_D A (zw G (XS 2) 105 a g32 L33) := hD
    refine y_puti (Or.inr fl_X6_162) ft_X5_7 C hP hD hS (by omega) (xs_les (by omega) (by omega)) rfl rfl rfl dX6_readLesson_102 h (fun g35 H locs h hP hD hS => ?_)
    refine lv_aload_n hx hb dX6_readLesson_105 rfl (lv_at hl 0 rfl) ?_
    refine lv_aload_n hx hb dX6_readLesson_106 rfl (lv_at hl 1 rfl) ?_
    refine lv_iconst (v := 1) hx hb dX6_readLesson_107 (by decide) ?_
    refine lv_bipush (v := 99) hx hb dX6_readLesson_108 (by decide) ?_
    obtain ⟨z_, g37, L38, hf39, h⟩ := cb_some h
    refine x_callVi (rest := [.ref (a q2)]) li_X6_118 C (rX6_readNumber_5 l G H.size a fu g35 L33 1 99 z_ (g37, L38) hf39) (kR rfl) hP hD hS 5 6 rfl (zat (by decide) xs_5) rfl hl.1 rfl (Nat.le_of_ble_eq_true rfl) dX6_readLesson_110 (fun x36 u_ H locs e_ hP hD hS => ?_)
    have e_ : x36 = z_ := e_
    subst e_
    have hP : va_P G.1 vwCl (zw G (XS 2) 105 a g37 L38) H := hP
    have hD : va_D A (zw G (XS 2) 105 a g37 L38) := hD
    refine y_puti (Or.inr fl_X6_165) ft_X5_8 C hP hD hS (by omega) (xs_les (by omega) (by omega)) rfl rfl rfl dX6_readLesson_113 h (fun g40 H locs h hP hD hS => ?_)
    refine lv_aload_n hx hb dX6_readLesson_116 rfl (lv_at hl 1 rfl) ?_
    refine y_ldcS (i := 4) C (by decide) rfl dX6_readLesson_117 ?_
    obtain ⟨z_, g42, L43, hf44, h⟩ := cb_some h
    refine x_callVi (rest := []) li_X6_92 C (rX6_isWord_5_all l G H.size a fu g40 L38 z_ (g42, L43) hf44) (kR rfl) hP hD hS 5 6 rfl (zat (by decide) xs_5) rfl hl.1 rfl (Nat.le_of_ble_eq_true rfl) dX6_readLesson_119 (fun x41 u_ H locs e_ hP hD hS => ?_)
    have e_ : x41 = z_ := e_
    subst e_
    have hP : va_P G.1 vwCl (zw G (XS 2) 105 a g42 L43) H := hP
    have hD : va_D A (zw G (XS 2) 105 a g42 L43) := hD
    have J176 : ∀ (q1_ : Nat) (g : Nat → Nat → Int32) (L : Nat → Nat → Int64) (H : Heap) (locs : List Loc) (ls : Array Slot), 57 ≤ q1_ → q1_ < 81 → fX6_readLesson_5_p176 fu q1_ g L = some (res, s9) → va_P G.1 vwCl (zw G (XS 2) 105 a g L) H → va_D A (zw G (XS 2) 105 a g L) → va_S A s.heap H locs → lv_has ls 2 [(0, .ref (a 5)), (1, .ref (a q1_))] → W p l e { frames := 12, cells := 0, slots := 0, locals := 240 } s m [.ref (a 5)].toArray below meth c H locs 0 0 (MQ below ((kQv G (S := Unit) (fun _ => True) (fun _ => zw G (XS 2) 105 a s9.1 s9.2)) A) [.ref (a 5)].toArray s 0 0 A) (F0 m 176 ls []) := by
      intro q1_ g L H locs ls q1_l q1_h h hP hD hS hl
      unfold fX6_readLesson_5_p176 at h
      refine lv_aload_n hx hb dX6_readLesson_176 rfl (lv_at hl 1 rfl) ?_
      refine lv_aload_n hx hb dX6_readLesson_177 rfl (lv_at hl 0 rfl) ?_
      refine y_ldcS (i := 6) C (by decide) rfl dX6_readLesson_178 ?_
      refine lv_bipush (v := 99) hx hb dX6_readLesson_180 (by decide) ?_
      refine lv_bipush (v := 99) hx hb dX6_readLesson_182 (by decide) ?_
      obtain ⟨z_, g46, L47, hf48, h⟩ := cb_some h
      refine x_callVi (rest := [.ref (a q1_)]) li_X6_183 C (rX6_readOption_5_limit l G H.size a fu g L 99 99 z_ (g46, L47) hf48) (kR rfl) hP hD hS 5 6 rfl (zat (by decide) xs_5) rfl hl.1 rfl (Nat.le_of_ble_eq_true rfl) dX6_readLesson_184 (fun x45 u_ H locs e_ hP hD hS => ?_)
      have e_ : x45 = z_ := e_
      subst e_
      have hP : va_P G.1 vwCl (zw G (XS 2) 105 a g46 L47) H := hP
      have hD : va_D A (zw G (XS 2) 105 a g46 L47) := hD
      refine y_puti (Or.inr fl_X6_187) ft_X5_11 C hP hD hS (by omega) (xs_les (by omega) (by omega)) rfl rfl rfl dX6_readLesson_187 h (fun g49 H locs h hP hD hS => ?_)
      refine lv_aload_n hx hb dX6_readLesson_190 rfl (lv_at hl 1 rfl) ?_
      refine lv_aload_n hx hb dX6_readLesson_191 rfl (lv_at hl 0 rfl) ?_
      refine y_ldcS (i := 7) C (by decide) rfl dX6_readLesson_192 ?_
      refine lv_bipush (v := 10) hx hb dX6_readLesson_194 (by decide) ?_
      refine lv_bipush (v := 10) hx hb dX6_readLesson_196 (by decide) ?_
      obtain ⟨z_, g51, L52, hf53, h⟩ := cb_some h
      refine x_callVi (rest := [.ref (a q1_)]) li_X6_183 C (rX6_readOption_5_maybe l G H.size a fu g49 L47 10 10 z_ (g51, L52) hf53) (kR rfl) hP hD hS 5 6 rfl (zat (by decide) xs_5) rfl hl.1 rfl (Nat.le_of_ble_eq_true rfl) dX6_readLesson_198 (fun x50 u_ H locs e_ hP hD hS => ?_)
      have e_ : x50 = z_ := e_
      subst e_
      have hP : va_P G.1 vwCl (zw G (XS 2) 105 a g51 L52) H := hP
      have hD : va_D A (zw G (XS 2) 105 a g51 L52) := hD
      refine y_puti (Or.inr fl_X6_191) ft_X5_12 C hP hD hS (by omega) (xs_les (by omega) (by omega)) rfl rfl rfl dX6_readLesson_201 h (fun g54 H locs h hP hD hS => ?_)
      refine lv_aload_n hx hb dX6_readLesson_204 rfl (lv_at hl 1 rfl) ?_
      refine lv_aload_n hx hb dX6_readLesson_205 rfl (lv_at hl 0 rfl) ?_
      refine y_ldcS (i := 8) C (by decide) rfl dX6_readLesson_206 ?_
      refine lv_bipush (v := 30) hx hb dX6_readLesson_208 (by decide) ?_
      refine lv_iconst (v := 0) hx hb dX6_readLesson_210 (by decide) ?_
      obtain ⟨z_, g56, L57, hf58, h⟩ := cb_some h
      refine x_callVi (rest := [.ref (a q1_)]) li_X6_183 C (rX6_readOption_5_gap l G H.size a fu g54 L52 30 0 z_ (g56, L57) hf58) (kR rfl) hP hD hS 5 6 rfl (zat (by decide) xs_5) rfl hl.1 rfl (Nat.le_of_ble_eq_true rfl) dX6_readLesson_211 (fun x55 u_ H locs e_ hP hD hS => ?_)
      have e_ : x55 = z_ := e_
      subst e_
      have hP : va_P G.1 vwCl (zw G (XS 2) 105 a g56 L57) H := hP
      have hD : va_D A (zw G (XS 2) 105 a g56 L57) := hD
      refine y_puti (Or.inr fl_X6_195) ft_X5_13 C hP hD hS (by omega) (xs_les (by omega) (by omega)) rfl rfl rfl dX6_readLesson_214 h (fun g59 H locs h hP hD hS => ?_)
      refine lv_aload_n hx hb dX6_readLesson_217 rfl (lv_at hl 0 rfl) ?_
      refine x_getr (Or.inl fl_X6_15) C hP (by decide) xs_5 rfl dX6_readLesson_218 ?_
      refine lv_dup hx hb dX6_readLesson_221 rfl ?_
      refine x_getv (v := .int (g59 2 2)) (Or.inr fl_X6_140) C hP (by decide) xs_2 rfl dX6_readLesson_222 ?_
      refine lv_iconst (v := 1) hx hb dX6_readLesson_225 (by decide) ?_
      refine lv_iadd hx hb dX6_readLesson_226 ?_
      refine y_puti (Or.inr fl_X6_140) ft_X7_2 C hP hD hS (by decide) xs_2 rfl rfl rfl dX6_readLesson_227 h (fun g60 H locs h hP hD hS => ?_)
      exact y_vret C hr hlk hP hD hS h (Nat.le_of_ble_eq_true rfl) (Nat.le_of_ble_eq_true rfl) dX6_readLesson_230
    refine lv_if_eq (x := x41) (tgt := 142) hx hb dX6_readLesson_122 (by decide) (fun c61 => ?_) (fun c61 => ?_)
    ·
      have h := ite_t c61 h
      refine lv_aload_n hx hb dX6_readLesson_142 rfl (lv_at hl 1 rfl) ?_
      refine y_ldcS (i := 5) C (by decide) rfl dX6_readLesson_143 ?_
      obtain ⟨z_, g63, L64, hf65, h⟩ := cb_some h
      refine x_callVi (rest := []) li_X6_92 C (rX6_isWord_5_some l G H.size a fu g42 L43 z_ (g63, L64) hf65) (kR rfl) hP hD hS 5 6 rfl (zat (by decide) xs_5) rfl hl.1 rfl (Nat.le_of_ble_eq_true rfl) dX6_readLesson_145 (fun x62 u_ H locs e_ hP hD hS => ?_)
      have e_ : x62 = z_ := e_
      subst e_
      have hP : va_P G.1 vwCl (zw G (XS 2) 105 a g63 L64) H := hP
      have hD : va_D A (zw G (XS 2) 105 a g63 L64) := hD
      refine lv_if_eq (x := x62) (tgt := 176) hx hb dX6_readLesson_148 (by decide) (fun c66 => ?_) (fun c66 => ?_)
      ·
        have h := ite_t c66 h
        exact J176 q2 g63 L64 H locs ls (by omega) (by omega) h hP hD hS (lv_sub hl [1, 0] rfl)
      ·
        have h := ite_e c66 h
        refine lv_aload_n hx hb dX6_readLesson_151 rfl (lv_at hl 1 rfl) ?_
        obtain ⟨z_, g68, L69, hf70, h⟩ := cb_some h
        refine x_callVv (rest := []) li_X6_53 C (rX6_advance_5 l G H.size a fu g63 L64 z_ (g68, L69) hf70) (kR rfl) hP hD hS 5 6 rfl (zat (by decide) xs_5) rfl hl.1 rfl (Nat.le_of_ble_eq_true rfl) dX6_readLesson_152 (fun u_ H locs e_ hP hD hS => ?_)
        have hP : va_P G.1 vwCl (zw G (XS 2) 105 a g68 L69) H := hP
        have hD : va_D A (zw G (XS 2) 105 a g68 L69) := hD
        refine lv_aload_n hx hb dX6_readLesson_155 rfl (lv_at hl 0 rfl) ?_
        refine lv_iconst (v := 1) hx hb dX6_readLesson_156 (by decide) ?_
        refine y_puti (Or.inr fl_X6_170) ft_X5_9 C hP hD hS (by omega) (xs_les (by omega) (by omega)) rfl rfl rfl dX6_readLesson_157 h (fun g71 H locs h hP hD hS => ?_)
        refine lv_aload_n hx hb dX6_readLesson_160 rfl (lv_at hl 0 rfl) ?_
        refine lv_aload_n hx hb dX6_readLesson_161 rfl (lv_at hl 1 rfl) ?_
        refine lv_iconst (v := 1) hx hb dX6_readLesson_162 (by decide) ?_
        refine lv_bipush (v := 6) hx hb dX6_readLesson_163 (by decide) ?_
        obtain ⟨z_, g73, L74, hf75, h⟩ := cb_some h
        refine x_callVi (rest := [.ref (a q2)]) li_X6_118 C (rX6_readNumber_5 l G H.size a fu g71 L69 1 6 z_ (g73, L74) hf75) (kR rfl) hP hD hS 5 6 rfl (zat (by decide) xs_5) rfl hl.1 rfl (Nat.le_of_ble_eq_true rfl) dX6_readLesson_165 (fun x72 u_ H locs e_ hP hD hS => ?_)
        have e_ : x72 = z_ := e_
        subst e_
        have hP : va_P G.1 vwCl (zw G (XS 2) 105 a g73 L74) H := hP
        have hD : va_D A (zw G (XS 2) 105 a g73 L74) := hD
        refine y_puti (Or.inr fl_X6_179) ft_X5_10 C hP hD hS (by omega) (xs_les (by omega) (by omega)) rfl rfl rfl dX6_readLesson_168 h (fun g76 H locs h hP hD hS => ?_)
        refine lv_aload_n hx hb dX6_readLesson_171 rfl (lv_at hl 1 rfl) ?_
        refine lv_aload_n hx hb dX6_readLesson_172 rfl (lv_at hl 0 rfl) ?_
        obtain ⟨z_, g78, L79, hf80, h⟩ := cb_some h
        refine x_callVv (rest := []) li_X6_173 C (rX6_readWaited_5_les l G H.size a fu g76 L74 q2 (by omega) (by omega) z_ (g78, L79) hf80) (kR rfl) hP hD hS 5 6 rfl (zat (by decide) xs_5) rfl hl.1 rfl (Nat.le_of_ble_eq_true rfl) dX6_readLesson_173 (fun u_ H locs e_ hP hD hS => ?_)
        have hP : va_P G.1 vwCl (zw G (XS 2) 105 a g78 L79) H := hP
        have hD : va_D A (zw G (XS 2) 105 a g78 L79) := hD
        exact J176 q2 g78 L79 H locs ls (by omega) (by omega) h hP hD hS (lv_sub hl [1, 0] rfl)
    ·
      have h := ite_e c61 h
      refine lv_aload_n hx hb dX6_readLesson_125 rfl (lv_at hl 1 rfl) ?_
      obtain ⟨z_, g82, L83, hf84, h⟩ := cb_some h
      refine x_callVv (rest := []) li_X6_53 C (rX6_advance_5 l G H.size a fu g42 L43 z_ (g82, L83) hf84) (kR rfl) hP hD hS 5 6 rfl (zat (by decide) xs_5) rfl hl.1 rfl (Nat.le_of_ble_eq_true rfl) dX6_readLesson_126 (fun u_ H locs e_ hP hD hS => ?_)
      have hP : va_P G.1 vwCl (zw G (XS 2) 105 a g82 L83) H := hP
      have hD : va_D A (zw G (XS 2) 105 a g82 L83) := hD
      refine lv_aload_n hx hb dX6_readLesson_129 rfl (lv_at hl 0 rfl) ?_
      refine lv_iconst (v := 0) hx hb dX6_readLesson_130 (by decide) ?_
      refine y_puti (Or.inr fl_X6_170) ft_X5_9 C hP hD hS (by omega) (xs_les (by omega) (by omega)) rfl rfl rfl dX6_readLesson_131 h (fun g85 H locs h hP hD hS => ?_)
      refine lv_aload_n hx hb dX6_readLesson_134 rfl (lv_at hl 1 rfl) ?_
      refine lv_aload_n hx hb dX6_readLesson_135 rfl (lv_at hl 0 rfl) ?_
      obtain ⟨z_, g87, L88, hf89, h⟩ := cb_some h
      refine x_callVv (rest := []) li_X6_173 C (rX6_readWaited_5_les l G H.size a fu g85 L83 q2 (by omega) (by omega) z_ (g87, L88) hf89) (kR rfl) hP hD hS 5 6 rfl (zat (by decide) xs_5) rfl hl.1 rfl (Nat.le_of_ble_eq_true rfl) dX6_readLesson_136 (fun u_ H locs e_ hP hD hS => ?_)
      have hP : va_P G.1 vwCl (zw G (XS 2) 105 a g87 L88) H := hP
      have hD : va_D A (zw G (XS 2) 105 a g87 L88) := hD
      refine lv_goto (tgt := 176) hx hb dX6_readLesson_139 (by decide) ?_
      exact J176 q2 g87 L88 H locs ls (by omega) (by omega) h hP hD hS (lv_sub hl [1, 0] rfl)
  ·
    have h := ite_e c1 h
    refine lv_aload_n hx hb dX6_readLesson_12 rfl (lv_at hl 0 rfl) ?_
    refine lv_iconst (v := 2) hx hb dX6_readLesson_13 (by decide) ?_
    obtain ⟨z_, g91, L92, hf93, h⟩ := cb_some h
    refine x_callVv (rest := []) li_X6_78 C (rX6_refuse_5 l G H.size a fu g L 2 z_ (g91, L92) hf93) (kR rfl) hP hD hS 5 6 rfl (zat (by decide) xs_5) rfl hl.1 rfl (Nat.le_of_ble_eq_true rfl) dX6_readLesson_14 (fun u_ H locs e_ hP hD hS => ?_)
    have hP : va_P G.1 vwCl (zw G (XS 2) 105 a g91 L92) H := hP
    have hD : va_D A (zw G (XS 2) 105 a g91 L92) := hD
    exact y_vret C hr hlk hP hD hS h (Nat.le_of_ble_eq_true rfl) (Nat.le_of_ble_eq_true rfl) dX6_readLesson_17
def fX6_isWord_5_walk_p24 (fu : Nat) (g : Nat → Nat → Int32) (L : Nat → Nat → Int64) : Option ((Int32) × zS) :=
  ckb 0 (some (0, (g, L)))
def fX6_isWord_5_walk_s28 (fu : Nat) (k28 : Int32 × (Nat → Nat → Int32) × (Nat → Nat → Int64) → Option ((Int32) × zS)) (v2 : Int32) (g : Nat → Nat → Int32) (L : Nat → Nat → Int64) : Option ((Int32) × zS) :=
  if 4 ≤ (v2 : Int32) then ckb 1 (some (1, (g, L)))
  else ck ((g 5 5) + v2) 700 (
  ck v2 4 (
  if (g 14 (Int32.toNatClampNeg ((g 5 5) + v2))) = (sch 1 (Int32.toNatClampNeg v2)) then k28 ((v2 + 1), g, L)
  else ckb 0 (some (0, (g, L)))))
def fX6_isWord_5_walk_l28 (fu : Nat) (v2 : Int32) (g : Nat → Nat → Int32) (L : Nat → Nat → Int64) : Option ((Int32) × zS) :=
  whileK (fun k v => fX6_isWord_5_walk_s28 fu k v.1 v.2.1 v.2.2) fu (v2, g, L)
def fX6_isWord_5_walk (fu : Nat) (g : Nat → Nat → Int32) (L : Nat → Nat → Int64) : Option ((Int32) × zS) :=
  if (g 5 4) = 2 then (if ((g 5 3) - (g 5 5)) = 4 then fX6_isWord_5_walk_l28 fu 0 g L
  else fX6_isWord_5_walk_p24 fu g L)
  else fX6_isWord_5_walk_p24 fu g L
set_option maxHeartbeats 4000000 in
set_option maxRecDepth 100000 in
theorem rX6_isWord_5_walk (l : Launch) (G : kG) (sz : Nat) (a : Nat → Nat) (fu : Nat) (g : Nat → Nat → Int32) (L : Nat → Nat → Int64) (res : Int32) (s9 : zS) (h : fX6_isWord_5_walk fu g L = some (res, s9)) : kM l yX6_isWord cX6_isWord 3 (some .boolean) { frames := 10, cells := 0, slots := 0, locals := 195 } G [.ref (a 5), .ref (G.2.2.2.2.2.1 1)] (zw G (XS 2) 105 a g L) sz (kQi G (S := Unit) (fun r' _ => r' = res) (fun _ => zw G (XS 2) 105 a s9.1 s9.2)) := by
  refine kM.of (by decide) (Nat.le_of_ble_eq_true rfl) ?_
  intro p e s m below meth c A ls H C hr hlk hnm hP hD hS hl
  have C : kC G p s m c cX6_isWord 3 RX6 A := C
  have hx := C.1
  have hb := C.2.1
  have hl : lv_has ls 3 [(0, .ref (a 5)), (1, .ref (G.2.2.2.2.2.1 1))] := hl
  obtain ⟨locs, hlocs⟩ : ∃ q : List Loc, q = [] := ⟨_, rfl⟩
  rw [← hlocs] at hS
  rw [← hlocs]
  unfold fX6_isWord_5_walk at h
  refine lv_aload_n hx hb dX6_isWord_0 rfl (lv_at hl 0 rfl) ?_
  refine x_getv (v := .int (g 5 4)) (Or.inl fl_X6_50) C hP (by decide) xs_5 rfl dX6_isWord_1 ?_
  refine lv_iconst (v := 2) hx hb dX6_isWord_4 (by decide) ?_
  have J24 : ∀ (g : Nat → Nat → Int32) (L : Nat → Nat → Int64) (H : Heap) (locs : List Loc) (ls : Array Slot), fX6_isWord_5_walk_p24 fu g L = some (res, s9) → va_P G.1 vwCl (zw G (XS 2) 105 a g L) H → va_D A (zw G (XS 2) 105 a g L) → va_S A s.heap H locs → lv_has ls 3 [] → W p l e { frames := 10, cells := 0, slots := 0, locals := 195 } s m [.ref (a 5), .ref (G.2.2.2.2.2.1 1)].toArray below meth c H locs 0 0 (MQ below ((kQi G (S := Unit) (fun r' _ => r' = res) (fun _ => zw G (XS 2) 105 a s9.1 s9.2)) A) [.ref (a 5), .ref (G.2.2.2.2.2.1 1)].toArray s 0 0 A) (F0 m 24 ls []) := by
    intro g L H locs ls h hP hD hS hl
    unfold fX6_isWord_5_walk_p24 at h
    refine lv_iconst (v := 0) hx hb dX6_isWord_24 (by decide) ?_
    exact y_zret C hr hlk hP hD hS h (Nat.le_of_ble_eq_true rfl) (Nat.le_of_ble_eq_true rfl) dX6_isWord_25
  refine lv_icmp_ne (x := (g 5 4)) (y := 2) (tgt := 24) hx hb dX6_isWord_5 (by decide) (fun c1 => ?_) (fun c1 => ?_)
  ·
    have h := ite_e c1 h
    exact J24 g L H locs ls h hP hD hS (lv_sub hl [] rfl)
  ·
    have h := ite_t c1 h
    refine lv_aload_n hx hb dX6_isWord_8 rfl (lv_at hl 0 rfl) ?_
    refine x_getv (v := .int (g 5 3)) (Or.inl fl_X6_34) C hP (by decide) xs_5 rfl dX6_isWord_9 ?_
    refine lv_aload_n hx hb dX6_isWord_12 rfl (lv_at hl 0 rfl) ?_
    refine x_getv (v := .int (g 5 5)) (Or.inl fl_X6_59) C hP (by decide) xs_5 rfl dX6_isWord_13 ?_
    refine lv_isub hx hb dX6_isWord_16 ?_
    refine lv_aload_n hx hb dX6_isWord_17 rfl (lv_at hl 1 rfl) ?_
    refine y_slen (v := 4) C (by decide) (by decide) hP hD hS (kR rfl) hl.1 (Nat.le_of_ble_eq_true rfl) dX6_isWord_18 (fun H locs hP hD hS => ?_)
    refine lv_icmp_eq (x := ((g 5 3) - (g 5 5))) (y := 4) (tgt := 26) hx hb dX6_isWord_21 (by decide) (fun c2 => ?_) (fun c2 => ?_)
    ·
      have h := ite_t c2 h
      refine lv_iconst (v := 0) hx hb dX6_isWord_26 (by decide) ?_
      refine lv_istore_n (lv' := [(2, .int 0), (0, .ref (a 5)), (1, .ref (G.2.2.2.2.2.1 1))]) hx hb dX6_isWord_27 rfl hl (by decide) rfl (fun ls hl => ?_)
      have lp28 : ∀ (_ : True), ∀ (n : Nat) (v : Int32 × (Nat → Nat → Int32) × (Nat → Nat → Int64)), whileK (fun k v => fX6_isWord_5_walk_s28 fu k v.1 v.2.1 v.2.2) n v = some (res, s9) → ∀ (H : Heap) (locs : List Loc) (ls : Array Slot), va_P G.1 vwCl (zw G (XS 2) 105 a (v.2.1) (v.2.2)) H → va_D A (zw G (XS 2) 105 a (v.2.1) (v.2.2)) → va_S A s.heap H locs → lv_has ls 3 [(0, .ref (a 5)), (1, .ref (G.2.2.2.2.2.1 1)), (2, .int (v.1))] → W p l e { frames := 10, cells := 0, slots := 0, locals := 195 } s m [.ref (a 5), .ref (G.2.2.2.2.2.1 1)].toArray below meth c H locs 0 0 (MQ below ((kQi G (S := Unit) (fun r' _ => r' = res) (fun _ => zw G (XS 2) 105 a s9.1 s9.2)) A) [.ref (a 5), .ref (G.2.2.2.2.2.1 1)].toArray s 0 0 A) (F0 m 28 ls []) := by
        intro _
        refine while_ind (fun k28 ih28 v h => ?_)
        obtain ⟨v2, g, L⟩ := v
        intro H locs ls hP hD hS hl
        have h : fX6_isWord_5_walk_s28 fu k28 v2 g L = some (res, s9) := h
        have hP : va_P G.1 vwCl (zw G (XS 2) 105 a g L) H := hP
        have hD : va_D A (zw G (XS 2) 105 a g L) := hD
        have hl : lv_has ls 3 [(0, .ref (a 5)), (1, .ref (G.2.2.2.2.2.1 1)), (2, .int v2)] := hl
        show W p l e { frames := 10, cells := 0, slots := 0, locals := 195 } s m [.ref (a 5), .ref (G.2.2.2.2.2.1 1)].toArray below meth c H locs 0 0 (MQ below ((kQi G (S := Unit) (fun r' _ => r' = res) (fun _ => zw G (XS 2) 105 a s9.1 s9.2)) A) [.ref (a 5), .ref (G.2.2.2.2.2.1 1)].toArray s 0 0 A) (F0 m 28 ls [])
        unfold fX6_isWord_5_walk_s28 at h
        refine lv_iload_n hx hb dX6_isWord_28 rfl (lv_at hl 2 rfl) ?_
        refine lv_aload_n hx hb dX6_isWord_29 rfl (lv_at hl 1 rfl) ?_
        refine y_slen (v := 4) C (by decide) (by decide) hP hD hS (kR rfl) hl.1 (Nat.le_of_ble_eq_true rfl) dX6_isWord_30 (fun H locs hP hD hS => ?_)
        refine lv_icmp_ge (x := v2) (y := 4) (tgt := 63) hx hb dX6_isWord_33 (by decide) (fun c3 => ?_) (fun c3 => ?_)
        ·
          have h := ite_t c3 h
          refine lv_iconst (v := 1) hx hb dX6_isWord_63 (by decide) ?_
          exact y_zret C hr hlk hP hD hS h (Nat.le_of_ble_eq_true rfl) (Nat.le_of_ble_eq_true rfl) dX6_isWord_64
        ·
          have h := ite_e c3 h
          refine lv_aload_n hx hb dX6_isWord_36 rfl (lv_at hl 0 rfl) ?_
          refine x_getr (Or.inl fl_X6_9) C hP (by decide) xs_5 rfl dX6_isWord_37 ?_
          refine lv_aload_n hx hb dX6_isWord_40 rfl (lv_at hl 0 rfl) ?_
          refine x_getv (v := .int (g 5 5)) (Or.inl fl_X6_59) C hP (by decide) xs_5 rfl dX6_isWord_41 ?_
          refine lv_iload_n hx hb dX6_isWord_44 rfl (lv_at hl 2 rfl) ?_
          refine lv_iadd hx hb dX6_isWord_45 ?_
          refine y_ald C hP (by decide) xs_14 dX6_isWord_46 h (fun h => ?_)
          refine lv_aload_n hx hb dX6_isWord_47 rfl (lv_at hl 1 rfl) ?_
          refine lv_iload_n hx hb dX6_isWord_48 rfl (lv_at hl 2 rfl) ?_
          refine y_schr (N := 4) C (by decide) (by decide) hP hD hS (kR rfl) hl.1 (Nat.le_of_ble_eq_true rfl) dX6_isWord_49 h (fun H locs h hP hD hS => ?_)
          refine lv_icmp_eq (x := (g 14 (Int32.toNatClampNeg ((g 5 5) + v2)))) (y := (sch 1 (Int32.toNatClampNeg v2))) (tgt := 57) hx hb dX6_isWord_52 (by decide) (fun c4 => ?_) (fun c4 => ?_)
          ·
            have h := ite_t c4 h
            refine lv_iinc (v := (v2 + 1)) (lv' := [(2, .int (v2 + 1)), (0, .ref (a 5)), (1, .ref (G.2.2.2.2.2.1 1))]) hx hb dX6_isWord_57 hl (k := 2) rfl rfl (by decide) rfl (fun ls hl => ?_)
            refine lv_goto (tgt := 28) hx hb dX6_isWord_60 (by decide) ?_
            exact ih28 ((v2 + 1), g, L) h H locs ls hP hD hS (lv_sub hl [1, 2, 0] rfl)
          ·
            have h := ite_e c4 h
            refine lv_iconst (v := 0) hx hb dX6_isWord_55 (by decide) ?_
            exact y_zret C hr hlk hP hD hS h (Nat.le_of_ble_eq_true rfl) (Nat.le_of_ble_eq_true rfl) dX6_isWord_56
      exact lp28 trivial fu (0, g, L) h H locs ls hP hD hS (lv_sub hl [1, 2, 0] rfl)
    ·
      have h := ite_e c2 h
      exact J24 g L H locs ls h hP hD hS (lv_sub hl [] rfl)
def fX6_readWalk_5_p12 (fu : Nat) (g : Nat → Nat → Int32) (L : Nat → Nat → Int64) : Option ((Unit) × zS) :=
  sti g 5 9 1 (fun g1 =>
  cb (fX6_advance_5 fu g1 L) (fun x2 g3 L4 =>
  cb (fX6_readNumber_5 fu 0 9 g3 L4) (fun x6 g7 L8 =>
  sti g7 2 3 x6 (fun g10 =>
  some ((), (g10, L8))))))
def fX6_readWalk_5 (fu : Nat) (g : Nat → Nat → Int32) (L : Nat → Nat → Int64) : Option ((Unit) × zS) :=
  if (g 5 9) = 0 then fX6_readWalk_5_p12 fu g L
  else cb (fX6_refuse_5 fu 5 g L) (fun x12 g13 L14 =>
  fX6_readWalk_5_p12 fu g13 L14)
set_option maxHeartbeats 4000000 in
set_option maxRecDepth 100000 in
theorem rX6_readWalk_5 (l : Launch) (G : kG) (sz : Nat) (a : Nat → Nat) (fu : Nat) (g : Nat → Nat → Int32) (L : Nat → Nat → Int64) (res : Unit) (s9 : zS) (h : fX6_readWalk_5 fu g L = some (res, s9)) : kM l yX6_readWalk cX6_readWalk 1 none { frames := 9, cells := 0, slots := 0, locals := 173 } G [.ref (a 5)] (zw G (XS 2) 105 a g L) sz (kQv G (S := Unit) (fun _ => True) (fun _ => zw G (XS 2) 105 a s9.1 s9.2)) := by
  refine kM.of (by decide) (Nat.le_of_ble_eq_true rfl) ?_
  intro p e s m below meth c A ls H C hr hlk hnm hP hD hS hl
  have C : kC G p s m c cX6_readWalk 1 RX6 A := C
  have hx := C.1
  have hb := C.2.1
  have hl : lv_has ls 1 [(0, .ref (a 5))] := hl
  obtain ⟨locs, hlocs⟩ : ∃ q : List Loc, q = [] := ⟨_, rfl⟩
  rw [← hlocs] at hS
  rw [← hlocs]
  unfold fX6_readWalk_5 at h
  refine lv_aload_n hx hb dX6_readWalk_0 rfl (lv_at hl 0 rfl) ?_
  refine x_getv (v := .int (g 5 9)) (Or.inl fl_X6_43) C hP (by decide) xs_5 rfl dX6_readWalk_1 ?_
  have J12 : ∀ (g : Nat → Nat → Int32) (L : Nat → Nat → Int64) (H : Heap) (locs : List Loc) (ls : Array Slot), fX6_readWalk_5_p12 fu g L = some (res, s9) → va_P G.1 vwCl (zw G (XS 2) 105 a g L) H → va_D A (zw G (XS 2) 105 a g L) → va_S A s.heap H locs → lv_has ls 1 [(0, .ref (a 5))] → W p l e { frames := 9, cells := 0, slots := 0, locals := 173 } s m [.ref (a 5)].toArray below meth c H locs 0 0 (MQ below ((kQv G (S := Unit) (fun _ => True) (fun _ => zw G (XS 2) 105 a s9.1 s9.2)) A) [.ref (a 5)].toArray s 0 0 A) (F0 m 12 ls []) := by
    intro g L H locs ls h hP hD hS hl
    unfold fX6_readWalk_5_p12 at h
    refine lv_aload_n hx hb dX6_readWalk_12 rfl (lv_at hl 0 rfl) ?_
    refine lv_iconst (v := 1) hx hb dX6_readWalk_13 (by decide) ?_
    refine y_puti (Or.inl fl_X6_43) ft_X6_9 C hP hD hS (by decide) xs_5 rfl rfl rfl dX6_readWalk_14 h (fun g1 H locs h hP hD hS => ?_)
    refine lv_aload_n hx hb dX6_readWalk_17 rfl (lv_at hl 0 rfl) ?_
    obtain ⟨z_, g3, L4, hf5, h⟩ := cb_some h
    refine x_callVv (rest := []) li_X6_53 C (rX6_advance_5 l G H.size a fu g1 L z_ (g3, L4) hf5) (kR rfl) hP hD hS 5 6 rfl (zat (by decide) xs_5) rfl hl.1 rfl (Nat.le_of_ble_eq_true rfl) dX6_readWalk_18 (fun u_ H locs e_ hP hD hS => ?_)
    have hP : va_P G.1 vwCl (zw G (XS 2) 105 a g3 L4) H := hP
    have hD : va_D A (zw G (XS 2) 105 a g3 L4) := hD
    refine lv_aload_n hx hb dX6_readWalk_21 rfl (lv_at hl 0 rfl) ?_
    refine x_getr (Or.inl fl_X6_15) C hP (by decide) xs_5 rfl dX6_readWalk_22 ?_
    refine lv_aload_n hx hb dX6_readWalk_25 rfl (lv_at hl 0 rfl) ?_
    refine lv_iconst (v := 0) hx hb dX6_readWalk_26 (by decide) ?_
    refine lv_bipush (v := 9) hx hb dX6_readWalk_27 (by decide) ?_
    obtain ⟨z_, g7, L8, hf9, h⟩ := cb_some h
    refine x_callVi (rest := [.ref (a 2)]) li_X6_118 C (rX6_readNumber_5 l G H.size a fu g3 L4 0 9 z_ (g7, L8) hf9) (kR rfl) hP hD hS 5 6 rfl (zat (by decide) xs_5) rfl hl.1 rfl (Nat.le_of_ble_eq_true rfl) dX6_readWalk_29 (fun x6 u_ H locs e_ hP hD hS => ?_)
    have e_ : x6 = z_ := e_
    subst e_
    have hP : va_P G.1 vwCl (zw G (XS 2) 105 a g7 L8) H := hP
    have hD : va_D A (zw G (XS 2) 105 a g7 L8) := hD
    refine y_puti (Or.inr fl_X6_121) ft_X7_3 C hP hD hS (by decide) xs_2 rfl rfl rfl dX6_readWalk_32 h (fun g10 H locs h hP hD hS => ?_)
    exact y_vret C hr hlk hP hD hS h (Nat.le_of_ble_eq_true rfl) (Nat.le_of_ble_eq_true rfl) dX6_readWalk_35
  refine lv_if_eq (x := (g 5 9)) (tgt := 12) hx hb dX6_readWalk_4 (by decide) (fun c11 => ?_) (fun c11 => ?_)
  ·
    have h := ite_t c11 h
    exact J12 g L H locs ls h hP hD hS (lv_sub hl [0] rfl)
  ·
    have h := ite_e c11 h
    refine lv_aload_n hx hb dX6_readWalk_7 rfl (lv_at hl 0 rfl) ?_
    refine lv_iconst (v := 5) hx hb dX6_readWalk_8 (by decide) ?_
    obtain ⟨z_, g13, L14, hf15, h⟩ := cb_some h
    refine x_callVv (rest := []) li_X6_78 C (rX6_refuse_5 l G H.size a fu g L 5 z_ (g13, L14) hf15) (kR rfl) hP hD hS 5 6 rfl (zat (by decide) xs_5) rfl hl.1 rfl (Nat.le_of_ble_eq_true rfl) dX6_readWalk_9 (fun u_ H locs e_ hP hD hS => ?_)
    have hP : va_P G.1 vwCl (zw G (XS 2) 105 a g13 L14) H := hP
    have hD : va_D A (zw G (XS 2) 105 a g13 L14) := hD
    exact J12 g13 L14 H locs ls h hP hD hS (lv_sub hl [0] rfl)
def fX6_isWord_5_stair_p24 (fu : Nat) (g : Nat → Nat → Int32) (L : Nat → Nat → Int64) : Option ((Int32) × zS) :=
  ckb 0 (some (0, (g, L)))
def fX6_isWord_5_stair_s28 (fu : Nat) (k28 : Int32 × (Nat → Nat → Int32) × (Nat → Nat → Int64) → Option ((Int32) × zS)) (v2 : Int32) (g : Nat → Nat → Int32) (L : Nat → Nat → Int64) : Option ((Int32) × zS) :=
  if 5 ≤ (v2 : Int32) then ckb 1 (some (1, (g, L)))
  else ck ((g 5 5) + v2) 700 (
  ck v2 5 (
  if (g 14 (Int32.toNatClampNeg ((g 5 5) + v2))) = (sch 2 (Int32.toNatClampNeg v2)) then k28 ((v2 + 1), g, L)
  else ckb 0 (some (0, (g, L)))))
def fX6_isWord_5_stair_l28 (fu : Nat) (v2 : Int32) (g : Nat → Nat → Int32) (L : Nat → Nat → Int64) : Option ((Int32) × zS) :=
  whileK (fun k v => fX6_isWord_5_stair_s28 fu k v.1 v.2.1 v.2.2) fu (v2, g, L)
def fX6_isWord_5_stair (fu : Nat) (g : Nat → Nat → Int32) (L : Nat → Nat → Int64) : Option ((Int32) × zS) :=
  if (g 5 4) = 2 then (if ((g 5 3) - (g 5 5)) = 5 then fX6_isWord_5_stair_l28 fu 0 g L
  else fX6_isWord_5_stair_p24 fu g L)
  else fX6_isWord_5_stair_p24 fu g L
set_option maxHeartbeats 4000000 in
set_option maxRecDepth 100000 in
theorem rX6_isWord_5_stair (l : Launch) (G : kG) (sz : Nat) (a : Nat → Nat) (fu : Nat) (g : Nat → Nat → Int32) (L : Nat → Nat → Int64) (res : Int32) (s9 : zS) (h : fX6_isWord_5_stair fu g L = some (res, s9)) : kM l yX6_isWord cX6_isWord 3 (some .boolean) { frames := 10, cells := 0, slots := 0, locals := 195 } G [.ref (a 5), .ref (G.2.2.2.2.2.1 2)] (zw G (XS 2) 105 a g L) sz (kQi G (S := Unit) (fun r' _ => r' = res) (fun _ => zw G (XS 2) 105 a s9.1 s9.2)) := by
  refine kM.of (by decide) (Nat.le_of_ble_eq_true rfl) ?_
  intro p e s m below meth c A ls H C hr hlk hnm hP hD hS hl
  have C : kC G p s m c cX6_isWord 3 RX6 A := C
  have hx := C.1
  have hb := C.2.1
  have hl : lv_has ls 3 [(0, .ref (a 5)), (1, .ref (G.2.2.2.2.2.1 2))] := hl
  obtain ⟨locs, hlocs⟩ : ∃ q : List Loc, q = [] := ⟨_, rfl⟩
  rw [← hlocs] at hS
  rw [← hlocs]
  unfold fX6_isWord_5_stair at h
  refine lv_aload_n hx hb dX6_isWord_0 rfl (lv_at hl 0 rfl) ?_
  refine x_getv (v := .int (g 5 4)) (Or.inl fl_X6_50) C hP (by decide) xs_5 rfl dX6_isWord_1 ?_
  refine lv_iconst (v := 2) hx hb dX6_isWord_4 (by decide) ?_
  have J24 : ∀ (g : Nat → Nat → Int32) (L : Nat → Nat → Int64) (H : Heap) (locs : List Loc) (ls : Array Slot), fX6_isWord_5_stair_p24 fu g L = some (res, s9) → va_P G.1 vwCl (zw G (XS 2) 105 a g L) H → va_D A (zw G (XS 2) 105 a g L) → va_S A s.heap H locs → lv_has ls 3 [] → W p l e { frames := 10, cells := 0, slots := 0, locals := 195 } s m [.ref (a 5), .ref (G.2.2.2.2.2.1 2)].toArray below meth c H locs 0 0 (MQ below ((kQi G (S := Unit) (fun r' _ => r' = res) (fun _ => zw G (XS 2) 105 a s9.1 s9.2)) A) [.ref (a 5), .ref (G.2.2.2.2.2.1 2)].toArray s 0 0 A) (F0 m 24 ls []) := by
    intro g L H locs ls h hP hD hS hl
    unfold fX6_isWord_5_stair_p24 at h
    refine lv_iconst (v := 0) hx hb dX6_isWord_24 (by decide) ?_
    exact y_zret C hr hlk hP hD hS h (Nat.le_of_ble_eq_true rfl) (Nat.le_of_ble_eq_true rfl) dX6_isWord_25
  refine lv_icmp_ne (x := (g 5 4)) (y := 2) (tgt := 24) hx hb dX6_isWord_5 (by decide) (fun c1 => ?_) (fun c1 => ?_)
  ·
    have h := ite_e c1 h
    exact J24 g L H locs ls h hP hD hS (lv_sub hl [] rfl)
  ·
    have h := ite_t c1 h
    refine lv_aload_n hx hb dX6_isWord_8 rfl (lv_at hl 0 rfl) ?_
    refine x_getv (v := .int (g 5 3)) (Or.inl fl_X6_34) C hP (by decide) xs_5 rfl dX6_isWord_9 ?_
    refine lv_aload_n hx hb dX6_isWord_12 rfl (lv_at hl 0 rfl) ?_
    refine x_getv (v := .int (g 5 5)) (Or.inl fl_X6_59) C hP (by decide) xs_5 rfl dX6_isWord_13 ?_
    refine lv_isub hx hb dX6_isWord_16 ?_
    refine lv_aload_n hx hb dX6_isWord_17 rfl (lv_at hl 1 rfl) ?_
    refine y_slen (v := 5) C (by decide) (by decide) hP hD hS (kR rfl) hl.1 (Nat.le_of_ble_eq_true rfl) dX6_isWord_18 (fun H locs hP hD hS => ?_)
    refine lv_icmp_eq (x := ((g 5 3) - (g 5 5))) (y := 5) (tgt := 26) hx hb dX6_isWord_21 (by decide) (fun c2 => ?_) (fun c2 => ?_)
    ·
      have h := ite_t c2 h
      refine lv_iconst (v := 0) hx hb dX6_isWord_26 (by decide) ?_
      refine lv_istore_n (lv' := [(2, .int 0), (0, .ref (a 5)), (1, .ref (G.2.2.2.2.2.1 2))]) hx hb dX6_isWord_27 rfl hl (by decide) rfl (fun ls hl => ?_)
      have lp28 : ∀ (_ : True), ∀ (n : Nat) (v : Int32 × (Nat → Nat → Int32) × (Nat → Nat → Int64)), whileK (fun k v => fX6_isWord_5_stair_s28 fu k v.1 v.2.1 v.2.2) n v = some (res, s9) → ∀ (H : Heap) (locs : List Loc) (ls : Array Slot), va_P G.1 vwCl (zw G (XS 2) 105 a (v.2.1) (v.2.2)) H → va_D A (zw G (XS 2) 105 a (v.2.1) (v.2.2)) → va_S A s.heap H locs → lv_has ls 3 [(0, .ref (a 5)), (1, .ref (G.2.2.2.2.2.1 2)), (2, .int (v.1))] → W p l e { frames := 10, cells := 0, slots := 0, locals := 195 } s m [.ref (a 5), .ref (G.2.2.2.2.2.1 2)].toArray below meth c H locs 0 0 (MQ below ((kQi G (S := Unit) (fun r' _ => r' = res) (fun _ => zw G (XS 2) 105 a s9.1 s9.2)) A) [.ref (a 5), .ref (G.2.2.2.2.2.1 2)].toArray s 0 0 A) (F0 m 28 ls []) := by
        intro _
        refine while_ind (fun k28 ih28 v h => ?_)
        obtain ⟨v2, g, L⟩ := v
        intro H locs ls hP hD hS hl
        have h : fX6_isWord_5_stair_s28 fu k28 v2 g L = some (res, s9) := h
        have hP : va_P G.1 vwCl (zw G (XS 2) 105 a g L) H := hP
        have hD : va_D A (zw G (XS 2) 105 a g L) := hD
        have hl : lv_has ls 3 [(0, .ref (a 5)), (1, .ref (G.2.2.2.2.2.1 2)), (2, .int v2)] := hl
        show W p l e { frames := 10, cells := 0, slots := 0, locals := 195 } s m [.ref (a 5), .ref (G.2.2.2.2.2.1 2)].toArray below meth c H locs 0 0 (MQ below ((kQi G (S := Unit) (fun r' _ => r' = res) (fun _ => zw G (XS 2) 105 a s9.1 s9.2)) A) [.ref (a 5), .ref (G.2.2.2.2.2.1 2)].toArray s 0 0 A) (F0 m 28 ls [])
        unfold fX6_isWord_5_stair_s28 at h
        refine lv_iload_n hx hb dX6_isWord_28 rfl (lv_at hl 2 rfl) ?_
        refine lv_aload_n hx hb dX6_isWord_29 rfl (lv_at hl 1 rfl) ?_
        refine y_slen (v := 5) C (by decide) (by decide) hP hD hS (kR rfl) hl.1 (Nat.le_of_ble_eq_true rfl) dX6_isWord_30 (fun H locs hP hD hS => ?_)
        refine lv_icmp_ge (x := v2) (y := 5) (tgt := 63) hx hb dX6_isWord_33 (by decide) (fun c3 => ?_) (fun c3 => ?_)
        ·
          have h := ite_t c3 h
          refine lv_iconst (v := 1) hx hb dX6_isWord_63 (by decide) ?_
          exact y_zret C hr hlk hP hD hS h (Nat.le_of_ble_eq_true rfl) (Nat.le_of_ble_eq_true rfl) dX6_isWord_64
        ·
          have h := ite_e c3 h
          refine lv_aload_n hx hb dX6_isWord_36 rfl (lv_at hl 0 rfl) ?_
          refine x_getr (Or.inl fl_X6_9) C hP (by decide) xs_5 rfl dX6_isWord_37 ?_
          refine lv_aload_n hx hb dX6_isWord_40 rfl (lv_at hl 0 rfl) ?_
          refine x_getv (v := .int (g 5 5)) (Or.inl fl_X6_59) C hP (by decide) xs_5 rfl dX6_isWord_41 ?_
          refine lv_iload_n hx hb dX6_isWord_44 rfl (lv_at hl 2 rfl) ?_
          refine lv_iadd hx hb dX6_isWord_45 ?_
          refine y_ald C hP (by decide) xs_14 dX6_isWord_46 h (fun h => ?_)
          refine lv_aload_n hx hb dX6_isWord_47 rfl (lv_at hl 1 rfl) ?_
          refine lv_iload_n hx hb dX6_isWord_48 rfl (lv_at hl 2 rfl) ?_
          refine y_schr (N := 5) C (by decide) (by decide) hP hD hS (kR rfl) hl.1 (Nat.le_of_ble_eq_true rfl) dX6_isWord_49 h (fun H locs h hP hD hS => ?_)
          refine lv_icmp_eq (x := (g 14 (Int32.toNatClampNeg ((g 5 5) + v2)))) (y := (sch 2 (Int32.toNatClampNeg v2))) (tgt := 57) hx hb dX6_isWord_52 (by decide) (fun c4 => ?_) (fun c4 => ?_)
          ·
            have h := ite_t c4 h
            refine lv_iinc (v := (v2 + 1)) (lv' := [(2, .int (v2 + 1)), (0, .ref (a 5)), (1, .ref (G.2.2.2.2.2.1 2))]) hx hb dX6_isWord_57 hl (k := 2) rfl rfl (by decide) rfl (fun ls hl => ?_)
            refine lv_goto (tgt := 28) hx hb dX6_isWord_60 (by decide) ?_
            exact ih28 ((v2 + 1), g, L) h H locs ls hP hD hS (lv_sub hl [1, 2, 0] rfl)
          ·
            have h := ite_e c4 h
            refine lv_iconst (v := 0) hx hb dX6_isWord_55 (by decide) ?_
            exact y_zret C hr hlk hP hD hS h (Nat.le_of_ble_eq_true rfl) (Nat.le_of_ble_eq_true rfl) dX6_isWord_56
      exact lp28 trivial fu (0, g, L) h H locs ls hP hD hS (lv_sub hl [1, 2, 0] rfl)
    ·
      have h := ite_e c2 h
      exact J24 g L H locs ls h hP hD hS (lv_sub hl [] rfl)
def fX6_readStair_5_p12 (fu : Nat) (g : Nat → Nat → Int32) (L : Nat → Nat → Int64) : Option ((Unit) × zS) :=
  sti g 5 10 1 (fun g1 =>
  cb (fX6_advance_5 fu g1 L) (fun x2 g3 L4 =>
  cb (fX6_readNumber_5 fu 1 99 g3 L4) (fun x6 g7 L8 =>
  sti g7 2 4 x6 (fun g10 =>
  some ((), (g10, L8))))))
def fX6_readStair_5 (fu : Nat) (g : Nat → Nat → Int32) (L : Nat → Nat → Int64) : Option ((Unit) × zS) :=
  if (g 5 10) = 0 then fX6_readStair_5_p12 fu g L
  else cb (fX6_refuse_5 fu 5 g L) (fun x12 g13 L14 =>
  fX6_readStair_5_p12 fu g13 L14)
set_option maxHeartbeats 4000000 in
set_option maxRecDepth 100000 in
theorem rX6_readStair_5 (l : Launch) (G : kG) (sz : Nat) (a : Nat → Nat) (fu : Nat) (g : Nat → Nat → Int32) (L : Nat → Nat → Int64) (res : Unit) (s9 : zS) (h : fX6_readStair_5 fu g L = some (res, s9)) : kM l yX6_readStair cX6_readStair 1 none { frames := 9, cells := 0, slots := 0, locals := 173 } G [.ref (a 5)] (zw G (XS 2) 105 a g L) sz (kQv G (S := Unit) (fun _ => True) (fun _ => zw G (XS 2) 105 a s9.1 s9.2)) := by
  refine kM.of (by decide) (Nat.le_of_ble_eq_true rfl) ?_
  intro p e s m below meth c A ls H C hr hlk hnm hP hD hS hl
  have C : kC G p s m c cX6_readStair 1 RX6 A := C
  have hx := C.1
  have hb := C.2.1
  have hl : lv_has ls 1 [(0, .ref (a 5))] := hl
  obtain ⟨locs, hlocs⟩ : ∃ q : List Loc, q = [] := ⟨_, rfl⟩
  rw [← hlocs] at hS
  rw [← hlocs]
  unfold fX6_readStair_5 at h
  refine lv_aload_n hx hb dX6_readStair_0 rfl (lv_at hl 0 rfl) ?_
  refine x_getv (v := .int (g 5 10)) (Or.inl fl_X6_47) C hP (by decide) xs_5 rfl dX6_readStair_1 ?_
  have J12 : ∀ (g : Nat → Nat → Int32) (L : Nat → Nat → Int64) (H : Heap) (locs : List Loc) (ls : Array Slot), fX6_readStair_5_p12 fu g L = some (res, s9) → va_P G.1 vwCl (zw G (XS 2) 105 a g L) H → va_D A (zw G (XS 2) 105 a g L) → va_S A s.heap H locs → lv_has ls 1 [(0, .ref (a 5))] → W p l e { frames := 9, cells := 0, slots := 0, locals := 173 } s m [.ref (a 5)].toArray below meth c H locs 0 0 (MQ below ((kQv G (S := Unit) (fun _ => True) (fun _ => zw G (XS 2) 105 a s9.1 s9.2)) A) [.ref (a 5)].toArray s 0 0 A) (F0 m 12 ls []) := by
    intro g L H locs ls h hP hD hS hl
    unfold fX6_readStair_5_p12 at h
    refine lv_aload_n hx hb dX6_readStair_12 rfl (lv_at hl 0 rfl) ?_
    refine lv_iconst (v := 1) hx hb dX6_readStair_13 (by decide) ?_
    refine y_puti (Or.inl fl_X6_47) ft_X6_10 C hP hD hS (by decide) xs_5 rfl rfl rfl dX6_readStair_14 h (fun g1 H locs h hP hD hS => ?_)
    refine lv_aload_n hx hb dX6_readStair_17 rfl (lv_at hl 0 rfl) ?_
    obtain ⟨z_, g3, L4, hf5, h⟩ := cb_some h
    refine x_callVv (rest := []) li_X6_53 C (rX6_advance_5 l G H.size a fu g1 L z_ (g3, L4) hf5) (kR rfl) hP hD hS 5 6 rfl (zat (by decide) xs_5) rfl hl.1 rfl (Nat.le_of_ble_eq_true rfl) dX6_readStair_18 (fun u_ H locs e_ hP hD hS => ?_)
    have hP : va_P G.1 vwCl (zw G (XS 2) 105 a g3 L4) H := hP
    have hD : va_D A (zw G (XS 2) 105 a g3 L4) := hD
    refine lv_aload_n hx hb dX6_readStair_21 rfl (lv_at hl 0 rfl) ?_
    refine x_getr (Or.inl fl_X6_15) C hP (by decide) xs_5 rfl dX6_readStair_22 ?_
    refine lv_aload_n hx hb dX6_readStair_25 rfl (lv_at hl 0 rfl) ?_
    refine lv_iconst (v := 1) hx hb dX6_readStair_26 (by decide) ?_
    refine lv_bipush (v := 99) hx hb dX6_readStair_27 (by decide) ?_
    obtain ⟨z_, g7, L8, hf9, h⟩ := cb_some h
    refine x_callVi (rest := [.ref (a 2)]) li_X6_118 C (rX6_readNumber_5 l G H.size a fu g3 L4 1 99 z_ (g7, L8) hf9) (kR rfl) hP hD hS 5 6 rfl (zat (by decide) xs_5) rfl hl.1 rfl (Nat.le_of_ble_eq_true rfl) dX6_readStair_29 (fun x6 u_ H locs e_ hP hD hS => ?_)
    have e_ : x6 = z_ := e_
    subst e_
    have hP : va_P G.1 vwCl (zw G (XS 2) 105 a g7 L8) H := hP
    have hD : va_D A (zw G (XS 2) 105 a g7 L8) := hD
    refine y_puti (Or.inr fl_X6_123) ft_X7_4 C hP hD hS (by decide) xs_2 rfl rfl rfl dX6_readStair_32 h (fun g10 H locs h hP hD hS => ?_)
    exact y_vret C hr hlk hP hD hS h (Nat.le_of_ble_eq_true rfl) (Nat.le_of_ble_eq_true rfl) dX6_readStair_35
  refine lv_if_eq (x := (g 5 10)) (tgt := 12) hx hb dX6_readStair_4 (by decide) (fun c11 => ?_) (fun c11 => ?_)
  ·
    have h := ite_t c11 h
    exact J12 g L H locs ls h hP hD hS (lv_sub hl [0] rfl)
  ·
    have h := ite_e c11 h
    refine lv_aload_n hx hb dX6_readStair_7 rfl (lv_at hl 0 rfl) ?_
    refine lv_iconst (v := 5) hx hb dX6_readStair_8 (by decide) ?_
    obtain ⟨z_, g13, L14, hf15, h⟩ := cb_some h
    refine x_callVv (rest := []) li_X6_78 C (rX6_refuse_5 l G H.size a fu g L 5 z_ (g13, L14) hf15) (kR rfl) hP hD hS 5 6 rfl (zat (by decide) xs_5) rfl hl.1 rfl (Nat.le_of_ble_eq_true rfl) dX6_readStair_9 (fun u_ H locs e_ hP hD hS => ?_)
    have hP : va_P G.1 vwCl (zw G (XS 2) 105 a g13 L14) H := hP
    have hD : va_D A (zw G (XS 2) 105 a g13 L14) := hD
    exact J12 g13 L14 H locs ls h hP hD hS (lv_sub hl [0] rfl)
def fX6_isWord_5_rule_p24 (fu : Nat) (g : Nat → Nat → Int32) (L : Nat → Nat → Int64) : Option ((Int32) × zS) :=
  ckb 0 (some (0, (g, L)))
def fX6_isWord_5_rule_s28 (fu : Nat) (k28 : Int32 × (Nat → Nat → Int32) × (Nat → Nat → Int64) → Option ((Int32) × zS)) (v2 : Int32) (g : Nat → Nat → Int32) (L : Nat → Nat → Int64) : Option ((Int32) × zS) :=
  if 4 ≤ (v2 : Int32) then ckb 1 (some (1, (g, L)))
  else ck ((g 5 5) + v2) 700 (
  ck v2 4 (
  if (g 14 (Int32.toNatClampNeg ((g 5 5) + v2))) = (sch 3 (Int32.toNatClampNeg v2)) then k28 ((v2 + 1), g, L)
  else ckb 0 (some (0, (g, L)))))
def fX6_isWord_5_rule_l28 (fu : Nat) (v2 : Int32) (g : Nat → Nat → Int32) (L : Nat → Nat → Int64) : Option ((Int32) × zS) :=
  whileK (fun k v => fX6_isWord_5_rule_s28 fu k v.1 v.2.1 v.2.2) fu (v2, g, L)
def fX6_isWord_5_rule (fu : Nat) (g : Nat → Nat → Int32) (L : Nat → Nat → Int64) : Option ((Int32) × zS) :=
  if (g 5 4) = 2 then (if ((g 5 3) - (g 5 5)) = 4 then fX6_isWord_5_rule_l28 fu 0 g L
  else fX6_isWord_5_rule_p24 fu g L)
  else fX6_isWord_5_rule_p24 fu g L
set_option maxHeartbeats 4000000 in
set_option maxRecDepth 100000 in
theorem rX6_isWord_5_rule (l : Launch) (G : kG) (sz : Nat) (a : Nat → Nat) (fu : Nat) (g : Nat → Nat → Int32) (L : Nat → Nat → Int64) (res : Int32) (s9 : zS) (h : fX6_isWord_5_rule fu g L = some (res, s9)) : kM l yX6_isWord cX6_isWord 3 (some .boolean) { frames := 10, cells := 0, slots := 0, locals := 195 } G [.ref (a 5), .ref (G.2.2.2.2.2.1 3)] (zw G (XS 2) 105 a g L) sz (kQi G (S := Unit) (fun r' _ => r' = res) (fun _ => zw G (XS 2) 105 a s9.1 s9.2)) := by
  refine kM.of (by decide) (Nat.le_of_ble_eq_true rfl) ?_
  intro p e s m below meth c A ls H C hr hlk hnm hP hD hS hl
  have C : kC G p s m c cX6_isWord 3 RX6 A := C
  have hx := C.1
  have hb := C.2.1
  have hl : lv_has ls 3 [(0, .ref (a 5)), (1, .ref (G.2.2.2.2.2.1 3))] := hl
  obtain ⟨locs, hlocs⟩ : ∃ q : List Loc, q = [] := ⟨_, rfl⟩
  rw [← hlocs] at hS
  rw [← hlocs]
  unfold fX6_isWord_5_rule at h
  refine lv_aload_n hx hb dX6_isWord_0 rfl (lv_at hl 0 rfl) ?_
  refine x_getv (v := .int (g 5 4)) (Or.inl fl_X6_50) C hP (by decide) xs_5 rfl dX6_isWord_1 ?_
  refine lv_iconst (v := 2) hx hb dX6_isWord_4 (by decide) ?_
  have J24 : ∀ (g : Nat → Nat → Int32) (L : Nat → Nat → Int64) (H : Heap) (locs : List Loc) (ls : Array Slot), fX6_isWord_5_rule_p24 fu g L = some (res, s9) → va_P G.1 vwCl (zw G (XS 2) 105 a g L) H → va_D A (zw G (XS 2) 105 a g L) → va_S A s.heap H locs → lv_has ls 3 [] → W p l e { frames := 10, cells := 0, slots := 0, locals := 195 } s m [.ref (a 5), .ref (G.2.2.2.2.2.1 3)].toArray below meth c H locs 0 0 (MQ below ((kQi G (S := Unit) (fun r' _ => r' = res) (fun _ => zw G (XS 2) 105 a s9.1 s9.2)) A) [.ref (a 5), .ref (G.2.2.2.2.2.1 3)].toArray s 0 0 A) (F0 m 24 ls []) := by
    intro g L H locs ls h hP hD hS hl
    unfold fX6_isWord_5_rule_p24 at h
    refine lv_iconst (v := 0) hx hb dX6_isWord_24 (by decide) ?_
    exact y_zret C hr hlk hP hD hS h (Nat.le_of_ble_eq_true rfl) (Nat.le_of_ble_eq_true rfl) dX6_isWord_25
  refine lv_icmp_ne (x := (g 5 4)) (y := 2) (tgt := 24) hx hb dX6_isWord_5 (by decide) (fun c1 => ?_) (fun c1 => ?_)
  ·
    have h := ite_e c1 h
    exact J24 g L H locs ls h hP hD hS (lv_sub hl [] rfl)
  ·
    have h := ite_t c1 h
    refine lv_aload_n hx hb dX6_isWord_8 rfl (lv_at hl 0 rfl) ?_
    refine x_getv (v := .int (g 5 3)) (Or.inl fl_X6_34) C hP (by decide) xs_5 rfl dX6_isWord_9 ?_
    refine lv_aload_n hx hb dX6_isWord_12 rfl (lv_at hl 0 rfl) ?_
    refine x_getv (v := .int (g 5 5)) (Or.inl fl_X6_59) C hP (by decide) xs_5 rfl dX6_isWord_13 ?_
    refine lv_isub hx hb dX6_isWord_16 ?_
    refine lv_aload_n hx hb dX6_isWord_17 rfl (lv_at hl 1 rfl) ?_
    refine y_slen (v := 4) C (by decide) (by decide) hP hD hS (kR rfl) hl.1 (Nat.le_of_ble_eq_true rfl) dX6_isWord_18 (fun H locs hP hD hS => ?_)
    refine lv_icmp_eq (x := ((g 5 3) - (g 5 5))) (y := 4) (tgt := 26) hx hb dX6_isWord_21 (by decide) (fun c2 => ?_) (fun c2 => ?_)
    ·
      have h := ite_t c2 h
      refine lv_iconst (v := 0) hx hb dX6_isWord_26 (by decide) ?_
      refine lv_istore_n (lv' := [(2, .int 0), (0, .ref (a 5)), (1, .ref (G.2.2.2.2.2.1 3))]) hx hb dX6_isWord_27 rfl hl (by decide) rfl (fun ls hl => ?_)
      have lp28 : ∀ (_ : True), ∀ (n : Nat) (v : Int32 × (Nat → Nat → Int32) × (Nat → Nat → Int64)), whileK (fun k v => fX6_isWord_5_rule_s28 fu k v.1 v.2.1 v.2.2) n v = some (res, s9) → ∀ (H : Heap) (locs : List Loc) (ls : Array Slot), va_P G.1 vwCl (zw G (XS 2) 105 a (v.2.1) (v.2.2)) H → va_D A (zw G (XS 2) 105 a (v.2.1) (v.2.2)) → va_S A s.heap H locs → lv_has ls 3 [(0, .ref (a 5)), (1, .ref (G.2.2.2.2.2.1 3)), (2, .int (v.1))] → W p l e { frames := 10, cells := 0, slots := 0, locals := 195 } s m [.ref (a 5), .ref (G.2.2.2.2.2.1 3)].toArray below meth c H locs 0 0 (MQ below ((kQi G (S := Unit) (fun r' _ => r' = res) (fun _ => zw G (XS 2) 105 a s9.1 s9.2)) A) [.ref (a 5), .ref (G.2.2.2.2.2.1 3)].toArray s 0 0 A) (F0 m 28 ls []) := by
        intro _
        refine while_ind (fun k28 ih28 v h => ?_)
        obtain ⟨v2, g, L⟩ := v
        intro H locs ls hP hD hS hl
        have h : fX6_isWord_5_rule_s28 fu k28 v2 g L = some (res, s9) := h
        have hP : va_P G.1 vwCl (zw G (XS 2) 105 a g L) H := hP
        have hD : va_D A (zw G (XS 2) 105 a g L) := hD
        have hl : lv_has ls 3 [(0, .ref (a 5)), (1, .ref (G.2.2.2.2.2.1 3)), (2, .int v2)] := hl
        show W p l e { frames := 10, cells := 0, slots := 0, locals := 195 } s m [.ref (a 5), .ref (G.2.2.2.2.2.1 3)].toArray below meth c H locs 0 0 (MQ below ((kQi G (S := Unit) (fun r' _ => r' = res) (fun _ => zw G (XS 2) 105 a s9.1 s9.2)) A) [.ref (a 5), .ref (G.2.2.2.2.2.1 3)].toArray s 0 0 A) (F0 m 28 ls [])
        unfold fX6_isWord_5_rule_s28 at h
        refine lv_iload_n hx hb dX6_isWord_28 rfl (lv_at hl 2 rfl) ?_
        refine lv_aload_n hx hb dX6_isWord_29 rfl (lv_at hl 1 rfl) ?_
        refine y_slen (v := 4) C (by decide) (by decide) hP hD hS (kR rfl) hl.1 (Nat.le_of_ble_eq_true rfl) dX6_isWord_30 (fun H locs hP hD hS => ?_)
        refine lv_icmp_ge (x := v2) (y := 4) (tgt := 63) hx hb dX6_isWord_33 (by decide) (fun c3 => ?_) (fun c3 => ?_)
        ·
          have h := ite_t c3 h
          refine lv_iconst (v := 1) hx hb dX6_isWord_63 (by decide) ?_
          exact y_zret C hr hlk hP hD hS h (Nat.le_of_ble_eq_true rfl) (Nat.le_of_ble_eq_true rfl) dX6_isWord_64
        ·
          have h := ite_e c3 h
          refine lv_aload_n hx hb dX6_isWord_36 rfl (lv_at hl 0 rfl) ?_
          refine x_getr (Or.inl fl_X6_9) C hP (by decide) xs_5 rfl dX6_isWord_37 ?_
          refine lv_aload_n hx hb dX6_isWord_40 rfl (lv_at hl 0 rfl) ?_
          refine x_getv (v := .int (g 5 5)) (Or.inl fl_X6_59) C hP (by decide) xs_5 rfl dX6_isWord_41 ?_
          refine lv_iload_n hx hb dX6_isWord_44 rfl (lv_at hl 2 rfl) ?_
          refine lv_iadd hx hb dX6_isWord_45 ?_
          refine y_ald C hP (by decide) xs_14 dX6_isWord_46 h (fun h => ?_)
          refine lv_aload_n hx hb dX6_isWord_47 rfl (lv_at hl 1 rfl) ?_
          refine lv_iload_n hx hb dX6_isWord_48 rfl (lv_at hl 2 rfl) ?_
          refine y_schr (N := 4) C (by decide) (by decide) hP hD hS (kR rfl) hl.1 (Nat.le_of_ble_eq_true rfl) dX6_isWord_49 h (fun H locs h hP hD hS => ?_)
          refine lv_icmp_eq (x := (g 14 (Int32.toNatClampNeg ((g 5 5) + v2)))) (y := (sch 3 (Int32.toNatClampNeg v2))) (tgt := 57) hx hb dX6_isWord_52 (by decide) (fun c4 => ?_) (fun c4 => ?_)
          ·
            have h := ite_t c4 h
            refine lv_iinc (v := (v2 + 1)) (lv' := [(2, .int (v2 + 1)), (0, .ref (a 5)), (1, .ref (G.2.2.2.2.2.1 3))]) hx hb dX6_isWord_57 hl (k := 2) rfl rfl (by decide) rfl (fun ls hl => ?_)
            refine lv_goto (tgt := 28) hx hb dX6_isWord_60 (by decide) ?_
            exact ih28 ((v2 + 1), g, L) h H locs ls hP hD hS (lv_sub hl [1, 2, 0] rfl)
          ·
            have h := ite_e c4 h
            refine lv_iconst (v := 0) hx hb dX6_isWord_55 (by decide) ?_
            exact y_zret C hr hlk hP hD hS h (Nat.le_of_ble_eq_true rfl) (Nat.le_of_ble_eq_true rfl) dX6_isWord_56
      exact lp28 trivial fu (0, g, L) h H locs ls hP hD hS (lv_sub hl [1, 2, 0] rfl)
    ·
      have h := ite_e c2 h
      exact J24 g L H locs ls h hP hD hS (lv_sub hl [] rfl)
def fX6_readLine_5_p69 (fu : Nat) (g : Nat → Nat → Int32) (L : Nat → Nat → Int64) : Option ((Unit) × zS) :=
  cb (fX6_readSign_5 fu 59 g L) (fun x5 g6 L7 =>
  some ((), (g6, L7)))
def fX6_readLine_5 (fu : Nat) (g : Nat → Nat → Int32) (L : Nat → Nat → Int64) : Option ((Unit) × zS) :=
  cb (fX6_isWord_5_lesson fu g L) (fun x1 g2 L3 =>
  if x1 = 0 then cb (fX6_isWord_5_walk fu g2 L3) (fun x10 g11 L12 =>
  if x10 = 0 then cb (fX6_isWord_5_stair fu g11 L12) (fun x15 g16 L17 =>
  if x15 = 0 then cb (fX6_isWord_5_rule fu g16 L17) (fun x20 g21 L22 =>
  if x20 = 0 then cb (fX6_refuse_5 fu 1 g21 L22) (fun x25 g26 L27 =>
  fX6_readLine_5_p69 fu g26 L27)
  else cb (fX6_readRule_5 fu g21 L22) (fun x29 g30 L31 =>
  fX6_readLine_5_p69 fu g30 L31))
  else cb (fX6_readStair_5 fu g16 L17) (fun x33 g34 L35 =>
  fX6_readLine_5_p69 fu g34 L35))
  else cb (fX6_readWalk_5 fu g11 L12) (fun x37 g38 L39 =>
  fX6_readLine_5_p69 fu g38 L39))
  else cb (fX6_readLesson_5 fu g2 L3) (fun x41 g42 L43 =>
  fX6_readLine_5_p69 fu g42 L43))
set_option maxHeartbeats 4000000 in
set_option maxRecDepth 100000 in
theorem rX6_readLine_5 (l : Launch) (G : kG) (sz : Nat) (a : Nat → Nat) (fu : Nat) (g : Nat → Nat → Int32) (L : Nat → Nat → Int64) (res : Unit) (s9 : zS) (h : fX6_readLine_5 fu g L = some (res, s9)) : kM l yX6_readLine cX6_readLine 1 none { frames := 62, cells := 0, slots := 0, locals := 1349 } G [.ref (a 5)] (zw G (XS 2) 105 a g L) sz (kQv G (S := Unit) (fun _ => True) (fun _ => zw G (XS 2) 105 a s9.1 s9.2)) := by
  refine kM.of (by decide) (Nat.le_of_ble_eq_true rfl) ?_
  intro p e s m below meth c A ls H C hr hlk hnm hP hD hS hl
  have C : kC G p s m c cX6_readLine 1 RX6 A := C
  have hx := C.1
  have hb := C.2.1
  have hl : lv_has ls 1 [(0, .ref (a 5))] := hl
  obtain ⟨locs, hlocs⟩ : ∃ q : List Loc, q = [] := ⟨_, rfl⟩
  rw [← hlocs] at hS
  rw [← hlocs]
  unfold fX6_readLine_5 at h
  refine lv_aload_n hx hb dX6_readLine_0 rfl (lv_at hl 0 rfl) ?_
  refine y_ldcS (i := 0) C (by decide) rfl dX6_readLine_1 ?_
  obtain ⟨z_, g2, L3, hf4, h⟩ := cb_some h
  refine x_callVi (rest := []) li_X6_92 C (rX6_isWord_5_lesson l G H.size a fu g L z_ (g2, L3) hf4) (kR rfl) hP hD hS 5 6 rfl (zat (by decide) xs_5) rfl hl.1 rfl (Nat.le_of_ble_eq_true rfl) dX6_readLine_3 (fun x1 u_ H locs e_ hP hD hS => ?_)
  have e_ : x1 = z_ := e_
  subst e_
  have hP : va_P G.1 vwCl (zw G (XS 2) 105 a g2 L3) H := hP
  have hD : va_D A (zw G (XS 2) 105 a g2 L3) := hD
  have J69 : ∀ (g : Nat → Nat → Int32) (L : Nat → Nat → Int64) (H : Heap) (locs : List Loc) (ls : Array Slot), fX6_readLine_5_p69 fu g L = some (res, s9) → va_P G.1 vwCl (zw G (XS 2) 105 a g L) H → va_D A (zw G (XS 2) 105 a g L) → va_S A s.heap H locs → lv_has ls 1 [(0, .ref (a 5))] → W p l e { frames := 62, cells := 0, slots := 0, locals := 1349 } s m [.ref (a 5)].toArray below meth c H locs 0 0 (MQ below ((kQv G (S := Unit) (fun _ => True) (fun _ => zw G (XS 2) 105 a s9.1 s9.2)) A) [.ref (a 5)].toArray s 0 0 A) (F0 m 69 ls []) := by
    intro g L H locs ls h hP hD hS hl
    unfold fX6_readLine_5_p69 at h
    refine lv_aload_n hx hb dX6_readLine_69 rfl (lv_at hl 0 rfl) ?_
    refine lv_bipush (v := 59) hx hb dX6_readLine_70 (by decide) ?_
    obtain ⟨z_, g6, L7, hf8, h⟩ := cb_some h
    refine x_callVv (rest := []) li_X6_114 C (rX6_readSign_5 l G H.size a fu g L 59 z_ (g6, L7) hf8) (kR rfl) hP hD hS 5 6 rfl (zat (by decide) xs_5) rfl hl.1 rfl (Nat.le_of_ble_eq_true rfl) dX6_readLine_72 (fun u_ H locs e_ hP hD hS => ?_)
    have hP : va_P G.1 vwCl (zw G (XS 2) 105 a g6 L7) H := hP
    have hD : va_D A (zw G (XS 2) 105 a g6 L7) := hD
    exact y_vret C hr hlk hP hD hS h (Nat.le_of_ble_eq_true rfl) (Nat.le_of_ble_eq_true rfl) dX6_readLine_75
  refine lv_if_eq (x := x1) (tgt := 16) hx hb dX6_readLine_6 (by decide) (fun c9 => ?_) (fun c9 => ?_)
  ·
    have h := ite_t c9 h
    refine lv_aload_n hx hb dX6_readLine_16 rfl (lv_at hl 0 rfl) ?_
    refine y_ldcS (i := 1) C (by decide) rfl dX6_readLine_17 ?_
    obtain ⟨z_, g11, L12, hf13, h⟩ := cb_some h
    refine x_callVi (rest := []) li_X6_92 C (rX6_isWord_5_walk l G H.size a fu g2 L3 z_ (g11, L12) hf13) (kR rfl) hP hD hS 5 6 rfl (zat (by decide) xs_5) rfl hl.1 rfl (Nat.le_of_ble_eq_true rfl) dX6_readLine_19 (fun x10 u_ H locs e_ hP hD hS => ?_)
    have e_ : x10 = z_ := e_
    subst e_
    have hP : va_P G.1 vwCl (zw G (XS 2) 105 a g11 L12) H := hP
    have hD : va_D A (zw G (XS 2) 105 a g11 L12) := hD
    refine lv_if_eq (x := x10) (tgt := 32) hx hb dX6_readLine_22 (by decide) (fun c14 => ?_) (fun c14 => ?_)
    ·
      have h := ite_t c14 h
      refine lv_aload_n hx hb dX6_readLine_32 rfl (lv_at hl 0 rfl) ?_
      refine y_ldcS (i := 2) C (by decide) rfl dX6_readLine_33 ?_
      obtain ⟨z_, g16, L17, hf18, h⟩ := cb_some h
      refine x_callVi (rest := []) li_X6_92 C (rX6_isWord_5_stair l G H.size a fu g11 L12 z_ (g16, L17) hf18) (kR rfl) hP hD hS 5 6 rfl (zat (by decide) xs_5) rfl hl.1 rfl (Nat.le_of_ble_eq_true rfl) dX6_readLine_35 (fun x15 u_ H locs e_ hP hD hS => ?_)
      have e_ : x15 = z_ := e_
      subst e_
      have hP : va_P G.1 vwCl (zw G (XS 2) 105 a g16 L17) H := hP
      have hD : va_D A (zw G (XS 2) 105 a g16 L17) := hD
      refine lv_if_eq (x := x15) (tgt := 48) hx hb dX6_readLine_38 (by decide) (fun c19 => ?_) (fun c19 => ?_)
      ·
        have h := ite_t c19 h
        refine lv_aload_n hx hb dX6_readLine_48 rfl (lv_at hl 0 rfl) ?_
        refine y_ldcS (i := 3) C (by decide) rfl dX6_readLine_49 ?_
        obtain ⟨z_, g21, L22, hf23, h⟩ := cb_some h
        refine x_callVi (rest := []) li_X6_92 C (rX6_isWord_5_rule l G H.size a fu g16 L17 z_ (g21, L22) hf23) (kR rfl) hP hD hS 5 6 rfl (zat (by decide) xs_5) rfl hl.1 rfl (Nat.le_of_ble_eq_true rfl) dX6_readLine_51 (fun x20 u_ H locs e_ hP hD hS => ?_)
        have e_ : x20 = z_ := e_
        subst e_
        have hP : va_P G.1 vwCl (zw G (XS 2) 105 a g21 L22) H := hP
        have hD : va_D A (zw G (XS 2) 105 a g21 L22) := hD
        refine lv_if_eq (x := x20) (tgt := 64) hx hb dX6_readLine_54 (by decide) (fun c24 => ?_) (fun c24 => ?_)
        ·
          have h := ite_t c24 h
          refine lv_aload_n hx hb dX6_readLine_64 rfl (lv_at hl 0 rfl) ?_
          refine lv_iconst (v := 1) hx hb dX6_readLine_65 (by decide) ?_
          obtain ⟨z_, g26, L27, hf28, h⟩ := cb_some h
          refine x_callVv (rest := []) li_X6_78 C (rX6_refuse_5 l G H.size a fu g21 L22 1 z_ (g26, L27) hf28) (kR rfl) hP hD hS 5 6 rfl (zat (by decide) xs_5) rfl hl.1 rfl (Nat.le_of_ble_eq_true rfl) dX6_readLine_66 (fun u_ H locs e_ hP hD hS => ?_)
          have hP : va_P G.1 vwCl (zw G (XS 2) 105 a g26 L27) H := hP
          have hD : va_D A (zw G (XS 2) 105 a g26 L27) := hD
          exact J69 g26 L27 H locs ls h hP hD hS (lv_sub hl [0] rfl)
        ·
          have h := ite_e c24 h
          refine lv_aload_n hx hb dX6_readLine_57 rfl (lv_at hl 0 rfl) ?_
          obtain ⟨z_, g30, L31, hf32, h⟩ := cb_some h
          refine x_callVv (rest := []) li_X6_111 C (rX6_readRule_5 l G H.size a fu g21 L22 z_ (g30, L31) hf32) (kR rfl) hP hD hS 5 6 rfl (zat (by decide) xs_5) rfl hl.1 rfl (Nat.le_of_ble_eq_true rfl) dX6_readLine_58 (fun u_ H locs e_ hP hD hS => ?_)
          have hP : va_P G.1 vwCl (zw G (XS 2) 105 a g30 L31) H := hP
          have hD : va_D A (zw G (XS 2) 105 a g30 L31) := hD
          refine lv_goto (tgt := 69) hx hb dX6_readLine_61 (by decide) ?_
          exact J69 g30 L31 H locs ls h hP hD hS (lv_sub hl [0] rfl)
      ·
        have h := ite_e c19 h
        refine lv_aload_n hx hb dX6_readLine_41 rfl (lv_at hl 0 rfl) ?_
        obtain ⟨z_, g34, L35, hf36, h⟩ := cb_some h
        refine x_callVv (rest := []) li_X6_106 C (rX6_readStair_5 l G H.size a fu g16 L17 z_ (g34, L35) hf36) (kR rfl) hP hD hS 5 6 rfl (zat (by decide) xs_5) rfl hl.1 rfl (Nat.le_of_ble_eq_true rfl) dX6_readLine_42 (fun u_ H locs e_ hP hD hS => ?_)
        have hP : va_P G.1 vwCl (zw G (XS 2) 105 a g34 L35) H := hP
        have hD : va_D A (zw G (XS 2) 105 a g34 L35) := hD
        refine lv_goto (tgt := 69) hx hb dX6_readLine_45 (by decide) ?_
        exact J69 g34 L35 H locs ls h hP hD hS (lv_sub hl [0] rfl)
    ·
      have h := ite_e c14 h
      refine lv_aload_n hx hb dX6_readLine_25 rfl (lv_at hl 0 rfl) ?_
      obtain ⟨z_, g38, L39, hf40, h⟩ := cb_some h
      refine x_callVv (rest := []) li_X6_101 C (rX6_readWalk_5 l G H.size a fu g11 L12 z_ (g38, L39) hf40) (kR rfl) hP hD hS 5 6 rfl (zat (by decide) xs_5) rfl hl.1 rfl (Nat.le_of_ble_eq_true rfl) dX6_readLine_26 (fun u_ H locs e_ hP hD hS => ?_)
      have hP : va_P G.1 vwCl (zw G (XS 2) 105 a g38 L39) H := hP
      have hD : va_D A (zw G (XS 2) 105 a g38 L39) := hD
      refine lv_goto (tgt := 69) hx hb dX6_readLine_29 (by decide) ?_
      exact J69 g38 L39 H locs ls h hP hD hS (lv_sub hl [0] rfl)
  ·
    have h := ite_e c9 h
    refine lv_aload_n hx hb dX6_readLine_9 rfl (lv_at hl 0 rfl) ?_
    obtain ⟨z_, g42, L43, hf44, h⟩ := cb_some h
    refine x_callVv (rest := []) li_X6_96 C (rX6_readLesson_5 l G H.size a fu g2 L3 z_ (g42, L43) hf44) (kR rfl) hP hD hS 5 6 rfl (zat (by decide) xs_5) rfl hl.1 rfl (Nat.le_of_ble_eq_true rfl) dX6_readLine_10 (fun u_ H locs e_ hP hD hS => ?_)
    have hP : va_P G.1 vwCl (zw G (XS 2) 105 a g42 L43) H := hP
    have hD : va_D A (zw G (XS 2) 105 a g42 L43) := hD
    refine lv_goto (tgt := 69) hx hb dX6_readLine_13 (by decide) ?_
    exact J69 g42 L43 H locs ls h hP hD hS (lv_sub hl [0] rfl)
def fX6_read_5_2_p93 (fu : Nat) (g : Nat → Nat → Int32) (L : Nat → Nat → Int64) : Option ((Unit) × zS) :=
  some ((), (g, L))
def fX6_read_5_2_s61 (fu : Nat) (k61 : Int32 × (Nat → Nat → Int32) × (Nat → Nat → Int64) → Option ((Unit) × zS)) (v3 : Int32) (g : Nat → Nat → Int32) (L : Nat → Nat → Int64) : Option ((Unit) × zS) :=
  if 700 < (v3 : Int32) then fX6_read_5_2_p93 fu g L
  else if (g 5 4) = 0 then fX6_read_5_2_p93 fu g L
  else if (g 5 4) = 5 then fX6_read_5_2_p93 fu g L
  else cb (fX6_readLine_5 fu g L) (fun x19 g20 L21 =>
  k61 ((v3 + 1), g20, L21))
def fX6_read_5_2_l61 (fu : Nat) (v3 : Int32) (g : Nat → Nat → Int32) (L : Nat → Nat → Int64) : Option ((Unit) × zS) :=
  whileK (fun k v => fX6_read_5_2_s61 fu k v.1 v.2.1 v.2.2) fu (v3, g, L)
def fX6_read_5_2 (fu : Nat) (p1 : Int32) (g : Nat → Nat → Int32) (L : Nat → Nat → Int64) : Option ((Unit) × zS) :=
  cb (fX7_clear_2 fu g L) (fun x1 g2 L3 =>
  sti g2 5 2 (if 700 < p1 then 700 else p1) (fun g5 =>
  sti g5 5 3 0 (fun g6 =>
  sti g6 5 7 0 (fun g7 =>
  sti g7 5 8 (-1) (fun g8 =>
  sti g8 5 9 0 (fun g9 =>
  sti g9 5 10 0 (fun g10 =>
  sti g10 5 4 0 (fun g11 =>
  cb (fX6_advance_5 fu g11 L3) (fun x12 g13 L14 =>
  fX6_read_5_2_l61 fu 0 g13 L14)))))))))
set_option maxHeartbeats 4000000 in
set_option maxRecDepth 100000 in
theorem rX6_read_5_2 (l : Launch) (G : kG) (sz : Nat) (b : Nat) (a : Nat → Nat) (fu : Nat) (g : Nat → Nat → Int32) (L : Nat → Nat → Int64) (p1 : Int32) (res : Unit) (s9 : zS) (h : fX6_read_5_2 fu p1 g L = some (res, s9)) : kM l yX6_read cX6_read 4 none { frames := 63, cells := 0, slots := 0, locals := 1369 } G [.ref (a 5), .int p1, .ref (a 2)] (zw G (XS b) 105 a g L) sz (kQv G (S := Unit) (fun _ => True) (fun _ => zw G (XS 2) 105 a s9.1 s9.2)) := by
  refine kM.of (by decide) (Nat.le_of_ble_eq_true rfl) ?_
  intro p e s m below meth c A ls H C hr hlk hnm hP hD hS hl
  have C : kC G p s m c cX6_read 4 RX6 A := C
  have hx := C.1
  have hb := C.2.1
  have hl : lv_has ls 4 [(0, .ref (a 5)), (1, .int p1), (2, .ref (a 2))] := hl
  obtain ⟨locs, hlocs⟩ : ∃ q : List Loc, q = [] := ⟨_, rfl⟩
  rw [← hlocs] at hS
  rw [← hlocs]
  unfold fX6_read_5_2 at h
  refine lv_aload_n hx hb dX6_read_0 rfl (lv_at hl 0 rfl) ?_
  refine lv_aload_n hx hb dX6_read_1 rfl (lv_at hl 2 rfl) ?_
  refine x_putPlan (t := 2) (Or.inl fl_X6_15) ft_X6_1 C hP hD hS rfl rfl dX6_read_2 (fun H locs hP hD hS => ?_)
  refine lv_aload_n hx hb dX6_read_5 rfl (lv_at hl 0 rfl) ?_
  refine x_getr (Or.inl fl_X6_15) C hP (by decide) xs_5 rfl dX6_read_6 ?_
  obtain ⟨z_, g2, L3, hf4, h⟩ := cb_some h
  refine x_callNv (rest := []) li_X6_19 C (rX7_clear_2 l G H.size 2 a fu g L z_ (g2, L3) hf4) (kR rfl) hP hD hS 2 7 rfl (zat (by decide) xs_2) rfl hl.1 rfl (Nat.le_of_ble_eq_true rfl) dX6_read_9 (fun u_ H locs e_ hP hD hS => ?_)
  have hP : va_P G.1 vwCl (zw G (XS 2) 105 a g2 L3) H := hP
  have hD : va_D A (zw G (XS 2) 105 a g2 L3) := hD
  refine lv_aload_n hx hb dX6_read_12 rfl (lv_at hl 0 rfl) ?_
  refine lv_iload_n hx hb dX6_read_13 rfl (lv_at hl 1 rfl) ?_
  refine lv_aload_n hx hb dX6_read_14 rfl (lv_at hl 0 rfl) ?_
  refine x_getr (Or.inl fl_X6_9) C hP (by decide) xs_5 rfl dX6_read_15 ?_
  refine x_alen (v := 700) C hP (by decide) xs_14 rfl dX6_read_18 ?_
  refine k_min lm_X6_24 C hl.1 (Nat.le_of_ble_eq_true rfl) (Nat.le_of_ble_eq_true rfl) (Nat.le_of_ble_eq_true rfl) (Nat.le_of_ble_eq_true rfl) dX6_read_19 ?_
  refine y_puti (Or.inl fl_X6_30) ft_X6_2 C hP hD hS (by decide) xs_5 rfl rfl rfl dX6_read_22 h (fun g5 H locs h hP hD hS => ?_)
  refine lv_aload_n hx hb dX6_read_25 rfl (lv_at hl 0 rfl) ?_
  refine lv_iconst (v := 0) hx hb dX6_read_26 (by decide) ?_
  refine y_puti (Or.inl fl_X6_34) ft_X6_3 C hP hD hS (by decide) xs_5 rfl rfl rfl dX6_read_27 h (fun g6 H locs h hP hD hS => ?_)
  refine lv_aload_n hx hb dX6_read_30 rfl (lv_at hl 0 rfl) ?_
  refine lv_iconst (v := 0) hx hb dX6_read_31 (by decide) ?_
  refine y_puti (Or.inl fl_X6_37) ft_X6_7 C hP hD hS (by decide) xs_5 rfl rfl rfl dX6_read_32 h (fun g7 H locs h hP hD hS => ?_)
  refine lv_aload_n hx hb dX6_read_35 rfl (lv_at hl 0 rfl) ?_
  refine lv_iconst (v := -1) hx hb dX6_read_36 (by decide) ?_
  refine y_puti (Or.inl fl_X6_40) ft_X6_8 C hP hD hS (by decide) xs_5 rfl rfl rfl dX6_read_37 h (fun g8 H locs h hP hD hS => ?_)
  refine lv_aload_n hx hb dX6_read_40 rfl (lv_at hl 0 rfl) ?_
  refine lv_iconst (v := 0) hx hb dX6_read_41 (by decide) ?_
  refine y_puti (Or.inl fl_X6_43) ft_X6_9 C hP hD hS (by decide) xs_5 rfl rfl rfl dX6_read_42 h (fun g9 H locs h hP hD hS => ?_)
  refine lv_aload_n hx hb dX6_read_45 rfl (lv_at hl 0 rfl) ?_
  refine lv_iconst (v := 0) hx hb dX6_read_46 (by decide) ?_
  refine y_puti (Or.inl fl_X6_47) ft_X6_10 C hP hD hS (by decide) xs_5 rfl rfl rfl dX6_read_47 h (fun g10 H locs h hP hD hS => ?_)
  refine lv_aload_n hx hb dX6_read_50 rfl (lv_at hl 0 rfl) ?_
  refine lv_iconst (v := 0) hx hb dX6_read_51 (by decide) ?_
  refine y_puti (Or.inl fl_X6_50) ft_X6_4 C hP hD hS (by decide) xs_5 rfl rfl rfl dX6_read_52 h (fun g11 H locs h hP hD hS => ?_)
  refine lv_aload_n hx hb dX6_read_55 rfl (lv_at hl 0 rfl) ?_
  obtain ⟨z_, g13, L14, hf15, h⟩ := cb_some h
  refine x_callVv (rest := []) li_X6_53 C (rX6_advance_5 l G H.size a fu g11 L3 z_ (g13, L14) hf15) (kR rfl) hP hD hS 5 6 rfl (zat (by decide) xs_5) rfl hl.1 rfl (Nat.le_of_ble_eq_true rfl) dX6_read_56 (fun u_ H locs e_ hP hD hS => ?_)
  have hP : va_P G.1 vwCl (zw G (XS 2) 105 a g13 L14) H := hP
  have hD : va_D A (zw G (XS 2) 105 a g13 L14) := hD
  refine lv_iconst (v := 0) hx hb dX6_read_59 (by decide) ?_
  refine lv_istore_n (lv' := [(3, .int 0), (0, .ref (a 5)), (1, .int p1), (2, .ref (a 2))]) hx hb dX6_read_60 rfl hl (by decide) rfl (fun ls hl => ?_)
  have lp61 : ∀ (_ : True), ∀ (n : Nat) (v : Int32 × (Nat → Nat → Int32) × (Nat → Nat → Int64)), whileK (fun k v => fX6_read_5_2_s61 fu k v.1 v.2.1 v.2.2) n v = some (res, s9) → ∀ (H : Heap) (locs : List Loc) (ls : Array Slot), va_P G.1 vwCl (zw G (XS 2) 105 a (v.2.1) (v.2.2)) H → va_D A (zw G (XS 2) 105 a (v.2.1) (v.2.2)) → va_S A s.heap H locs → lv_has ls 4 [(0, .ref (a 5)), (3, .int (v.1))] → W p l e { frames := 63, cells := 0, slots := 0, locals := 1369 } s m [.ref (a 5), .int p1, .ref (a 2)].toArray below meth c H locs 0 0 (MQ below ((kQv G (S := Unit) (fun _ => True) (fun _ => zw G (XS 2) 105 a s9.1 s9.2)) A) [.ref (a 5), .int p1, .ref (a 2)].toArray s 0 0 A) (F0 m 61 ls []) := by
    intro _
    refine while_ind (fun k61 ih61 v h => ?_)
    obtain ⟨v3, g, L⟩ := v
    intro H locs ls hP hD hS hl
    have h : fX6_read_5_2_s61 fu k61 v3 g L = some (res, s9) := h
    have hP : va_P G.1 vwCl (zw G (XS 2) 105 a g L) H := hP
    have hD : va_D A (zw G (XS 2) 105 a g L) := hD
    have hl : lv_has ls 4 [(0, .ref (a 5)), (3, .int v3)] := hl
    show W p l e { frames := 63, cells := 0, slots := 0, locals := 1369 } s m [.ref (a 5), .int p1, .ref (a 2)].toArray below meth c H locs 0 0 (MQ below ((kQv G (S := Unit) (fun _ => True) (fun _ => zw G (XS 2) 105 a s9.1 s9.2)) A) [.ref (a 5), .int p1, .ref (a 2)].toArray s 0 0 A) (F0 m 61 ls [])
    unfold fX6_read_5_2_s61 at h
    refine lv_iload_n hx hb dX6_read_61 rfl (lv_at hl 1 rfl) ?_
    refine lv_sipush (v := 700) hx hb dX6_read_62 (by decide) ?_
    have J93 : ∀ (g : Nat → Nat → Int32) (L : Nat → Nat → Int64) (H : Heap) (locs : List Loc) (ls : Array Slot), fX6_read_5_2_p93 fu g L = some (res, s9) → va_P G.1 vwCl (zw G (XS 2) 105 a g L) H → va_D A (zw G (XS 2) 105 a g L) → va_S A s.heap H locs → lv_has ls 4 [] → W p l e { frames := 63, cells := 0, slots := 0, locals := 1369 } s m [.ref (a 5), .int p1, .ref (a 2)].toArray below meth c H locs 0 0 (MQ below ((kQv G (S := Unit) (fun _ => True) (fun _ => zw G (XS 2) 105 a s9.1 s9.2)) A) [.ref (a 5), .int p1, .ref (a 2)].toArray s 0 0 A) (F0 m 93 ls []) := by
      intro g L H locs ls h hP hD hS hl
      unfold fX6_read_5_2_p93 at h
      exact y_vret C hr hlk hP hD hS h (Nat.le_of_ble_eq_true rfl) (Nat.le_of_ble_eq_true rfl) dX6_read_93
    refine lv_icmp_gt (x := v3) (y := 700) (tgt := 93) hx hb dX6_read_65 (by decide) (fun c16 => ?_) (fun c16 => ?_)
    ·
      have h := ite_t c16 h
      exact J93 g L H locs ls h hP hD hS (lv_sub hl [] rfl)
    ·
      have h := ite_e c16 h
      refine lv_aload_n hx hb dX6_read_68 rfl (lv_at hl 0 rfl) ?_
      refine x_getv (v := .int (g 5 4)) (Or.inl fl_X6_50) C hP (by decide) xs_5 rfl dX6_read_69 ?_
      refine lv_if_eq (x := (g 5 4)) (tgt := 93) hx hb dX6_read_72 (by decide) (fun c17 => ?_) (fun c17 => ?_)
      ·
        have h := ite_t c17 h
        exact J93 g L H locs ls h hP hD hS (lv_sub hl [] rfl)
      ·
        have h := ite_e c17 h
        refine lv_aload_n hx hb dX6_read_75 rfl (lv_at hl 0 rfl) ?_
        refine x_getv (v := .int (g 5 4)) (Or.inl fl_X6_50) C hP (by decide) xs_5 rfl dX6_read_76 ?_
        refine lv_iconst (v := 5) hx hb dX6_read_79 (by decide) ?_
        refine lv_icmp_eq (x := (g 5 4)) (y := 5) (tgt := 93) hx hb dX6_read_80 (by decide) (fun c18 => ?_) (fun c18 => ?_)
        ·
          have h := ite_t c18 h
          exact J93 g L H locs ls h hP hD hS (lv_sub hl [] rfl)
        ·
          have h := ite_e c18 h
          refine lv_aload_n hx hb dX6_read_83 rfl (lv_at hl 0 rfl) ?_
          obtain ⟨z_, g20, L21, hf22, h⟩ := cb_some h
          refine x_callVv (rest := []) li_X6_56 C (rX6_readLine_5 l G H.size a fu g L z_ (g20, L21) hf22) (kR rfl) hP hD hS 5 6 rfl (zat (by decide) xs_5) rfl hl.1 rfl (Nat.le_of_ble_eq_true rfl) dX6_read_84 (fun u_ H locs e_ hP hD hS => ?_)
          have hP : va_P G.1 vwCl (zw G (XS 2) 105 a g20 L21) H := hP
          have hD : va_D A (zw G (XS 2) 105 a g20 L21) := hD
          refine lv_iinc (v := (v3 + 1)) (lv' := [(3, .int (v3 + 1)), (0, .ref (a 5))]) hx hb dX6_read_87 hl (k := 1) rfl rfl (by decide) rfl (fun ls hl => ?_)
          refine lv_goto (tgt := 61) hx hb dX6_read_90 (by decide) ?_
          exact ih61 ((v3 + 1), g20, L21) h H locs ls hP hD hS (lv_sub hl [1, 0] rfl)
  exact lp61 trivial fu (0, g13, L14) h H locs ls hP hD hS (lv_sub hl [1, 0] rfl)
