theorem dX12_fault_0 : decode cX12_fault 0 = .ok (.aload_n 0, 1) := by decide +kernel
theorem dX12_fault_1 : decode cX12_fault 1 = .ok (.iconst 0, 1) := by decide +kernel
theorem dX12_fault_2 : decode cX12_fault 2 = .ok (.putfield 177, 3) := by decide +kernel
theorem dX12_fault_5 : decode cX12_fault 5 = .ok (.aload_n 0, 1) := by decide +kernel
theorem dX12_fault_6 : decode cX12_fault 6 = .ok (.getfield 56, 3) := by decide +kernel
theorem dX12_fault_9 : decode cX12_fault 9 = .ok (.ireturn, 1) := by decide +kernel
theorem dX12_count_0 : decode cX12_count 0 = .ok (.aload_n 0, 1) := by decide +kernel
theorem dX12_count_1 : decode cX12_count 1 = .ok (.iconst 0, 1) := by decide +kernel
theorem dX12_count_2 : decode cX12_count 2 = .ok (.putfield 177, 3) := by decide +kernel
theorem dX12_count_5 : decode cX12_count 5 = .ok (.aload_n 0, 1) := by decide +kernel
theorem dX12_count_6 : decode cX12_count 6 = .ok (.iload_n 1, 1) := by decide +kernel
theorem dX12_count_7 : decode cX12_count 7 = .ok (.iconst 0, 1) := by decide +kernel
theorem dX12_count_8 : decode cX12_count 8 = .ok (.bipush 14, 2) := by decide +kernel
theorem dX12_count_10 : decode cX12_count 10 = .ok (.invokestatic 392, 3) := by decide +kernel
theorem dX12_count_13 : decode cX12_count 13 = .ok (.iconst 1, 1) := by decide +kernel
theorem dX12_count_14 : decode cX12_count 14 = .ok (.invokevirtual 328, 3) := by decide +kernel
theorem dX12_count_17 : decode cX12_count 17 = .ok (.ifCond .ne 5, 3) := by decide +kernel
theorem dX12_count_20 : decode cX12_count 20 = .ok (.iconst 0, 1) := by decide +kernel
theorem dX12_count_21 : decode cX12_count 21 = .ok (.ireturn, 1) := by decide +kernel
theorem k_rnh15 {x : Int32} (h0 : ¬ x < 0) (h1 : ¬ 14 < x) : x = 0 ∨ x = 1 ∨ x = 2 ∨ x = 3 ∨ x = 4 ∨ x = 5 ∨ x = 6 ∨ x = 7 ∨ x = 8 ∨ x = 9 ∨ x = 10 ∨ x = 11 ∨ x = 12 ∨ x = 13 ∨ x = 14 := by
  rcases pk_ix x (n := 15) (by decide) with h | h | ⟨j, hj, rfl⟩
  · exact absurd h h0
  · exact absurd h (by have h9 := h1; rw [Int32.lt_iff_toInt_lt] at h9; rw [Int32.le_iff_toInt_le]; have e : (nI 15).toInt = (14 : Int32).toInt + 1 := by decide
                       omega)
  · exact match j, hj with | 0, _ => Or.inl rfl | 1, _ => Or.inr (Or.inl rfl) | 2, _ => Or.inr (Or.inr (Or.inl rfl)) | 3, _ => Or.inr (Or.inr (Or.inr (Or.inl rfl))) | 4, _ => Or.inr (Or.inr (Or.inr (Or.inr (Or.inl rfl)))) | 5, _ => Or.inr (Or.inr (Or.inr (Or.inr (Or.inr (Or.inl rfl))))) | 6, _ => Or.inr (Or.inr (Or.inr (Or.inr (Or.inr (Or.inr (Or.inl rfl)))))) | 7, _ => Or.inr (Or.inr (Or.inr (Or.inr (Or.inr (Or.inr (Or.inr (Or.inl rfl))))))) | 8, _ => Or.inr (Or.inr (Or.inr (Or.inr (Or.inr (Or.inr (Or.inr (Or.inr (Or.inl rfl)))))))) | 9, _ => Or.inr (Or.inr (Or.inr (Or.inr (Or.inr (Or.inr (Or.inr (Or.inr (Or.inr (Or.inl rfl))))))))) | 10, _ => Or.inr (Or.inr (Or.inr (Or.inr (Or.inr (Or.inr (Or.inr (Or.inr (Or.inr (Or.inr (Or.inl rfl)))))))))) | 11, _ => Or.inr (Or.inr (Or.inr (Or.inr (Or.inr (Or.inr (Or.inr (Or.inr (Or.inr (Or.inr (Or.inr (Or.inl rfl))))))))))) | 12, _ => Or.inr (Or.inr (Or.inr (Or.inr (Or.inr (Or.inr (Or.inr (Or.inr (Or.inr (Or.inr (Or.inr (Or.inr (Or.inl rfl)))))))))))) | 13, _ => Or.inr (Or.inr (Or.inr (Or.inr (Or.inr (Or.inr (Or.inr (Or.inr (Or.inr (Or.inr (Or.inr (Or.inr (Or.inr (Or.inl rfl))))))))))))) | 14, _ => Or.inr (Or.inr (Or.inr (Or.inr (Or.inr (Or.inr (Or.inr (Or.inr (Or.inr (Or.inr (Or.inr (Or.inr (Or.inr (Or.inr (rfl)))))))))))))) | j + 15, hj => absurd hj (by omega)
theorem dX12_count_22 : decode cX12_count 22 = .ok (.iload_n 1, 1) := by decide +kernel
theorem dX12_count_23 : decode cX12_count 23 = .ok (.bipush 11, 2) := by decide +kernel
theorem dX12_count_25 : decode cX12_count 25 = .ok (.if_icmp .le 9, 3) := by decide +kernel
theorem dX12_count_34 : decode cX12_count 34 = .ok (.iload_n 1, 1) := by decide +kernel
theorem dX12_count_35 : decode cX12_count 35 = .ok (.tableswitch 94 0 8 #[49, 54, 59, 64, 69, 74, 79, 84, 89], 49) := by decide +kernel
theorem dX12_count_84 : decode cX12_count 84 = .ok (.aload_n 0, 1) := by decide +kernel
theorem dX12_count_85 : decode cX12_count 85 = .ok (.getfield 335, 3) := by decide +kernel
theorem dX12_count_88 : decode cX12_count 88 = .ok (.ireturn, 1) := by decide +kernel
theorem dX12_count_89 : decode cX12_count 89 = .ok (.aload_n 0, 1) := by decide +kernel
theorem dX12_count_90 : decode cX12_count 90 = .ok (.getfield 338, 3) := by decide +kernel
theorem dX12_count_93 : decode cX12_count 93 = .ok (.ireturn, 1) := by decide +kernel
theorem dX12_count_94 : decode cX12_count 94 = .ok (.aload_n 0, 1) := by decide +kernel
theorem dX12_count_95 : decode cX12_count 95 = .ok (.getfield 105, 3) := by decide +kernel
theorem dX12_count_98 : decode cX12_count 98 = .ok (.ireturn, 1) := by decide +kernel
theorem dX12_count_99 : decode cX12_count 99 = .ok (.aload_n 0, 1) := by decide +kernel
theorem dX12_count_100 : decode cX12_count 100 = .ok (.getfield 7, 3) := by decide +kernel
theorem dX12_count_103 : decode cX12_count 103 = .ok (.ireturn, 1) := by decide +kernel
theorem dX12_count_104 : decode cX12_count 104 = .ok (.aload_n 0, 1) := by decide +kernel
theorem dX12_count_105 : decode cX12_count 105 = .ok (.getfield 13, 3) := by decide +kernel
theorem dX12_count_108 : decode cX12_count 108 = .ok (.ireturn, 1) := by decide +kernel
theorem dX12_count_109 : decode cX12_count 109 = .ok (.aload_n 0, 1) := by decide +kernel
theorem dX12_count_110 : decode cX12_count 110 = .ok (.getfield 345, 3) := by decide +kernel
theorem dX12_count_113 : decode cX12_count 113 = .ok (.ireturn, 1) := by decide +kernel
theorem dX12_count_114 : decode cX12_count 114 = .ok (.aload_n 0, 1) := by decide +kernel
theorem dX12_count_115 : decode cX12_count 115 = .ok (.getfield 348, 3) := by decide +kernel
theorem dX12_count_118 : decode cX12_count 118 = .ok (.ireturn, 1) := by decide +kernel
theorem dX12_count_119 : decode cX12_count 119 = .ok (.aload_n 0, 1) := by decide +kernel
theorem dX12_count_120 : decode cX12_count 120 = .ok (.invokevirtual 399, 3) := by decide +kernel
theorem dX12_count_123 : decode cX12_count 123 = .ok (.ireturn, 1) := by decide +kernel
theorem dX12_count_124 : decode cX12_count 124 = .ok (.aload_n 0, 1) := by decide +kernel
theorem dX12_count_125 : decode cX12_count 125 = .ok (.getfield 180, 3) := by decide +kernel
theorem dX12_count_128 : decode cX12_count 128 = .ok (.ireturn, 1) := by decide +kernel
theorem dX12_count_129 : decode cX12_count 129 = .ok (.aload_n 0, 1) := by decide +kernel
theorem dX12_count_130 : decode cX12_count 130 = .ok (.getfield 59, 3) := by decide +kernel
theorem dX12_count_133 : decode cX12_count 133 = .ok (.iload_n 1, 1) := by decide +kernel
theorem dX12_count_134 : decode cX12_count 134 = .ok (.bipush 9, 2) := by decide +kernel
theorem dX12_count_136 : decode cX12_count 136 = .ok (.isub, 1) := by decide +kernel
theorem dX12_count_137 : decode cX12_count 137 = .ok (.iaload, 1) := by decide +kernel
theorem dX12_count_138 : decode cX12_count 138 = .ok (.ireturn, 1) := by decide +kernel
theorem dX12_count_28 : decode cX12_count 28 = .ok (.aload_n 0, 1) := by decide +kernel
theorem dX12_count_29 : decode cX12_count 29 = .ok (.iload_n 1, 1) := by decide +kernel
theorem tw_1826 : (Jvm.Cond.methodLink "MarshBellsModel" (396 : Nat) ({ cls := "MarshBellsModel", name := "lateness", desc := "(I)I" } : Jvm.MethodName)) ∈ lw_tbl := tk_8 (List.mem_of_getElem? (i := 146) rfl)
theorem tw_1829 : (Jvm.Cond.code ({ cls := "MarshBellsModel", name := "lateness", desc := "(I)I" } : Jvm.MethodName) prog_14_method_49_code (4 : Nat) (Option.some Jvm.ClassFile.FieldType.int)) ∈ lw_tbl := tk_8 (List.mem_of_getElem? (i := 149) rfl)
theorem tw_1828 : (Jvm.Cond.instanceMethod ({ cls := "MarshBellsModel", name := "lateness", desc := "(I)I" } : Jvm.MethodName)) ∈ lw_tbl := tk_8 (List.mem_of_getElem? (i := 148) rfl)
theorem se_X12_lateness : Cond.selects RX12 yX12_lateness yX12_lateness ∈ lw_tbl := List.mem_append_left _ (List.mem_of_getElem? (i := 132) rfl)
theorem li_X12_396 : kLV RX12 396 RX12 yX12_lateness cX12_lateness 4 (some .int) 1 := ⟨tw_1826, tw_1828, se_X12_lateness, tw_1829, tw_13, by decide +kernel⟩
theorem dX12_count_30 : decode cX12_count 30 = .ok (.invokevirtual 396, 3) := by decide +kernel
theorem dX12_count_33 : decode cX12_count 33 = .ok (.ireturn, 1) := by decide +kernel
theorem dX12_lesson_0 : decode cX12_lesson 0 = .ok (.aload_n 0, 1) := by decide +kernel
theorem dX12_lesson_1 : decode cX12_lesson 1 = .ok (.iconst 0, 1) := by decide +kernel
theorem dX12_lesson_2 : decode cX12_lesson 2 = .ok (.putfield 177, 3) := by decide +kernel
theorem dX12_lesson_5 : decode cX12_lesson 5 = .ok (.aload_n 0, 1) := by decide +kernel
theorem dX12_lesson_6 : decode cX12_lesson 6 = .ok (.iload_n 1, 1) := by decide +kernel
theorem tw_1875 : (Jvm.Cond.methodLink "MarshBellsModel" (402 : Nat) ({ cls := "MarshBellsModel", name := "isLesson", desc := "(I)Z" } : Jvm.MethodName)) ∈ lw_tbl := tk_8 (List.mem_of_getElem? (i := 195) rfl)
theorem tw_1878 : (Jvm.Cond.code ({ cls := "MarshBellsModel", name := "isLesson", desc := "(I)Z" } : Jvm.MethodName) prog_14_method_51_code (2 : Nat) (Option.some Jvm.ClassFile.FieldType.boolean)) ∈ lw_tbl := tk_8 (List.mem_of_getElem? (i := 198) rfl)
theorem tw_1877 : (Jvm.Cond.instanceMethod ({ cls := "MarshBellsModel", name := "isLesson", desc := "(I)Z" } : Jvm.MethodName)) ∈ lw_tbl := tk_8 (List.mem_of_getElem? (i := 197) rfl)
theorem se_X12_isLesson : Cond.selects RX12 yX12_isLesson yX12_isLesson ∈ lw_tbl := List.mem_append_left _ (List.mem_of_getElem? (i := 141) rfl)
theorem li_X12_402 : kLV RX12 402 RX12 yX12_isLesson cX12_isLesson 2 (some .boolean) 1 := ⟨tw_1875, tw_1877, se_X12_isLesson, tw_1878, tw_13, by decide +kernel⟩
theorem dX12_lesson_7 : decode cX12_lesson 7 = .ok (.invokevirtual 402, 3) := by decide +kernel
theorem dX12_lesson_10 : decode cX12_lesson 10 = .ok (.ifCond .eq 13, 3) := by decide +kernel
theorem dX12_lesson_23 : decode cX12_lesson 23 = .ok (.iconst 0, 1) := by decide +kernel
theorem dX12_lesson_24 : decode cX12_lesson 24 = .ok (.ireturn, 1) := by decide +kernel
theorem dX12_day_0 : decode cX12_day 0 = .ok (.aload_n 0, 1) := by decide +kernel
theorem dX12_day_1 : decode cX12_day 1 = .ok (.iconst 0, 1) := by decide +kernel
theorem dX12_day_2 : decode cX12_day 2 = .ok (.putfield 177, 3) := by decide +kernel
theorem dX12_day_5 : decode cX12_day 5 = .ok (.aload_n 0, 1) := by decide +kernel
theorem dX12_day_6 : decode cX12_day 6 = .ok (.iload_n 1, 1) := by decide +kernel
theorem dX12_day_7 : decode cX12_day 7 = .ok (.invokevirtual 402, 3) := by decide +kernel
theorem dX12_day_10 : decode cX12_day 10 = .ok (.ifCond .eq 12, 3) := by decide +kernel
theorem dX12_day_22 : decode cX12_day 22 = .ok (.iconst 0, 1) := by decide +kernel
theorem dX12_day_23 : decode cX12_day 23 = .ok (.ireturn, 1) := by decide +kernel
theorem dX12_chain_0 : decode cX12_chain 0 = .ok (.aload_n 0, 1) := by decide +kernel
theorem dX12_chain_1 : decode cX12_chain 1 = .ok (.iconst 0, 1) := by decide +kernel
theorem dX12_chain_2 : decode cX12_chain 2 = .ok (.putfield 177, 3) := by decide +kernel
theorem dX12_chain_5 : decode cX12_chain 5 = .ok (.aload_n 0, 1) := by decide +kernel
theorem dX12_chain_6 : decode cX12_chain 6 = .ok (.iload_n 1, 1) := by decide +kernel
theorem dX12_chain_7 : decode cX12_chain 7 = .ok (.invokevirtual 402, 3) := by decide +kernel
theorem dX12_chain_10 : decode cX12_chain 10 = .ok (.ifCond .eq 20, 3) := by decide +kernel
theorem dX12_chain_30 : decode cX12_chain 30 = .ok (.iconst 0, 1) := by decide +kernel
theorem dX12_chain_31 : decode cX12_chain 31 = .ok (.ireturn, 1) := by decide +kernel
theorem dX12_become_0 : decode cX12_become 0 = .ok (.aload_n 0, 1) := by decide +kernel
theorem dX12_become_1 : decode cX12_become 1 = .ok (.iconst 0, 1) := by decide +kernel
theorem dX12_become_2 : decode cX12_become 2 = .ok (.putfield 177, 3) := by decide +kernel
theorem dX12_become_5 : decode cX12_become 5 = .ok (.aload_n 0, 1) := by decide +kernel
theorem dX12_become_6 : decode cX12_become 6 = .ok (.iload_n 1, 1) := by decide +kernel
theorem dX12_become_7 : decode cX12_become 7 = .ok (.invokevirtual 402, 3) := by decide +kernel
theorem dX12_become_10 : decode cX12_become 10 = .ok (.ifCond .eq 12, 3) := by decide +kernel
theorem dX12_become_22 : decode cX12_become 22 = .ok (.iconst 0, 1) := by decide +kernel
theorem dX12_become_23 : decode cX12_become 23 = .ok (.ireturn, 1) := by decide +kernel
theorem dX12_far_0 : decode cX12_far 0 = .ok (.aload_n 0, 1) := by decide +kernel
theorem dX12_far_1 : decode cX12_far 1 = .ok (.iconst 0, 1) := by decide +kernel
theorem dX12_far_2 : decode cX12_far 2 = .ok (.putfield 177, 3) := by decide +kernel
theorem dX12_far_5 : decode cX12_far 5 = .ok (.aload_n 0, 1) := by decide +kernel
theorem dX12_far_6 : decode cX12_far 6 = .ok (.iload_n 1, 1) := by decide +kernel
theorem dX12_far_7 : decode cX12_far 7 = .ok (.invokevirtual 402, 3) := by decide +kernel
theorem dX12_far_10 : decode cX12_far 10 = .ok (.ifCond .eq 27, 3) := by decide +kernel
theorem dX12_far_37 : decode cX12_far 37 = .ok (.iconst 0, 1) := by decide +kernel
theorem dX12_far_38 : decode cX12_far 38 = .ok (.ireturn, 1) := by decide +kernel
theorem dX12_reaches_0 : decode cX12_reaches 0 = .ok (.aload_n 0, 1) := by decide +kernel
theorem dX12_reaches_1 : decode cX12_reaches 1 = .ok (.iconst 0, 1) := by decide +kernel
theorem dX12_reaches_2 : decode cX12_reaches 2 = .ok (.putfield 177, 3) := by decide +kernel
theorem dX12_reaches_5 : decode cX12_reaches 5 = .ok (.aload_n 0, 1) := by decide +kernel
theorem dX12_reaches_6 : decode cX12_reaches 6 = .ok (.iload_n 1, 1) := by decide +kernel
theorem dX12_reaches_7 : decode cX12_reaches 7 = .ok (.invokevirtual 402, 3) := by decide +kernel
theorem dX12_reaches_10 : decode cX12_reaches 10 = .ok (.ifCond .eq 29, 3) := by decide +kernel
theorem dX12_reaches_39 : decode cX12_reaches 39 = .ok (.iconst 0, 1) := by decide +kernel
theorem dX12_reaches_40 : decode cX12_reaches 40 = .ok (.ireturn, 1) := by decide +kernel
theorem dX12_slack_0 : decode cX12_slack 0 = .ok (.aload_n 0, 1) := by decide +kernel
theorem dX12_slack_1 : decode cX12_slack 1 = .ok (.iconst 0, 1) := by decide +kernel
theorem dX12_slack_2 : decode cX12_slack 2 = .ok (.putfield 177, 3) := by decide +kernel
theorem dX12_slack_5 : decode cX12_slack 5 = .ok (.aload_n 0, 1) := by decide +kernel
theorem dX12_slack_6 : decode cX12_slack 6 = .ok (.iload_n 1, 1) := by decide +kernel
theorem dX12_slack_7 : decode cX12_slack 7 = .ok (.invokevirtual 402, 3) := by decide +kernel
theorem dX12_slack_10 : decode cX12_slack 10 = .ok (.ifCond .ne 5, 3) := by decide +kernel
theorem dX12_slack_13 : decode cX12_slack 13 = .ok (.iconst 0, 1) := by decide +kernel
theorem dX12_slack_14 : decode cX12_slack 14 = .ok (.ireturn, 1) := by decide +kernel
theorem dX12_gaps_0 : decode cX12_gaps 0 = .ok (.aload_n 0, 1) := by decide +kernel
theorem dX12_gaps_1 : decode cX12_gaps 1 = .ok (.iconst 0, 1) := by decide +kernel
theorem dX12_gaps_2 : decode cX12_gaps 2 = .ok (.putfield 177, 3) := by decide +kernel
theorem dX12_gaps_5 : decode cX12_gaps 5 = .ok (.aload_n 0, 1) := by decide +kernel
theorem dX12_gaps_6 : decode cX12_gaps 6 = .ok (.iload_n 2, 1) := by decide +kernel
theorem dX12_gaps_7 : decode cX12_gaps 7 = .ok (.invokevirtual 402, 3) := by decide +kernel
theorem dX12_gaps_10 : decode cX12_gaps 10 = .ok (.ifCond .eq 49, 3) := by decide +kernel
theorem dX12_gaps_59 : decode cX12_gaps 59 = .ok (.iconst 0, 1) := by decide +kernel
theorem dX12_gaps_60 : decode cX12_gaps 60 = .ok (.ireturn, 1) := by decide +kernel
theorem dX12_gap_0 : decode cX12_gap 0 = .ok (.aload_n 0, 1) := by decide +kernel
theorem dX12_gap_1 : decode cX12_gap 1 = .ok (.iconst 0, 1) := by decide +kernel
theorem dX12_gap_2 : decode cX12_gap 2 = .ok (.putfield 177, 3) := by decide +kernel
theorem dX12_gap_5 : decode cX12_gap 5 = .ok (.aload_n 0, 1) := by decide +kernel
theorem dX12_gap_6 : decode cX12_gap 6 = .ok (.iload_n 1, 1) := by decide +kernel
theorem dX12_gap_7 : decode cX12_gap 7 = .ok (.invokevirtual 402, 3) := by decide +kernel
theorem dX12_gap_10 : decode cX12_gap 10 = .ok (.ifCond .eq 24, 3) := by decide +kernel
theorem dX12_gap_34 : decode cX12_gap 34 = .ok (.iconst 0, 1) := by decide +kernel
theorem dX12_gap_35 : decode cX12_gap 35 = .ok (.ireturn, 1) := by decide +kernel
theorem dX12_chance_0 : decode cX12_chance 0 = .ok (.aload_n 0, 1) := by decide +kernel
theorem dX12_chance_1 : decode cX12_chance 1 = .ok (.iconst 0, 1) := by decide +kernel
theorem dX12_chance_2 : decode cX12_chance 2 = .ok (.putfield 177, 3) := by decide +kernel
theorem dX12_chance_5 : decode cX12_chance 5 = .ok (.aload_n 0, 1) := by decide +kernel
theorem dX12_chance_6 : decode cX12_chance 6 = .ok (.iload_n 1, 1) := by decide +kernel
theorem dX12_chance_7 : decode cX12_chance 7 = .ok (.invokevirtual 402, 3) := by decide +kernel
theorem dX12_chance_10 : decode cX12_chance 10 = .ok (.ifCond .eq 28, 3) := by decide +kernel
theorem dX12_chance_38 : decode cX12_chance 38 = .ok (.lconst 0, 1) := by decide +kernel
theorem dX12_chance_39 : decode cX12_chance 39 = .ok (.lreturn, 1) := by decide +kernel
theorem dX12_mean_0 : decode cX12_mean 0 = .ok (.aload_n 0, 1) := by decide +kernel
theorem dX12_mean_1 : decode cX12_mean 1 = .ok (.iconst 0, 1) := by decide +kernel
theorem dX12_mean_2 : decode cX12_mean 2 = .ok (.putfield 177, 3) := by decide +kernel
theorem dX12_mean_5 : decode cX12_mean 5 = .ok (.aload_n 0, 1) := by decide +kernel
theorem dX12_mean_6 : decode cX12_mean 6 = .ok (.iload_n 1, 1) := by decide +kernel
theorem dX12_mean_7 : decode cX12_mean 7 = .ok (.invokevirtual 402, 3) := by decide +kernel
theorem dX12_mean_10 : decode cX12_mean 10 = .ok (.ifCond .eq 12, 3) := by decide +kernel
theorem dX12_mean_22 : decode cX12_mean 22 = .ok (.lconst 0, 1) := by decide +kernel
theorem dX12_mean_23 : decode cX12_mean 23 = .ok (.lreturn, 1) := by decide +kernel
theorem dX12_room_0 : decode cX12_room 0 = .ok (.aload_n 0, 1) := by decide +kernel
theorem dX12_room_1 : decode cX12_room 1 = .ok (.iconst 0, 1) := by decide +kernel
theorem dX12_room_2 : decode cX12_room 2 = .ok (.putfield 177, 3) := by decide +kernel
theorem dX12_room_5 : decode cX12_room 5 = .ok (.aload_n 0, 1) := by decide +kernel
theorem dX12_room_6 : decode cX12_room 6 = .ok (.iload_n 1, 1) := by decide +kernel
theorem dX12_room_7 : decode cX12_room 7 = .ok (.invokevirtual 402, 3) := by decide +kernel
theorem dX12_room_10 : decode cX12_room 10 = .ok (.ifCond .eq 26, 3) := by decide +kernel
theorem dX12_room_36 : decode cX12_room 36 = .ok (.iconst 0, 1) := by decide +kernel
theorem dX12_room_37 : decode cX12_room 37 = .ok (.ireturn, 1) := by decide +kernel
theorem dX12_limit_0 : decode cX12_limit 0 = .ok (.aload_n 0, 1) := by decide +kernel
theorem dX12_limit_1 : decode cX12_limit 1 = .ok (.iconst 0, 1) := by decide +kernel
theorem dX12_limit_2 : decode cX12_limit 2 = .ok (.putfield 177, 3) := by decide +kernel
theorem dX12_limit_5 : decode cX12_limit 5 = .ok (.aload_n 0, 1) := by decide +kernel
theorem dX12_limit_6 : decode cX12_limit 6 = .ok (.iload_n 1, 1) := by decide +kernel
theorem dX12_limit_7 : decode cX12_limit 7 = .ok (.invokevirtual 402, 3) := by decide +kernel
theorem dX12_limit_10 : decode cX12_limit 10 = .ok (.ifCond .eq 26, 3) := by decide +kernel
theorem dX12_limit_36 : decode cX12_limit 36 = .ok (.iconst 0, 1) := by decide +kernel
theorem dX12_limit_37 : decode cX12_limit 37 = .ok (.ireturn, 1) := by decide +kernel
theorem dX12_see_0 : decode cX12_see 0 = .ok (.aload_n 0, 1) := by decide +kernel
theorem dX12_see_1 : decode cX12_see 1 = .ok (.iconst 0, 1) := by decide +kernel
theorem dX12_see_2 : decode cX12_see 2 = .ok (.putfield 177, 3) := by decide +kernel
theorem dX12_see_5 : decode cX12_see 5 = .ok (.aload_n 0, 1) := by decide +kernel
theorem dX12_see_6 : decode cX12_see 6 = .ok (.iload_n 1, 1) := by decide +kernel
theorem dX12_see_7 : decode cX12_see 7 = .ok (.invokevirtual 402, 3) := by decide +kernel
theorem dX12_see_10 : decode cX12_see 10 = .ok (.ifCond .ne 5, 3) := by decide +kernel
theorem dX12_see_13 : decode cX12_see 13 = .ok (.iconst 0, 1) := by decide +kernel
theorem dX12_see_14 : decode cX12_see 14 = .ok (.ireturn, 1) := by decide +kernel
theorem dX12_term_0 : decode cX12_term 0 = .ok (.aload_n 0, 1) := by decide +kernel
theorem dX12_term_1 : decode cX12_term 1 = .ok (.iconst 0, 1) := by decide +kernel
theorem dX12_term_2 : decode cX12_term 2 = .ok (.putfield 177, 3) := by decide +kernel
theorem dX12_term_5 : decode cX12_term 5 = .ok (.aload_n 0, 1) := by decide +kernel
theorem dX12_term_6 : decode cX12_term 6 = .ok (.iload_n 3, 1) := by decide +kernel
theorem dX12_term_7 : decode cX12_term 7 = .ok (.invokevirtual 402, 3) := by decide +kernel
theorem dX12_term_10 : decode cX12_term 10 = .ok (.ifCond .eq 28, 3) := by decide +kernel
theorem dX12_term_38 : decode cX12_term 38 = .ok (.iconst 0, 1) := by decide +kernel
theorem dX12_term_39 : decode cX12_term 39 = .ok (.ireturn, 1) := by decide +kernel
theorem dX12_shift_0 : decode cX12_shift 0 = .ok (.aload_n 0, 1) := by decide +kernel
theorem dX12_shift_1 : decode cX12_shift 1 = .ok (.iconst 0, 1) := by decide +kernel
theorem dX12_shift_2 : decode cX12_shift 2 = .ok (.putfield 177, 3) := by decide +kernel
theorem dX12_shift_5 : decode cX12_shift 5 = .ok (.aload_n 0, 1) := by decide +kernel
theorem dX12_shift_6 : decode cX12_shift 6 = .ok (.iload_n 1, 1) := by decide +kernel
theorem dX12_shift_7 : decode cX12_shift 7 = .ok (.invokevirtual 402, 3) := by decide +kernel
theorem dX12_shift_10 : decode cX12_shift 10 = .ok (.ifCond .eq 12, 3) := by decide +kernel
theorem dX12_shift_22 : decode cX12_shift 22 = .ok (.iconst 0, 1) := by decide +kernel
theorem dX12_shift_23 : decode cX12_shift 23 = .ok (.ireturn, 1) := by decide +kernel
theorem dX12_harm_0 : decode cX12_harm 0 = .ok (.aload_n 0, 1) := by decide +kernel
theorem dX12_harm_1 : decode cX12_harm 1 = .ok (.iconst 0, 1) := by decide +kernel
theorem dX12_harm_2 : decode cX12_harm 2 = .ok (.putfield 177, 3) := by decide +kernel
theorem dX12_harm_5 : decode cX12_harm 5 = .ok (.aload_n 0, 1) := by decide +kernel
theorem dX12_harm_6 : decode cX12_harm 6 = .ok (.iload_n 1, 1) := by decide +kernel
theorem dX12_harm_7 : decode cX12_harm 7 = .ok (.invokevirtual 402, 3) := by decide +kernel
theorem dX12_harm_10 : decode cX12_harm 10 = .ok (.ifCond .eq 11, 3) := by decide +kernel
theorem dX12_harm_21 : decode cX12_harm 21 = .ok (.iconst 0, 1) := by decide +kernel
theorem dX12_harm_22 : decode cX12_harm 22 = .ok (.ireturn, 1) := by decide +kernel
set_option maxHeartbeats 4000000 in
set_option maxRecDepth 100000 in
theorem c_X12_fault (l : Launch) (G : kG) (sz : Nat) (h0 : Nat) (Fh0 : Nat → Value) (n1 : Int32) (e_h0_20 : Fh0 20 = .int n1) : kM l yX12_fault cX12_fault 1 (some .int) { frames := 6, cells := 0, slots := 0, locals := 110 } G [.ref h0] [(h0, .inr (12, ofL 88 Fh0))] sz (kQi G (S := Unit) (fun r (_ : Unit) => r = n1) (fun _ => [(h0, .inr (12, ofL 88 (updV Fh0 0 (.int 0))))])) := by
  refine kM.of (by decide) (Nat.le_of_ble_eq_true rfl) ?_
  intro p e s m below meth c A ls H C hr hlk hnm hP hD hS hl
  have C : kC G p s m c cX12_fault 1 RX12 A := C
  have hx := C.1
  have hb := C.2.1
  have hl : lv_has ls 1 [(0, .ref h0)] := hl
  refine lv_aload_n hx hb dX12_fault_0 rfl (lv_at hl 0 rfl) ?_
  refine lv_iconst (v := 0) hx hb dX12_fault_1 (by decide) ?_
  refine k_put fl_X12_177 ft_X12_0 C hP hD hS 0 rfl rfl rfl dX12_fault_2 (fun H locs hP hD hS => ?_)
  have hP : va_P G.1 vwCl [(h0, .inr (12, ofL 88 (updV Fh0 0 (.int 0))))] H := hP
  have hD : va_D A [(h0, .inr (12, ofL 88 (updV Fh0 0 (.int 0))))] := hD
  refine lv_aload_n hx hb dX12_fault_5 rfl (lv_at hl 0 rfl) ?_
  refine k_get (v := .int n1) fl_X12_56 C hP 0 rfl e_h0_20 dX12_fault_6 ?_
  exact k_iret C hr hlk hP hD hS () (rfl) [0] rfl rfl (Nat.le_of_ble_eq_true rfl) (Nat.le_of_ble_eq_true rfl) dX12_fault_9
set_option maxHeartbeats 4000000 in
set_option maxRecDepth 100000 in
theorem c_X12_count (l : Launch) (G : kG) (sz : Nat) (h0 : Nat) (n0 : Int32) (Fh0 : Nat → Value) (arf : Nat) (e_h0_1 : Fh0 1 = .int 0) (e_h0_2 : Fh0 2 = .int 0) (e_h0_52 : Fh0 52 = .int (-1)) (e_h0_3 : Fh0 3 = .int 1) (e_h0_4 : Fh0 4 = .int 99) (e_h0_62 : Fh0 62 = .int 0) (e_h0_73 : Fh0 73 = .int 0) (e_h0_18 : Fh0 18 = .int 0) (e_h0_21 : Fh0 21 = .ref arf) : kM l yX12_count cX12_count 2 (some .int) { frames := 8, cells := 0, slots := 0, locals := 158 } G [.ref h0, .int n0] [(h0, .inr (12, ofL 88 Fh0)), (arf, .inl (G.2.1, 3, .inl (fun _ => 0)))] sz (kQi G (S := Nat) (fun r u => (u = 0 ∧ r = 0 ∧ n0 < 0) ∨ (u = 1 ∧ r = 0 ∧ ¬ n0 < 0 ∧ 14 < n0) ∨ (u = 2 ∧ r = 0 ∧ ¬ n0 < 0 ∧ ¬ 14 < n0 ∧ n0 = 0) ∨ (u = 3 ∧ r = 0 ∧ ¬ n0 < 0 ∧ ¬ 14 < n0 ∧ n0 = 1) ∨ (u = 4 ∧ r = -1 ∧ ¬ n0 < 0 ∧ ¬ 14 < n0 ∧ n0 = 2) ∨ (u = 5 ∧ r = 1 ∧ ¬ n0 < 0 ∧ ¬ 14 < n0 ∧ n0 = 3) ∨ (u = 6 ∧ r = 99 ∧ ¬ n0 < 0 ∧ ¬ 14 < n0 ∧ n0 = 4) ∨ (u = 7 ∧ r = 0 ∧ ¬ n0 < 0 ∧ ¬ 14 < n0 ∧ n0 = 5) ∨ (u = 8 ∧ r = 0 ∧ ¬ n0 < 0 ∧ ¬ 14 < n0 ∧ n0 = 6) ∨ (u = 9 ∧ r = 0 ∧ ¬ n0 < 0 ∧ ¬ 14 < n0 ∧ n0 = 7) ∨ (u = 10 ∧ r = 0 ∧ ¬ n0 < 0 ∧ ¬ 14 < n0 ∧ n0 = 8) ∨ (u = 11 ∧ r = 0 ∧ ¬ n0 < 0 ∧ ¬ 14 < n0 ∧ n0 = 9) ∨ (u = 12 ∧ r = 0 ∧ ¬ n0 < 0 ∧ ¬ 14 < n0 ∧ n0 = 10) ∨ (u = 13 ∧ r = 0 ∧ ¬ n0 < 0 ∧ ¬ 14 < n0 ∧ n0 = 11) ∨ (u = 14 ∧ r = 0 ∧ ¬ n0 < 0 ∧ ¬ 14 < n0 ∧ n0 = 12) ∨ (u = 15 ∧ r = 0 ∧ ¬ n0 < 0 ∧ ¬ 14 < n0 ∧ n0 = 13) ∨ (u = 16 ∧ r = 0 ∧ ¬ n0 < 0 ∧ ¬ 14 < n0 ∧ n0 = 14)) (fun u => match u with | 0 => [(arf, .inl (G.2.1, 3, .inl (fun _ => 0))), (h0, .inr (12, ofL 88 (updV (updV Fh0 0 (.int 0)) 0 (.int 1))))] | 1 => [(arf, .inl (G.2.1, 3, .inl (fun _ => 0))), (h0, .inr (12, ofL 88 (updV (updV Fh0 0 (.int 0)) 0 (.int 1))))] | 2 => [(arf, .inl (G.2.1, 3, .inl (fun _ => 0))), (h0, .inr (12, ofL 88 (updV Fh0 0 (.int 0))))] | 3 => [(arf, .inl (G.2.1, 3, .inl (fun _ => 0))), (h0, .inr (12, ofL 88 (updV Fh0 0 (.int 0))))] | 4 => [(arf, .inl (G.2.1, 3, .inl (fun _ => 0))), (h0, .inr (12, ofL 88 (updV Fh0 0 (.int 0))))] | 5 => [(arf, .inl (G.2.1, 3, .inl (fun _ => 0))), (h0, .inr (12, ofL 88 (updV Fh0 0 (.int 0))))] | 6 => [(arf, .inl (G.2.1, 3, .inl (fun _ => 0))), (h0, .inr (12, ofL 88 (updV Fh0 0 (.int 0))))] | 7 => [(arf, .inl (G.2.1, 3, .inl (fun _ => 0))), (h0, .inr (12, ofL 88 (updV Fh0 0 (.int 0))))] | 8 => [(arf, .inl (G.2.1, 3, .inl (fun _ => 0))), (h0, .inr (12, ofL 88 (updV Fh0 0 (.int 0))))] | 9 => [(arf, .inl (G.2.1, 3, .inl (fun _ => 0))), (h0, .inr (12, ofL 88 (updV Fh0 0 (.int 0))))] | 10 => [(arf, .inl (G.2.1, 3, .inl (fun _ => 0))), (h0, .inr (12, ofL 88 (updV Fh0 0 (.int 0))))] | 11 => [(arf, .inl (G.2.1, 3, .inl (fun _ => 0))), (h0, .inr (12, ofL 88 (updV Fh0 0 (.int 0))))] | 12 => [(arf, .inl (G.2.1, 3, .inl (fun _ => 0))), (h0, .inr (12, ofL 88 (updV Fh0 0 (.int 0))))] | 13 => [(arf, .inl (G.2.1, 3, .inl (fun _ => 0))), (h0, .inr (12, ofL 88 (updV Fh0 0 (.int 0))))] | 14 => [(arf, .inl (G.2.1, 3, .inl (fun _ => 0))), (h0, .inr (12, ofL 88 (updV Fh0 0 (.int 0))))] | 15 => [(arf, .inl (G.2.1, 3, .inl (fun _ => 0))), (h0, .inr (12, ofL 88 (updV Fh0 0 (.int 0))))] | _ => [(arf, .inl (G.2.1, 3, .inl (fun _ => 0))), (h0, .inr (12, ofL 88 (updV Fh0 0 (.int 0))))])) := by
  refine kM.of (by decide) (Nat.le_of_ble_eq_true rfl) ?_
  intro p e s m below meth c A ls H C hr hlk hnm hP hD hS hl
  have C : kC G p s m c cX12_count 2 RX12 A := C
  have hx := C.1
  have hb := C.2.1
  have hl : lv_has ls 2 [(0, .ref h0), (1, .int n0)] := hl
  refine lv_aload_n hx hb dX12_count_0 rfl (lv_at hl 0 rfl) ?_
  refine lv_iconst (v := 0) hx hb dX12_count_1 (by decide) ?_
  refine k_put fl_X12_177 ft_X12_0 C hP hD hS 0 rfl rfl rfl dX12_count_2 (fun H locs hP hD hS => ?_)
  have hP : va_P G.1 vwCl [(h0, .inr (12, ofL 88 (updV Fh0 0 (.int 0)))), (arf, .inl (G.2.1, 3, .inl (fun _ => 0)))] H := hP
  have hD : va_D A [(h0, .inr (12, ofL 88 (updV Fh0 0 (.int 0)))), (arf, .inl (G.2.1, 3, .inl (fun _ => 0)))] := hD
  refine lv_aload_n hx hb dX12_count_5 rfl (lv_at hl 0 rfl) ?_
  refine lv_iload_n hx hb dX12_count_6 rfl (lv_at hl 1 rfl) ?_
  refine lv_iconst (v := 0) hx hb dX12_count_7 (by decide) ?_
  refine lv_bipush (v := 14) hx hb dX12_count_8 (by decide) ?_
  refine k_callSi (wr := [(h0, .inr (12, ofL 88 (updV Fh0 0 (.int 0)))), (arf, .inl (G.2.1, 3, .inl (fun _ => 0)))]) (rest := [.ref h0]) li_X12_392 C (c_X12_within l G H.size n0 0 14) (kR rfl) hP hD hS [] [0, 1] rfl rfl rfl rfl (by decide) rfl hl.1 rfl (Nat.le_of_ble_eq_true rfl) dX12_count_10 (fun rr2 uu3 H locs hw1 hP hD hS => ?_)
  rcases hw1 with ⟨rfl, rfl, c_4⟩ | ⟨rfl, rfl, c_5, c_6⟩ | ⟨rfl, rfl, c_7, c_8⟩
  ·
    have hP : va_P G.1 vwCl [(h0, .inr (12, ofL 88 (updV Fh0 0 (.int 0)))), (arf, .inl (G.2.1, 3, .inl (fun _ => 0)))] H := hP
    have hD : va_D A [(h0, .inr (12, ofL 88 (updV Fh0 0 (.int 0)))), (arf, .inl (G.2.1, 3, .inl (fun _ => 0)))] := hD
    refine lv_iconst (v := 1) hx hb dX12_count_13 (by decide) ?_
    refine k_callVi (wr := [(arf, .inl (G.2.1, 3, .inl (fun _ => 0)))]) (rest := []) li_X12_328 C (c_X12_right0 l G H.size h0 1 (updV Fh0 0 (.int 0)) rfl) (kR rfl) hP hD hS [0] [1] rfl rfl rfl rfl (by decide) 0 12 rfl rfl rfl hl.1 rfl (Nat.le_of_ble_eq_true rfl) dX12_count_14 (fun rr10 uu11 H locs hw9 hP hD hS => ?_)
    rcases hw9 with ⟨rfl, rfl, c_12⟩ | ⟨rfl, rfl, c_13⟩
    ·
      have hP : va_P G.1 vwCl [(arf, .inl (G.2.1, 3, .inl (fun _ => 0))), (h0, .inr (12, ofL 88 (updV (updV Fh0 0 (.int 0)) 0 (.int 1))))] H := hP
      have hD : va_D A [(arf, .inl (G.2.1, 3, .inl (fun _ => 0))), (h0, .inr (12, ofL 88 (updV (updV Fh0 0 (.int 0)) 0 (.int 1))))] := hD
      refine lv_if_ne (x := 0) (tgt := 22) hx hb dX12_count_17 (by decide) (fun c_14 => ?_) (fun c_14 => ?_)
      · exact absurd (by decide) c_14
      refine lv_iconst (v := 0) hx hb dX12_count_20 (by decide) ?_
      exact k_iret C hr hlk hP hD hS 0 (Or.inl ⟨rfl, rfl, c_4⟩) [0, 1] rfl rfl (Nat.le_of_ble_eq_true rfl) (Nat.le_of_ble_eq_true rfl) dX12_count_21
    ·
      exact absurd c_13 (by decide)
  ·
    have hP : va_P G.1 vwCl [(h0, .inr (12, ofL 88 (updV Fh0 0 (.int 0)))), (arf, .inl (G.2.1, 3, .inl (fun _ => 0)))] H := hP
    have hD : va_D A [(h0, .inr (12, ofL 88 (updV Fh0 0 (.int 0)))), (arf, .inl (G.2.1, 3, .inl (fun _ => 0)))] := hD
    refine lv_iconst (v := 1) hx hb dX12_count_13 (by decide) ?_
    refine k_callVi (wr := [(arf, .inl (G.2.1, 3, .inl (fun _ => 0)))]) (rest := []) li_X12_328 C (c_X12_right0 l G H.size h0 1 (updV Fh0 0 (.int 0)) rfl) (kR rfl) hP hD hS [0] [1] rfl rfl rfl rfl (by decide) 0 12 rfl rfl rfl hl.1 rfl (Nat.le_of_ble_eq_true rfl) dX12_count_14 (fun rr16 uu17 H locs hw15 hP hD hS => ?_)
    rcases hw15 with ⟨rfl, rfl, c_18⟩ | ⟨rfl, rfl, c_19⟩
    ·
      have hP : va_P G.1 vwCl [(arf, .inl (G.2.1, 3, .inl (fun _ => 0))), (h0, .inr (12, ofL 88 (updV (updV Fh0 0 (.int 0)) 0 (.int 1))))] H := hP
      have hD : va_D A [(arf, .inl (G.2.1, 3, .inl (fun _ => 0))), (h0, .inr (12, ofL 88 (updV (updV Fh0 0 (.int 0)) 0 (.int 1))))] := hD
      refine lv_if_ne (x := 0) (tgt := 22) hx hb dX12_count_17 (by decide) (fun c_20 => ?_) (fun c_20 => ?_)
      · exact absurd (by decide) c_20
      refine lv_iconst (v := 0) hx hb dX12_count_20 (by decide) ?_
      exact k_iret C hr hlk hP hD hS 1 (Or.inr (Or.inl ⟨rfl, rfl, c_5, c_6⟩)) [0, 1] rfl rfl (Nat.le_of_ble_eq_true rfl) (Nat.le_of_ble_eq_true rfl) dX12_count_21
    ·
      exact absurd c_19 (by decide)
  ·
    have hP : va_P G.1 vwCl [(h0, .inr (12, ofL 88 (updV Fh0 0 (.int 0)))), (arf, .inl (G.2.1, 3, .inl (fun _ => 0)))] H := hP
    have hD : va_D A [(h0, .inr (12, ofL 88 (updV Fh0 0 (.int 0)))), (arf, .inl (G.2.1, 3, .inl (fun _ => 0)))] := hD
    refine lv_iconst (v := 1) hx hb dX12_count_13 (by decide) ?_
    refine k_callVi (wr := [(arf, .inl (G.2.1, 3, .inl (fun _ => 0)))]) (rest := []) li_X12_328 C (c_X12_right1 l G H.size h0 1 (updV Fh0 0 (.int 0)) rfl) (kR rfl) hP hD hS [0] [1] rfl rfl rfl rfl (by decide) 0 12 rfl rfl rfl hl.1 rfl (Nat.le_of_ble_eq_true rfl) dX12_count_14 (fun rr22 uu23 H locs hw21 hP hD hS => ?_)
    obtain rfl : rr22 = 1 := hw21
    have hP : va_P G.1 vwCl [(arf, .inl (G.2.1, 3, .inl (fun _ => 0))), (h0, .inr (12, ofL 88 (updV Fh0 0 (.int 0))))] H := hP
    have hD : va_D A [(arf, .inl (G.2.1, 3, .inl (fun _ => 0))), (h0, .inr (12, ofL 88 (updV Fh0 0 (.int 0))))] := hD
    refine lv_if_ne (x := 1) (tgt := 22) hx hb dX12_count_17 (by decide) (fun c_24 => ?_) (fun c_24 => ?_)
    rotate_left
    · exact absurd c_24 (by decide)
    rcases k_rnh15 c_7 c_8 with rfl | rfl | rfl | rfl | rfl | rfl | rfl | rfl | rfl | rfl | rfl | rfl | rfl | rfl | rfl
    ·
      refine lv_iload_n hx hb dX12_count_22 rfl (lv_at hl 1 rfl) ?_
      refine lv_bipush (v := 11) hx hb dX12_count_23 (by decide) ?_
      refine lv_icmp_le (x := 0) (y := 11) (tgt := 34) hx hb dX12_count_25 (by decide) (fun c_25 => ?_) (fun c_25 => ?_)
      rotate_left
      · exact absurd (by decide) c_25
      refine lv_iload_n hx hb dX12_count_34 rfl (lv_at hl 1 rfl) ?_
      refine lv_tableIn (off := 49) (tgt := 84) hx hb dX12_count_35 (by decide) (by decide) (by decide) (by decide) ?_
      refine lv_aload_n hx hb dX12_count_84 rfl (lv_at hl 0 rfl) ?_
      refine k_get (v := .int 0) fl_X12_335 C hP 1 rfl e_h0_1 dX12_count_85 ?_
      exact k_iret C hr hlk hP hD hS 2 (Or.inr (Or.inr (Or.inl ⟨rfl, rfl, c_7, c_8, rfl⟩))) [0, 1] rfl rfl (Nat.le_of_ble_eq_true rfl) (Nat.le_of_ble_eq_true rfl) dX12_count_88
    ·
      refine lv_iload_n hx hb dX12_count_22 rfl (lv_at hl 1 rfl) ?_
      refine lv_bipush (v := 11) hx hb dX12_count_23 (by decide) ?_
      refine lv_icmp_le (x := 1) (y := 11) (tgt := 34) hx hb dX12_count_25 (by decide) (fun c_26 => ?_) (fun c_26 => ?_)
      rotate_left
      · exact absurd (by decide) c_26
      refine lv_iload_n hx hb dX12_count_34 rfl (lv_at hl 1 rfl) ?_
      refine lv_tableIn (off := 54) (tgt := 89) hx hb dX12_count_35 (by decide) (by decide) (by decide) (by decide) ?_
      refine lv_aload_n hx hb dX12_count_89 rfl (lv_at hl 0 rfl) ?_
      refine k_get (v := .int 0) fl_X12_338 C hP 1 rfl e_h0_2 dX12_count_90 ?_
      exact k_iret C hr hlk hP hD hS 3 (Or.inr (Or.inr (Or.inr (Or.inl ⟨rfl, rfl, c_7, c_8, rfl⟩)))) [0, 1] rfl rfl (Nat.le_of_ble_eq_true rfl) (Nat.le_of_ble_eq_true rfl) dX12_count_93
    ·
      refine lv_iload_n hx hb dX12_count_22 rfl (lv_at hl 1 rfl) ?_
      refine lv_bipush (v := 11) hx hb dX12_count_23 (by decide) ?_
      refine lv_icmp_le (x := 2) (y := 11) (tgt := 34) hx hb dX12_count_25 (by decide) (fun c_27 => ?_) (fun c_27 => ?_)
      rotate_left
      · exact absurd (by decide) c_27
      refine lv_iload_n hx hb dX12_count_34 rfl (lv_at hl 1 rfl) ?_
      refine lv_tableIn (off := 59) (tgt := 94) hx hb dX12_count_35 (by decide) (by decide) (by decide) (by decide) ?_
      refine lv_aload_n hx hb dX12_count_94 rfl (lv_at hl 0 rfl) ?_
      refine k_get (v := .int (-1)) fl_X12_105 C hP 1 rfl e_h0_52 dX12_count_95 ?_
      exact k_iret C hr hlk hP hD hS 4 (Or.inr (Or.inr (Or.inr (Or.inr (Or.inl ⟨rfl, rfl, c_7, c_8, rfl⟩))))) [0, 1] rfl rfl (Nat.le_of_ble_eq_true rfl) (Nat.le_of_ble_eq_true rfl) dX12_count_98
    ·
      refine lv_iload_n hx hb dX12_count_22 rfl (lv_at hl 1 rfl) ?_
      refine lv_bipush (v := 11) hx hb dX12_count_23 (by decide) ?_
      refine lv_icmp_le (x := 3) (y := 11) (tgt := 34) hx hb dX12_count_25 (by decide) (fun c_28 => ?_) (fun c_28 => ?_)
      rotate_left
      · exact absurd (by decide) c_28
      refine lv_iload_n hx hb dX12_count_34 rfl (lv_at hl 1 rfl) ?_
      refine lv_tableIn (off := 64) (tgt := 99) hx hb dX12_count_35 (by decide) (by decide) (by decide) (by decide) ?_
      refine lv_aload_n hx hb dX12_count_99 rfl (lv_at hl 0 rfl) ?_
      refine k_get (v := .int 1) fl_X12_7 C hP 1 rfl e_h0_3 dX12_count_100 ?_
      exact k_iret C hr hlk hP hD hS 5 (Or.inr (Or.inr (Or.inr (Or.inr (Or.inr (Or.inl ⟨rfl, rfl, c_7, c_8, rfl⟩)))))) [0, 1] rfl rfl (Nat.le_of_ble_eq_true rfl) (Nat.le_of_ble_eq_true rfl) dX12_count_103
    ·
      refine lv_iload_n hx hb dX12_count_22 rfl (lv_at hl 1 rfl) ?_
      refine lv_bipush (v := 11) hx hb dX12_count_23 (by decide) ?_
      refine lv_icmp_le (x := 4) (y := 11) (tgt := 34) hx hb dX12_count_25 (by decide) (fun c_29 => ?_) (fun c_29 => ?_)
      rotate_left
      · exact absurd (by decide) c_29
      refine lv_iload_n hx hb dX12_count_34 rfl (lv_at hl 1 rfl) ?_
      refine lv_tableIn (off := 69) (tgt := 104) hx hb dX12_count_35 (by decide) (by decide) (by decide) (by decide) ?_
      refine lv_aload_n hx hb dX12_count_104 rfl (lv_at hl 0 rfl) ?_
      refine k_get (v := .int 99) fl_X12_13 C hP 1 rfl e_h0_4 dX12_count_105 ?_
      exact k_iret C hr hlk hP hD hS 6 (Or.inr (Or.inr (Or.inr (Or.inr (Or.inr (Or.inr (Or.inl ⟨rfl, rfl, c_7, c_8, rfl⟩))))))) [0, 1] rfl rfl (Nat.le_of_ble_eq_true rfl) (Nat.le_of_ble_eq_true rfl) dX12_count_108
    ·
      refine lv_iload_n hx hb dX12_count_22 rfl (lv_at hl 1 rfl) ?_
      refine lv_bipush (v := 11) hx hb dX12_count_23 (by decide) ?_
      refine lv_icmp_le (x := 5) (y := 11) (tgt := 34) hx hb dX12_count_25 (by decide) (fun c_30 => ?_) (fun c_30 => ?_)
      rotate_left
      · exact absurd (by decide) c_30
      refine lv_iload_n hx hb dX12_count_34 rfl (lv_at hl 1 rfl) ?_
      refine lv_tableIn (off := 74) (tgt := 109) hx hb dX12_count_35 (by decide) (by decide) (by decide) (by decide) ?_
      refine lv_aload_n hx hb dX12_count_109 rfl (lv_at hl 0 rfl) ?_
      refine k_get (v := .int 0) fl_X12_345 C hP 1 rfl e_h0_62 dX12_count_110 ?_
      exact k_iret C hr hlk hP hD hS 7 (Or.inr (Or.inr (Or.inr (Or.inr (Or.inr (Or.inr (Or.inr (Or.inl ⟨rfl, rfl, c_7, c_8, rfl⟩)))))))) [0, 1] rfl rfl (Nat.le_of_ble_eq_true rfl) (Nat.le_of_ble_eq_true rfl) dX12_count_113
    ·
      refine lv_iload_n hx hb dX12_count_22 rfl (lv_at hl 1 rfl) ?_
      refine lv_bipush (v := 11) hx hb dX12_count_23 (by decide) ?_
      refine lv_icmp_le (x := 6) (y := 11) (tgt := 34) hx hb dX12_count_25 (by decide) (fun c_31 => ?_) (fun c_31 => ?_)
      rotate_left
      · exact absurd (by decide) c_31
      refine lv_iload_n hx hb dX12_count_34 rfl (lv_at hl 1 rfl) ?_
      refine lv_tableIn (off := 79) (tgt := 114) hx hb dX12_count_35 (by decide) (by decide) (by decide) (by decide) ?_
      refine lv_aload_n hx hb dX12_count_114 rfl (lv_at hl 0 rfl) ?_
      refine k_get (v := .int 0) fl_X12_348 C hP 1 rfl e_h0_73 dX12_count_115 ?_
      exact k_iret C hr hlk hP hD hS 8 (Or.inr (Or.inr (Or.inr (Or.inr (Or.inr (Or.inr (Or.inr (Or.inr (Or.inl ⟨rfl, rfl, c_7, c_8, rfl⟩))))))))) [0, 1] rfl rfl (Nat.le_of_ble_eq_true rfl) (Nat.le_of_ble_eq_true rfl) dX12_count_118
    ·
      refine lv_iload_n hx hb dX12_count_22 rfl (lv_at hl 1 rfl) ?_
      refine lv_bipush (v := 11) hx hb dX12_count_23 (by decide) ?_
      refine lv_icmp_le (x := 7) (y := 11) (tgt := 34) hx hb dX12_count_25 (by decide) (fun c_32 => ?_) (fun c_32 => ?_)
      rotate_left
      · exact absurd (by decide) c_32
      refine lv_iload_n hx hb dX12_count_34 rfl (lv_at hl 1 rfl) ?_
      refine lv_tableIn (off := 84) (tgt := 119) hx hb dX12_count_35 (by decide) (by decide) (by decide) (by decide) ?_
      refine lv_aload_n hx hb dX12_count_119 rfl (lv_at hl 0 rfl) ?_
      refine k_callVi (wr := [(arf, .inl (G.2.1, 3, .inl (fun _ => 0)))]) (rest := []) li_X12_399 C (c_X12_lost l G H.size h0 (updV Fh0 0 (.int 0)) e_h0_1) (kR rfl) hP hD hS [1] [0] rfl rfl rfl rfl (by decide) 0 12 rfl rfl rfl hl.1 rfl (Nat.le_of_ble_eq_true rfl) dX12_count_120 (fun rr34 uu35 H locs hw33 hP hD hS => ?_)
      obtain rfl : rr34 = 0 := hw33
      have hP : va_P G.1 vwCl [(arf, .inl (G.2.1, 3, .inl (fun _ => 0))), (h0, .inr (12, ofL 88 (updV Fh0 0 (.int 0))))] H := hP
      have hD : va_D A [(arf, .inl (G.2.1, 3, .inl (fun _ => 0))), (h0, .inr (12, ofL 88 (updV Fh0 0 (.int 0))))] := hD
      exact k_iret C hr hlk hP hD hS 9 (Or.inr (Or.inr (Or.inr (Or.inr (Or.inr (Or.inr (Or.inr (Or.inr (Or.inr (Or.inl ⟨rfl, rfl, c_7, c_8, rfl⟩)))))))))) [0, 1] rfl rfl (Nat.le_of_ble_eq_true rfl) (Nat.le_of_ble_eq_true rfl) dX12_count_123
    ·
      refine lv_iload_n hx hb dX12_count_22 rfl (lv_at hl 1 rfl) ?_
      refine lv_bipush (v := 11) hx hb dX12_count_23 (by decide) ?_
      refine lv_icmp_le (x := 8) (y := 11) (tgt := 34) hx hb dX12_count_25 (by decide) (fun c_36 => ?_) (fun c_36 => ?_)
      rotate_left
      · exact absurd (by decide) c_36
      refine lv_iload_n hx hb dX12_count_34 rfl (lv_at hl 1 rfl) ?_
      refine lv_tableIn (off := 89) (tgt := 124) hx hb dX12_count_35 (by decide) (by decide) (by decide) (by decide) ?_
      refine lv_aload_n hx hb dX12_count_124 rfl (lv_at hl 0 rfl) ?_
      refine k_get (v := .int 0) fl_X12_180 C hP 1 rfl e_h0_18 dX12_count_125 ?_
      exact k_iret C hr hlk hP hD hS 10 (Or.inr (Or.inr (Or.inr (Or.inr (Or.inr (Or.inr (Or.inr (Or.inr (Or.inr (Or.inr (Or.inl ⟨rfl, rfl, c_7, c_8, rfl⟩))))))))))) [0, 1] rfl rfl (Nat.le_of_ble_eq_true rfl) (Nat.le_of_ble_eq_true rfl) dX12_count_128
    ·
      refine lv_iload_n hx hb dX12_count_22 rfl (lv_at hl 1 rfl) ?_
      refine lv_bipush (v := 11) hx hb dX12_count_23 (by decide) ?_
      refine lv_icmp_le (x := 9) (y := 11) (tgt := 34) hx hb dX12_count_25 (by decide) (fun c_37 => ?_) (fun c_37 => ?_)
      rotate_left
      · exact absurd (by decide) c_37
      refine lv_iload_n hx hb dX12_count_34 rfl (lv_at hl 1 rfl) ?_
      refine lv_tableOut (tgt := 129) hx hb dX12_count_35 (by decide) (by decide) ?_
      refine lv_aload_n hx hb dX12_count_129 rfl (lv_at hl 0 rfl) ?_
      refine k_get (v := .ref arf) fl_X12_59 C hP 1 rfl e_h0_21 dX12_count_130 ?_
      refine lv_iload_n hx hb dX12_count_133 rfl (lv_at hl 1 rfl) ?_
      refine lv_bipush (v := 9) hx hb dX12_count_134 (by decide) ?_
      refine lv_isub hx hb dX12_count_136 ?_
      refine k_eqi (y := 0) (by decide) ?_
      refine k_iald C hP 0 rfl (k_in (by decide)) dX12_count_137 ?_
      refine k_eqi (y := 0) rfl ?_
      exact k_iret C hr hlk hP hD hS 11 (Or.inr (Or.inr (Or.inr (Or.inr (Or.inr (Or.inr (Or.inr (Or.inr (Or.inr (Or.inr (Or.inr (Or.inl ⟨rfl, rfl, c_7, c_8, rfl⟩)))))))))))) [0, 1] rfl rfl (Nat.le_of_ble_eq_true rfl) (Nat.le_of_ble_eq_true rfl) dX12_count_138
    ·
      refine lv_iload_n hx hb dX12_count_22 rfl (lv_at hl 1 rfl) ?_
      refine lv_bipush (v := 11) hx hb dX12_count_23 (by decide) ?_
      refine lv_icmp_le (x := 10) (y := 11) (tgt := 34) hx hb dX12_count_25 (by decide) (fun c_38 => ?_) (fun c_38 => ?_)
      rotate_left
      · exact absurd (by decide) c_38
      refine lv_iload_n hx hb dX12_count_34 rfl (lv_at hl 1 rfl) ?_
      refine lv_tableOut (tgt := 129) hx hb dX12_count_35 (by decide) (by decide) ?_
      refine lv_aload_n hx hb dX12_count_129 rfl (lv_at hl 0 rfl) ?_
      refine k_get (v := .ref arf) fl_X12_59 C hP 1 rfl e_h0_21 dX12_count_130 ?_
      refine lv_iload_n hx hb dX12_count_133 rfl (lv_at hl 1 rfl) ?_
      refine lv_bipush (v := 9) hx hb dX12_count_134 (by decide) ?_
      refine lv_isub hx hb dX12_count_136 ?_
      refine k_eqi (y := 1) (by decide) ?_
      refine k_iald C hP 0 rfl (k_in (by decide)) dX12_count_137 ?_
      refine k_eqi (y := 0) rfl ?_
      exact k_iret C hr hlk hP hD hS 12 (Or.inr (Or.inr (Or.inr (Or.inr (Or.inr (Or.inr (Or.inr (Or.inr (Or.inr (Or.inr (Or.inr (Or.inr (Or.inl ⟨rfl, rfl, c_7, c_8, rfl⟩))))))))))))) [0, 1] rfl rfl (Nat.le_of_ble_eq_true rfl) (Nat.le_of_ble_eq_true rfl) dX12_count_138
    ·
      refine lv_iload_n hx hb dX12_count_22 rfl (lv_at hl 1 rfl) ?_
      refine lv_bipush (v := 11) hx hb dX12_count_23 (by decide) ?_
      refine lv_icmp_le (x := 11) (y := 11) (tgt := 34) hx hb dX12_count_25 (by decide) (fun c_39 => ?_) (fun c_39 => ?_)
      rotate_left
      · exact absurd (by decide) c_39
      refine lv_iload_n hx hb dX12_count_34 rfl (lv_at hl 1 rfl) ?_
      refine lv_tableOut (tgt := 129) hx hb dX12_count_35 (by decide) (by decide) ?_
      refine lv_aload_n hx hb dX12_count_129 rfl (lv_at hl 0 rfl) ?_
      refine k_get (v := .ref arf) fl_X12_59 C hP 1 rfl e_h0_21 dX12_count_130 ?_
      refine lv_iload_n hx hb dX12_count_133 rfl (lv_at hl 1 rfl) ?_
      refine lv_bipush (v := 9) hx hb dX12_count_134 (by decide) ?_
      refine lv_isub hx hb dX12_count_136 ?_
      refine k_eqi (y := 2) (by decide) ?_
      refine k_iald C hP 0 rfl (k_in (by decide)) dX12_count_137 ?_
      refine k_eqi (y := 0) rfl ?_
      exact k_iret C hr hlk hP hD hS 13 (Or.inr (Or.inr (Or.inr (Or.inr (Or.inr (Or.inr (Or.inr (Or.inr (Or.inr (Or.inr (Or.inr (Or.inr (Or.inr (Or.inl ⟨rfl, rfl, c_7, c_8, rfl⟩)))))))))))))) [0, 1] rfl rfl (Nat.le_of_ble_eq_true rfl) (Nat.le_of_ble_eq_true rfl) dX12_count_138
    ·
      refine lv_iload_n hx hb dX12_count_22 rfl (lv_at hl 1 rfl) ?_
      refine lv_bipush (v := 11) hx hb dX12_count_23 (by decide) ?_
      refine lv_icmp_le (x := 12) (y := 11) (tgt := 34) hx hb dX12_count_25 (by decide) (fun c_40 => ?_) (fun c_40 => ?_)
      · exact absurd c_40 (by decide)
      refine lv_aload_n hx hb dX12_count_28 rfl (lv_at hl 0 rfl) ?_
      refine lv_iload_n hx hb dX12_count_29 rfl (lv_at hl 1 rfl) ?_
      refine k_callVi (wr := [(arf, .inl (G.2.1, 3, .inl (fun _ => 0)))]) (rest := []) li_X12_396 C (c_X12_lateness12 l G H.size h0 (updV Fh0 0 (.int 0)) e_h0_1) (kR rfl) hP hD hS [1] [0] rfl rfl rfl rfl (by decide) 0 12 rfl rfl rfl hl.1 rfl (Nat.le_of_ble_eq_true rfl) dX12_count_30 (fun rr42 uu43 H locs hw41 hP hD hS => ?_)
      obtain rfl : rr42 = 0 := hw41
      have hP : va_P G.1 vwCl [(arf, .inl (G.2.1, 3, .inl (fun _ => 0))), (h0, .inr (12, ofL 88 (updV Fh0 0 (.int 0))))] H := hP
      have hD : va_D A [(arf, .inl (G.2.1, 3, .inl (fun _ => 0))), (h0, .inr (12, ofL 88 (updV Fh0 0 (.int 0))))] := hD
      exact k_iret C hr hlk hP hD hS 14 (Or.inr (Or.inr (Or.inr (Or.inr (Or.inr (Or.inr (Or.inr (Or.inr (Or.inr (Or.inr (Or.inr (Or.inr (Or.inr (Or.inr (Or.inl ⟨rfl, rfl, c_7, c_8, rfl⟩))))))))))))))) [0, 1] rfl rfl (Nat.le_of_ble_eq_true rfl) (Nat.le_of_ble_eq_true rfl) dX12_count_33
    ·
      refine lv_iload_n hx hb dX12_count_22 rfl (lv_at hl 1 rfl) ?_
      refine lv_bipush (v := 11) hx hb dX12_count_23 (by decide) ?_
      refine lv_icmp_le (x := 13) (y := 11) (tgt := 34) hx hb dX12_count_25 (by decide) (fun c_44 => ?_) (fun c_44 => ?_)
      · exact absurd c_44 (by decide)
      refine lv_aload_n hx hb dX12_count_28 rfl (lv_at hl 0 rfl) ?_
      refine lv_iload_n hx hb dX12_count_29 rfl (lv_at hl 1 rfl) ?_
      refine k_callVi (wr := [(arf, .inl (G.2.1, 3, .inl (fun _ => 0)))]) (rest := []) li_X12_396 C (c_X12_lateness13 l G H.size h0 (updV Fh0 0 (.int 0)) e_h0_1) (kR rfl) hP hD hS [1] [0] rfl rfl rfl rfl (by decide) 0 12 rfl rfl rfl hl.1 rfl (Nat.le_of_ble_eq_true rfl) dX12_count_30 (fun rr46 uu47 H locs hw45 hP hD hS => ?_)
      obtain rfl : rr46 = 0 := hw45
      have hP : va_P G.1 vwCl [(arf, .inl (G.2.1, 3, .inl (fun _ => 0))), (h0, .inr (12, ofL 88 (updV Fh0 0 (.int 0))))] H := hP
      have hD : va_D A [(arf, .inl (G.2.1, 3, .inl (fun _ => 0))), (h0, .inr (12, ofL 88 (updV Fh0 0 (.int 0))))] := hD
      exact k_iret C hr hlk hP hD hS 15 (Or.inr (Or.inr (Or.inr (Or.inr (Or.inr (Or.inr (Or.inr (Or.inr (Or.inr (Or.inr (Or.inr (Or.inr (Or.inr (Or.inr (Or.inr (Or.inl ⟨rfl, rfl, c_7, c_8, rfl⟩)))))))))))))))) [0, 1] rfl rfl (Nat.le_of_ble_eq_true rfl) (Nat.le_of_ble_eq_true rfl) dX12_count_33
    ·
      refine lv_iload_n hx hb dX12_count_22 rfl (lv_at hl 1 rfl) ?_
      refine lv_bipush (v := 11) hx hb dX12_count_23 (by decide) ?_
      refine lv_icmp_le (x := 14) (y := 11) (tgt := 34) hx hb dX12_count_25 (by decide) (fun c_48 => ?_) (fun c_48 => ?_)
      · exact absurd c_48 (by decide)
      refine lv_aload_n hx hb dX12_count_28 rfl (lv_at hl 0 rfl) ?_
      refine lv_iload_n hx hb dX12_count_29 rfl (lv_at hl 1 rfl) ?_
      refine k_callVi (wr := [(arf, .inl (G.2.1, 3, .inl (fun _ => 0)))]) (rest := []) li_X12_396 C (c_X12_lateness14 l G H.size h0 (updV Fh0 0 (.int 0)) e_h0_1) (kR rfl) hP hD hS [1] [0] rfl rfl rfl rfl (by decide) 0 12 rfl rfl rfl hl.1 rfl (Nat.le_of_ble_eq_true rfl) dX12_count_30 (fun rr50 uu51 H locs hw49 hP hD hS => ?_)
      obtain rfl : rr50 = 0 := hw49
      have hP : va_P G.1 vwCl [(arf, .inl (G.2.1, 3, .inl (fun _ => 0))), (h0, .inr (12, ofL 88 (updV Fh0 0 (.int 0))))] H := hP
      have hD : va_D A [(arf, .inl (G.2.1, 3, .inl (fun _ => 0))), (h0, .inr (12, ofL 88 (updV Fh0 0 (.int 0))))] := hD
      exact k_iret C hr hlk hP hD hS 16 (Or.inr (Or.inr (Or.inr (Or.inr (Or.inr (Or.inr (Or.inr (Or.inr (Or.inr (Or.inr (Or.inr (Or.inr (Or.inr (Or.inr (Or.inr (Or.inr (⟨rfl, rfl, c_7, c_8, rfl⟩))))))))))))))))) [0, 1] rfl rfl (Nat.le_of_ble_eq_true rfl) (Nat.le_of_ble_eq_true rfl) dX12_count_33
set_option maxHeartbeats 4000000 in
set_option maxRecDepth 100000 in
theorem c_X12_lesson (l : Launch) (G : kG) (sz : Nat) (h0 : Nat) (n0 : Int32) (n1 : Int32) (Fh0 : Nat → Value) (e_h0_1 : Fh0 1 = .int 0) : kM l yX12_lesson cX12_lesson 3 (some .int) { frames := 8, cells := 0, slots := 0, locals := 153 } G [.ref h0, .int n0, .int n1] [(h0, .inr (12, ofL 88 Fh0))] sz (kQi G (S := Nat) (fun r u => (u = 0 ∧ r = 0 ∧ n0 < 0) ∨ (u = 1 ∧ r = 0 ∧ ¬ n0 < 0)) (fun u => match u with | 0 => [(h0, .inr (12, ofL 88 (updV (updV Fh0 0 (.int 0)) 0 (.int 1))))] | _ => [(h0, .inr (12, ofL 88 (updV (updV Fh0 0 (.int 0)) 0 (.int 1))))])) := by
  refine kM.of (by decide) (Nat.le_of_ble_eq_true rfl) ?_
  intro p e s m below meth c A ls H C hr hlk hnm hP hD hS hl
  have C : kC G p s m c cX12_lesson 3 RX12 A := C
  have hx := C.1
  have hb := C.2.1
  have hl : lv_has ls 3 [(0, .ref h0), (1, .int n0), (2, .int n1)] := hl
  refine lv_aload_n hx hb dX12_lesson_0 rfl (lv_at hl 0 rfl) ?_
  refine lv_iconst (v := 0) hx hb dX12_lesson_1 (by decide) ?_
  refine k_put fl_X12_177 ft_X12_0 C hP hD hS 0 rfl rfl rfl dX12_lesson_2 (fun H locs hP hD hS => ?_)
  have hP : va_P G.1 vwCl [(h0, .inr (12, ofL 88 (updV Fh0 0 (.int 0))))] H := hP
  have hD : va_D A [(h0, .inr (12, ofL 88 (updV Fh0 0 (.int 0))))] := hD
  refine lv_aload_n hx hb dX12_lesson_5 rfl (lv_at hl 0 rfl) ?_
  refine lv_iload_n hx hb dX12_lesson_6 rfl (lv_at hl 1 rfl) ?_
  refine k_callVi (wr := []) (rest := []) li_X12_402 C (c_X12_isLesson l G H.size h0 n0 (updV Fh0 0 (.int 0)) rfl e_h0_1) (kR rfl) hP hD hS [0] [] rfl rfl rfl rfl (by decide) 0 12 rfl rfl rfl hl.1 rfl (Nat.le_of_ble_eq_true rfl) dX12_lesson_7 (fun rr2 uu3 H locs hw1 hP hD hS => ?_)
  rcases hw1 with ⟨rfl, rfl, c_4⟩ | ⟨rfl, rfl, c_5⟩
  ·
    have hP : va_P G.1 vwCl [(h0, .inr (12, ofL 88 (updV (updV Fh0 0 (.int 0)) 0 (.int 1))))] H := hP
    have hD : va_D A [(h0, .inr (12, ofL 88 (updV (updV Fh0 0 (.int 0)) 0 (.int 1))))] := hD
    refine lv_if_eq (x := 0) (tgt := 23) hx hb dX12_lesson_10 (by decide) (fun c_6 => ?_) (fun c_6 => ?_)
    rotate_left
    · exact absurd (by decide) c_6
    refine lv_iconst (v := 0) hx hb dX12_lesson_23 (by decide) ?_
    exact k_iret C hr hlk hP hD hS 0 (Or.inl ⟨rfl, rfl, c_4⟩) [0] rfl rfl (Nat.le_of_ble_eq_true rfl) (Nat.le_of_ble_eq_true rfl) dX12_lesson_24
  ·
    have hP : va_P G.1 vwCl [(h0, .inr (12, ofL 88 (updV (updV Fh0 0 (.int 0)) 0 (.int 1))))] H := hP
    have hD : va_D A [(h0, .inr (12, ofL 88 (updV (updV Fh0 0 (.int 0)) 0 (.int 1))))] := hD
    refine lv_if_eq (x := 0) (tgt := 23) hx hb dX12_lesson_10 (by decide) (fun c_7 => ?_) (fun c_7 => ?_)
    rotate_left
    · exact absurd (by decide) c_7
    refine lv_iconst (v := 0) hx hb dX12_lesson_23 (by decide) ?_
    exact k_iret C hr hlk hP hD hS 1 (Or.inr (⟨rfl, rfl, c_5⟩)) [0] rfl rfl (Nat.le_of_ble_eq_true rfl) (Nat.le_of_ble_eq_true rfl) dX12_lesson_24
set_option maxHeartbeats 4000000 in
set_option maxRecDepth 100000 in
theorem c_X12_day (l : Launch) (G : kG) (sz : Nat) (h0 : Nat) (n0 : Int32) (n1 : Int32) (Fh0 : Nat → Value) (e_h0_1 : Fh0 1 = .int 0) : kM l yX12_day cX12_day 3 (some .int) { frames := 8, cells := 0, slots := 0, locals := 153 } G [.ref h0, .int n0, .int n1] [(h0, .inr (12, ofL 88 Fh0))] sz (kQi G (S := Nat) (fun r u => (u = 0 ∧ r = 0 ∧ n0 < 0) ∨ (u = 1 ∧ r = 0 ∧ ¬ n0 < 0)) (fun u => match u with | 0 => [(h0, .inr (12, ofL 88 (updV (updV Fh0 0 (.int 0)) 0 (.int 1))))] | _ => [(h0, .inr (12, ofL 88 (updV (updV Fh0 0 (.int 0)) 0 (.int 1))))])) := by
  refine kM.of (by decide) (Nat.le_of_ble_eq_true rfl) ?_
  intro p e s m below meth c A ls H C hr hlk hnm hP hD hS hl
  have C : kC G p s m c cX12_day 3 RX12 A := C
  have hx := C.1
  have hb := C.2.1
  have hl : lv_has ls 3 [(0, .ref h0), (1, .int n0), (2, .int n1)] := hl
  refine lv_aload_n hx hb dX12_day_0 rfl (lv_at hl 0 rfl) ?_
  refine lv_iconst (v := 0) hx hb dX12_day_1 (by decide) ?_
  refine k_put fl_X12_177 ft_X12_0 C hP hD hS 0 rfl rfl rfl dX12_day_2 (fun H locs hP hD hS => ?_)
  have hP : va_P G.1 vwCl [(h0, .inr (12, ofL 88 (updV Fh0 0 (.int 0))))] H := hP
  have hD : va_D A [(h0, .inr (12, ofL 88 (updV Fh0 0 (.int 0))))] := hD
  refine lv_aload_n hx hb dX12_day_5 rfl (lv_at hl 0 rfl) ?_
  refine lv_iload_n hx hb dX12_day_6 rfl (lv_at hl 1 rfl) ?_
  refine k_callVi (wr := []) (rest := []) li_X12_402 C (c_X12_isLesson l G H.size h0 n0 (updV Fh0 0 (.int 0)) rfl e_h0_1) (kR rfl) hP hD hS [0] [] rfl rfl rfl rfl (by decide) 0 12 rfl rfl rfl hl.1 rfl (Nat.le_of_ble_eq_true rfl) dX12_day_7 (fun rr2 uu3 H locs hw1 hP hD hS => ?_)
  rcases hw1 with ⟨rfl, rfl, c_4⟩ | ⟨rfl, rfl, c_5⟩
  ·
    have hP : va_P G.1 vwCl [(h0, .inr (12, ofL 88 (updV (updV Fh0 0 (.int 0)) 0 (.int 1))))] H := hP
    have hD : va_D A [(h0, .inr (12, ofL 88 (updV (updV Fh0 0 (.int 0)) 0 (.int 1))))] := hD
    refine lv_if_eq (x := 0) (tgt := 22) hx hb dX12_day_10 (by decide) (fun c_6 => ?_) (fun c_6 => ?_)
    rotate_left
    · exact absurd (by decide) c_6
    refine lv_iconst (v := 0) hx hb dX12_day_22 (by decide) ?_
    exact k_iret C hr hlk hP hD hS 0 (Or.inl ⟨rfl, rfl, c_4⟩) [0] rfl rfl (Nat.le_of_ble_eq_true rfl) (Nat.le_of_ble_eq_true rfl) dX12_day_23
  ·
    have hP : va_P G.1 vwCl [(h0, .inr (12, ofL 88 (updV (updV Fh0 0 (.int 0)) 0 (.int 1))))] H := hP
    have hD : va_D A [(h0, .inr (12, ofL 88 (updV (updV Fh0 0 (.int 0)) 0 (.int 1))))] := hD
    refine lv_if_eq (x := 0) (tgt := 22) hx hb dX12_day_10 (by decide) (fun c_7 => ?_) (fun c_7 => ?_)
    rotate_left
    · exact absurd (by decide) c_7
    refine lv_iconst (v := 0) hx hb dX12_day_22 (by decide) ?_
    exact k_iret C hr hlk hP hD hS 1 (Or.inr (⟨rfl, rfl, c_5⟩)) [0] rfl rfl (Nat.le_of_ble_eq_true rfl) (Nat.le_of_ble_eq_true rfl) dX12_day_23
set_option maxHeartbeats 4000000 in
set_option maxRecDepth 100000 in
theorem c_X12_chain (l : Launch) (G : kG) (sz : Nat) (h0 : Nat) (n0 : Int32) (n1 : Int32) (Fh0 : Nat → Value) (e_h0_1 : Fh0 1 = .int 0) : kM l yX12_chain cX12_chain 5 (some .int) { frames := 8, cells := 0, slots := 0, locals := 153 } G [.ref h0, .int n0, .int n1] [(h0, .inr (12, ofL 88 Fh0))] sz (kQi G (S := Nat) (fun r u => (u = 0 ∧ r = 0 ∧ n0 < 0) ∨ (u = 1 ∧ r = 0 ∧ ¬ n0 < 0)) (fun u => match u with | 0 => [(h0, .inr (12, ofL 88 (updV (updV Fh0 0 (.int 0)) 0 (.int 1))))] | _ => [(h0, .inr (12, ofL 88 (updV (updV Fh0 0 (.int 0)) 0 (.int 1))))])) := by
  refine kM.of (by decide) (Nat.le_of_ble_eq_true rfl) ?_
  intro p e s m below meth c A ls H C hr hlk hnm hP hD hS hl
  have C : kC G p s m c cX12_chain 5 RX12 A := C
  have hx := C.1
  have hb := C.2.1
  have hl : lv_has ls 5 [(0, .ref h0), (1, .int n0), (2, .int n1)] := hl
  refine lv_aload_n hx hb dX12_chain_0 rfl (lv_at hl 0 rfl) ?_
  refine lv_iconst (v := 0) hx hb dX12_chain_1 (by decide) ?_
  refine k_put fl_X12_177 ft_X12_0 C hP hD hS 0 rfl rfl rfl dX12_chain_2 (fun H locs hP hD hS => ?_)
  have hP : va_P G.1 vwCl [(h0, .inr (12, ofL 88 (updV Fh0 0 (.int 0))))] H := hP
  have hD : va_D A [(h0, .inr (12, ofL 88 (updV Fh0 0 (.int 0))))] := hD
  refine lv_aload_n hx hb dX12_chain_5 rfl (lv_at hl 0 rfl) ?_
  refine lv_iload_n hx hb dX12_chain_6 rfl (lv_at hl 1 rfl) ?_
  refine k_callVi (wr := []) (rest := []) li_X12_402 C (c_X12_isLesson l G H.size h0 n0 (updV Fh0 0 (.int 0)) rfl e_h0_1) (kR rfl) hP hD hS [0] [] rfl rfl rfl rfl (by decide) 0 12 rfl rfl rfl hl.1 rfl (Nat.le_of_ble_eq_true rfl) dX12_chain_7 (fun rr2 uu3 H locs hw1 hP hD hS => ?_)
  rcases hw1 with ⟨rfl, rfl, c_4⟩ | ⟨rfl, rfl, c_5⟩
  ·
    have hP : va_P G.1 vwCl [(h0, .inr (12, ofL 88 (updV (updV Fh0 0 (.int 0)) 0 (.int 1))))] H := hP
    have hD : va_D A [(h0, .inr (12, ofL 88 (updV (updV Fh0 0 (.int 0)) 0 (.int 1))))] := hD
    refine lv_if_eq (x := 0) (tgt := 30) hx hb dX12_chain_10 (by decide) (fun c_6 => ?_) (fun c_6 => ?_)
    rotate_left
    · exact absurd (by decide) c_6
    refine lv_iconst (v := 0) hx hb dX12_chain_30 (by decide) ?_
    exact k_iret C hr hlk hP hD hS 0 (Or.inl ⟨rfl, rfl, c_4⟩) [0] rfl rfl (Nat.le_of_ble_eq_true rfl) (Nat.le_of_ble_eq_true rfl) dX12_chain_31
  ·
    have hP : va_P G.1 vwCl [(h0, .inr (12, ofL 88 (updV (updV Fh0 0 (.int 0)) 0 (.int 1))))] H := hP
    have hD : va_D A [(h0, .inr (12, ofL 88 (updV (updV Fh0 0 (.int 0)) 0 (.int 1))))] := hD
    refine lv_if_eq (x := 0) (tgt := 30) hx hb dX12_chain_10 (by decide) (fun c_7 => ?_) (fun c_7 => ?_)
    rotate_left
    · exact absurd (by decide) c_7
    refine lv_iconst (v := 0) hx hb dX12_chain_30 (by decide) ?_
    exact k_iret C hr hlk hP hD hS 1 (Or.inr (⟨rfl, rfl, c_5⟩)) [0] rfl rfl (Nat.le_of_ble_eq_true rfl) (Nat.le_of_ble_eq_true rfl) dX12_chain_31
set_option maxHeartbeats 4000000 in
set_option maxRecDepth 100000 in
theorem c_X12_become (l : Launch) (G : kG) (sz : Nat) (h0 : Nat) (n0 : Int32) (n1 : Int32) (n2 : Int32) (Fh0 : Nat → Value) (e_h0_1 : Fh0 1 = .int 0) : kM l yX12_become cX12_become 6 (some .int) { frames := 8, cells := 0, slots := 0, locals := 153 } G [.ref h0, .int n0, .int n1, .int n2] [(h0, .inr (12, ofL 88 Fh0))] sz (kQi G (S := Nat) (fun r u => (u = 0 ∧ r = 0 ∧ n0 < 0) ∨ (u = 1 ∧ r = 0 ∧ ¬ n0 < 0)) (fun u => match u with | 0 => [(h0, .inr (12, ofL 88 (updV (updV Fh0 0 (.int 0)) 0 (.int 1))))] | _ => [(h0, .inr (12, ofL 88 (updV (updV Fh0 0 (.int 0)) 0 (.int 1))))])) := by
  refine kM.of (by decide) (Nat.le_of_ble_eq_true rfl) ?_
  intro p e s m below meth c A ls H C hr hlk hnm hP hD hS hl
  have C : kC G p s m c cX12_become 6 RX12 A := C
  have hx := C.1
  have hb := C.2.1
  have hl : lv_has ls 6 [(0, .ref h0), (1, .int n0), (2, .int n1), (3, .int n2)] := hl
  refine lv_aload_n hx hb dX12_become_0 rfl (lv_at hl 0 rfl) ?_
  refine lv_iconst (v := 0) hx hb dX12_become_1 (by decide) ?_
  refine k_put fl_X12_177 ft_X12_0 C hP hD hS 0 rfl rfl rfl dX12_become_2 (fun H locs hP hD hS => ?_)
  have hP : va_P G.1 vwCl [(h0, .inr (12, ofL 88 (updV Fh0 0 (.int 0))))] H := hP
  have hD : va_D A [(h0, .inr (12, ofL 88 (updV Fh0 0 (.int 0))))] := hD
  refine lv_aload_n hx hb dX12_become_5 rfl (lv_at hl 0 rfl) ?_
  refine lv_iload_n hx hb dX12_become_6 rfl (lv_at hl 1 rfl) ?_
  refine k_callVi (wr := []) (rest := []) li_X12_402 C (c_X12_isLesson l G H.size h0 n0 (updV Fh0 0 (.int 0)) rfl e_h0_1) (kR rfl) hP hD hS [0] [] rfl rfl rfl rfl (by decide) 0 12 rfl rfl rfl hl.1 rfl (Nat.le_of_ble_eq_true rfl) dX12_become_7 (fun rr2 uu3 H locs hw1 hP hD hS => ?_)
  rcases hw1 with ⟨rfl, rfl, c_4⟩ | ⟨rfl, rfl, c_5⟩
  ·
    have hP : va_P G.1 vwCl [(h0, .inr (12, ofL 88 (updV (updV Fh0 0 (.int 0)) 0 (.int 1))))] H := hP
    have hD : va_D A [(h0, .inr (12, ofL 88 (updV (updV Fh0 0 (.int 0)) 0 (.int 1))))] := hD
    refine lv_if_eq (x := 0) (tgt := 22) hx hb dX12_become_10 (by decide) (fun c_6 => ?_) (fun c_6 => ?_)
    rotate_left
    · exact absurd (by decide) c_6
    refine lv_iconst (v := 0) hx hb dX12_become_22 (by decide) ?_
    exact k_iret C hr hlk hP hD hS 0 (Or.inl ⟨rfl, rfl, c_4⟩) [0] rfl rfl (Nat.le_of_ble_eq_true rfl) (Nat.le_of_ble_eq_true rfl) dX12_become_23
  ·
    have hP : va_P G.1 vwCl [(h0, .inr (12, ofL 88 (updV (updV Fh0 0 (.int 0)) 0 (.int 1))))] H := hP
    have hD : va_D A [(h0, .inr (12, ofL 88 (updV (updV Fh0 0 (.int 0)) 0 (.int 1))))] := hD
    refine lv_if_eq (x := 0) (tgt := 22) hx hb dX12_become_10 (by decide) (fun c_7 => ?_) (fun c_7 => ?_)
    rotate_left
    · exact absurd (by decide) c_7
    refine lv_iconst (v := 0) hx hb dX12_become_22 (by decide) ?_
    exact k_iret C hr hlk hP hD hS 1 (Or.inr (⟨rfl, rfl, c_5⟩)) [0] rfl rfl (Nat.le_of_ble_eq_true rfl) (Nat.le_of_ble_eq_true rfl) dX12_become_23
set_option maxHeartbeats 4000000 in
set_option maxRecDepth 100000 in
theorem c_X12_far (l : Launch) (G : kG) (sz : Nat) (h0 : Nat) (n0 : Int32) (n1 : Int32) (n2 : Int32) (Fh0 : Nat → Value) (e_h0_1 : Fh0 1 = .int 0) : kM l yX12_far cX12_far 5 (some .int) { frames := 8, cells := 0, slots := 0, locals := 153 } G [.ref h0, .int n0, .int n1, .int n2] [(h0, .inr (12, ofL 88 Fh0))] sz (kQi G (S := Nat) (fun r u => (u = 0 ∧ r = 0 ∧ n0 < 0) ∨ (u = 1 ∧ r = 0 ∧ ¬ n0 < 0)) (fun u => match u with | 0 => [(h0, .inr (12, ofL 88 (updV (updV Fh0 0 (.int 0)) 0 (.int 1))))] | _ => [(h0, .inr (12, ofL 88 (updV (updV Fh0 0 (.int 0)) 0 (.int 1))))])) := by
  refine kM.of (by decide) (Nat.le_of_ble_eq_true rfl) ?_
  intro p e s m below meth c A ls H C hr hlk hnm hP hD hS hl
  have C : kC G p s m c cX12_far 5 RX12 A := C
  have hx := C.1
  have hb := C.2.1
  have hl : lv_has ls 5 [(0, .ref h0), (1, .int n0), (2, .int n1), (3, .int n2)] := hl
  refine lv_aload_n hx hb dX12_far_0 rfl (lv_at hl 0 rfl) ?_
  refine lv_iconst (v := 0) hx hb dX12_far_1 (by decide) ?_
  refine k_put fl_X12_177 ft_X12_0 C hP hD hS 0 rfl rfl rfl dX12_far_2 (fun H locs hP hD hS => ?_)
  have hP : va_P G.1 vwCl [(h0, .inr (12, ofL 88 (updV Fh0 0 (.int 0))))] H := hP
  have hD : va_D A [(h0, .inr (12, ofL 88 (updV Fh0 0 (.int 0))))] := hD
  refine lv_aload_n hx hb dX12_far_5 rfl (lv_at hl 0 rfl) ?_
  refine lv_iload_n hx hb dX12_far_6 rfl (lv_at hl 1 rfl) ?_
  refine k_callVi (wr := []) (rest := []) li_X12_402 C (c_X12_isLesson l G H.size h0 n0 (updV Fh0 0 (.int 0)) rfl e_h0_1) (kR rfl) hP hD hS [0] [] rfl rfl rfl rfl (by decide) 0 12 rfl rfl rfl hl.1 rfl (Nat.le_of_ble_eq_true rfl) dX12_far_7 (fun rr2 uu3 H locs hw1 hP hD hS => ?_)
  rcases hw1 with ⟨rfl, rfl, c_4⟩ | ⟨rfl, rfl, c_5⟩
  ·
    have hP : va_P G.1 vwCl [(h0, .inr (12, ofL 88 (updV (updV Fh0 0 (.int 0)) 0 (.int 1))))] H := hP
    have hD : va_D A [(h0, .inr (12, ofL 88 (updV (updV Fh0 0 (.int 0)) 0 (.int 1))))] := hD
    refine lv_if_eq (x := 0) (tgt := 37) hx hb dX12_far_10 (by decide) (fun c_6 => ?_) (fun c_6 => ?_)
    rotate_left
    · exact absurd (by decide) c_6
    refine lv_iconst (v := 0) hx hb dX12_far_37 (by decide) ?_
    exact k_iret C hr hlk hP hD hS 0 (Or.inl ⟨rfl, rfl, c_4⟩) [0] rfl rfl (Nat.le_of_ble_eq_true rfl) (Nat.le_of_ble_eq_true rfl) dX12_far_38
  ·
    have hP : va_P G.1 vwCl [(h0, .inr (12, ofL 88 (updV (updV Fh0 0 (.int 0)) 0 (.int 1))))] H := hP
    have hD : va_D A [(h0, .inr (12, ofL 88 (updV (updV Fh0 0 (.int 0)) 0 (.int 1))))] := hD
    refine lv_if_eq (x := 0) (tgt := 37) hx hb dX12_far_10 (by decide) (fun c_7 => ?_) (fun c_7 => ?_)
    rotate_left
    · exact absurd (by decide) c_7
    refine lv_iconst (v := 0) hx hb dX12_far_37 (by decide) ?_
    exact k_iret C hr hlk hP hD hS 1 (Or.inr (⟨rfl, rfl, c_5⟩)) [0] rfl rfl (Nat.le_of_ble_eq_true rfl) (Nat.le_of_ble_eq_true rfl) dX12_far_38
set_option maxHeartbeats 4000000 in
set_option maxRecDepth 100000 in
theorem c_X12_reaches (l : Launch) (G : kG) (sz : Nat) (h0 : Nat) (n0 : Int32) (n1 : Int32) (Fh0 : Nat → Value) (e_h0_1 : Fh0 1 = .int 0) : kM l yX12_reaches cX12_reaches 4 (some .int) { frames := 8, cells := 0, slots := 0, locals := 153 } G [.ref h0, .int n0, .int n1] [(h0, .inr (12, ofL 88 Fh0))] sz (kQi G (S := Nat) (fun r u => (u = 0 ∧ r = 0 ∧ n0 < 0) ∨ (u = 1 ∧ r = 0 ∧ ¬ n0 < 0)) (fun u => match u with | 0 => [(h0, .inr (12, ofL 88 (updV (updV Fh0 0 (.int 0)) 0 (.int 1))))] | _ => [(h0, .inr (12, ofL 88 (updV (updV Fh0 0 (.int 0)) 0 (.int 1))))])) := by
  refine kM.of (by decide) (Nat.le_of_ble_eq_true rfl) ?_
  intro p e s m below meth c A ls H C hr hlk hnm hP hD hS hl
  have C : kC G p s m c cX12_reaches 4 RX12 A := C
  have hx := C.1
  have hb := C.2.1
  have hl : lv_has ls 4 [(0, .ref h0), (1, .int n0), (2, .int n1)] := hl
  refine lv_aload_n hx hb dX12_reaches_0 rfl (lv_at hl 0 rfl) ?_
  refine lv_iconst (v := 0) hx hb dX12_reaches_1 (by decide) ?_
  refine k_put fl_X12_177 ft_X12_0 C hP hD hS 0 rfl rfl rfl dX12_reaches_2 (fun H locs hP hD hS => ?_)
  have hP : va_P G.1 vwCl [(h0, .inr (12, ofL 88 (updV Fh0 0 (.int 0))))] H := hP
  have hD : va_D A [(h0, .inr (12, ofL 88 (updV Fh0 0 (.int 0))))] := hD
  refine lv_aload_n hx hb dX12_reaches_5 rfl (lv_at hl 0 rfl) ?_
  refine lv_iload_n hx hb dX12_reaches_6 rfl (lv_at hl 1 rfl) ?_
  refine k_callVi (wr := []) (rest := []) li_X12_402 C (c_X12_isLesson l G H.size h0 n0 (updV Fh0 0 (.int 0)) rfl e_h0_1) (kR rfl) hP hD hS [0] [] rfl rfl rfl rfl (by decide) 0 12 rfl rfl rfl hl.1 rfl (Nat.le_of_ble_eq_true rfl) dX12_reaches_7 (fun rr2 uu3 H locs hw1 hP hD hS => ?_)
  rcases hw1 with ⟨rfl, rfl, c_4⟩ | ⟨rfl, rfl, c_5⟩
  ·
    have hP : va_P G.1 vwCl [(h0, .inr (12, ofL 88 (updV (updV Fh0 0 (.int 0)) 0 (.int 1))))] H := hP
    have hD : va_D A [(h0, .inr (12, ofL 88 (updV (updV Fh0 0 (.int 0)) 0 (.int 1))))] := hD
    refine lv_if_eq (x := 0) (tgt := 39) hx hb dX12_reaches_10 (by decide) (fun c_6 => ?_) (fun c_6 => ?_)
    rotate_left
    · exact absurd (by decide) c_6
    refine lv_iconst (v := 0) hx hb dX12_reaches_39 (by decide) ?_
    exact k_iret C hr hlk hP hD hS 0 (Or.inl ⟨rfl, rfl, c_4⟩) [0] rfl rfl (Nat.le_of_ble_eq_true rfl) (Nat.le_of_ble_eq_true rfl) dX12_reaches_40
  ·
    have hP : va_P G.1 vwCl [(h0, .inr (12, ofL 88 (updV (updV Fh0 0 (.int 0)) 0 (.int 1))))] H := hP
    have hD : va_D A [(h0, .inr (12, ofL 88 (updV (updV Fh0 0 (.int 0)) 0 (.int 1))))] := hD
    refine lv_if_eq (x := 0) (tgt := 39) hx hb dX12_reaches_10 (by decide) (fun c_7 => ?_) (fun c_7 => ?_)
    rotate_left
    · exact absurd (by decide) c_7
    refine lv_iconst (v := 0) hx hb dX12_reaches_39 (by decide) ?_
    exact k_iret C hr hlk hP hD hS 1 (Or.inr (⟨rfl, rfl, c_5⟩)) [0] rfl rfl (Nat.le_of_ble_eq_true rfl) (Nat.le_of_ble_eq_true rfl) dX12_reaches_40
set_option maxHeartbeats 4000000 in
set_option maxRecDepth 100000 in
theorem c_X12_slack (l : Launch) (G : kG) (sz : Nat) (h0 : Nat) (n0 : Int32) (Fh0 : Nat → Value) (e_h0_1 : Fh0 1 = .int 0) : kM l yX12_slack cX12_slack 3 (some .int) { frames := 8, cells := 0, slots := 0, locals := 153 } G [.ref h0, .int n0] [(h0, .inr (12, ofL 88 Fh0))] sz (kQi G (S := Nat) (fun r u => (u = 0 ∧ r = 0 ∧ n0 < 0) ∨ (u = 1 ∧ r = 0 ∧ ¬ n0 < 0)) (fun u => match u with | 0 => [(h0, .inr (12, ofL 88 (updV (updV Fh0 0 (.int 0)) 0 (.int 1))))] | _ => [(h0, .inr (12, ofL 88 (updV (updV Fh0 0 (.int 0)) 0 (.int 1))))])) := by
  refine kM.of (by decide) (Nat.le_of_ble_eq_true rfl) ?_
  intro p e s m below meth c A ls H C hr hlk hnm hP hD hS hl
  have C : kC G p s m c cX12_slack 3 RX12 A := C
  have hx := C.1
  have hb := C.2.1
  have hl : lv_has ls 3 [(0, .ref h0), (1, .int n0)] := hl
  refine lv_aload_n hx hb dX12_slack_0 rfl (lv_at hl 0 rfl) ?_
  refine lv_iconst (v := 0) hx hb dX12_slack_1 (by decide) ?_
  refine k_put fl_X12_177 ft_X12_0 C hP hD hS 0 rfl rfl rfl dX12_slack_2 (fun H locs hP hD hS => ?_)
  have hP : va_P G.1 vwCl [(h0, .inr (12, ofL 88 (updV Fh0 0 (.int 0))))] H := hP
  have hD : va_D A [(h0, .inr (12, ofL 88 (updV Fh0 0 (.int 0))))] := hD
  refine lv_aload_n hx hb dX12_slack_5 rfl (lv_at hl 0 rfl) ?_
  refine lv_iload_n hx hb dX12_slack_6 rfl (lv_at hl 1 rfl) ?_
  refine k_callVi (wr := []) (rest := []) li_X12_402 C (c_X12_isLesson l G H.size h0 n0 (updV Fh0 0 (.int 0)) rfl e_h0_1) (kR rfl) hP hD hS [0] [] rfl rfl rfl rfl (by decide) 0 12 rfl rfl rfl hl.1 rfl (Nat.le_of_ble_eq_true rfl) dX12_slack_7 (fun rr2 uu3 H locs hw1 hP hD hS => ?_)
  rcases hw1 with ⟨rfl, rfl, c_4⟩ | ⟨rfl, rfl, c_5⟩
  ·
    have hP : va_P G.1 vwCl [(h0, .inr (12, ofL 88 (updV (updV Fh0 0 (.int 0)) 0 (.int 1))))] H := hP
    have hD : va_D A [(h0, .inr (12, ofL 88 (updV (updV Fh0 0 (.int 0)) 0 (.int 1))))] := hD
    refine lv_if_ne (x := 0) (tgt := 15) hx hb dX12_slack_10 (by decide) (fun c_6 => ?_) (fun c_6 => ?_)
    · exact absurd (by decide) c_6
    refine lv_iconst (v := 0) hx hb dX12_slack_13 (by decide) ?_
    exact k_iret C hr hlk hP hD hS 0 (Or.inl ⟨rfl, rfl, c_4⟩) [0] rfl rfl (Nat.le_of_ble_eq_true rfl) (Nat.le_of_ble_eq_true rfl) dX12_slack_14
  ·
    have hP : va_P G.1 vwCl [(h0, .inr (12, ofL 88 (updV (updV Fh0 0 (.int 0)) 0 (.int 1))))] H := hP
    have hD : va_D A [(h0, .inr (12, ofL 88 (updV (updV Fh0 0 (.int 0)) 0 (.int 1))))] := hD
    refine lv_if_ne (x := 0) (tgt := 15) hx hb dX12_slack_10 (by decide) (fun c_7 => ?_) (fun c_7 => ?_)
    · exact absurd (by decide) c_7
    refine lv_iconst (v := 0) hx hb dX12_slack_13 (by decide) ?_
    exact k_iret C hr hlk hP hD hS 1 (Or.inr (⟨rfl, rfl, c_5⟩)) [0] rfl rfl (Nat.le_of_ble_eq_true rfl) (Nat.le_of_ble_eq_true rfl) dX12_slack_14
set_option maxHeartbeats 4000000 in
set_option maxRecDepth 100000 in
theorem c_X12_gaps (l : Launch) (G : kG) (sz : Nat) (h0 : Nat) (n0 : Int32) (n1 : Int32) (n2 : Int32) (Fh0 : Nat → Value) (e_h0_1 : Fh0 1 = .int 0) : kM l yX12_gaps cX12_gaps 11 (some .int) { frames := 8, cells := 0, slots := 0, locals := 153 } G [.ref h0, .int n0, .int n1, .int n2] [(h0, .inr (12, ofL 88 Fh0))] sz (kQi G (S := Nat) (fun r u => (u = 0 ∧ r = 0 ∧ n1 < 0) ∨ (u = 1 ∧ r = 0 ∧ ¬ n1 < 0)) (fun u => match u with | 0 => [(h0, .inr (12, ofL 88 (updV (updV Fh0 0 (.int 0)) 0 (.int 1))))] | _ => [(h0, .inr (12, ofL 88 (updV (updV Fh0 0 (.int 0)) 0 (.int 1))))])) := by
  refine kM.of (by decide) (Nat.le_of_ble_eq_true rfl) ?_
  intro p e s m below meth c A ls H C hr hlk hnm hP hD hS hl
  have C : kC G p s m c cX12_gaps 11 RX12 A := C
  have hx := C.1
  have hb := C.2.1
  have hl : lv_has ls 11 [(0, .ref h0), (1, .int n0), (2, .int n1), (3, .int n2)] := hl
  refine lv_aload_n hx hb dX12_gaps_0 rfl (lv_at hl 0 rfl) ?_
  refine lv_iconst (v := 0) hx hb dX12_gaps_1 (by decide) ?_
  refine k_put fl_X12_177 ft_X12_0 C hP hD hS 0 rfl rfl rfl dX12_gaps_2 (fun H locs hP hD hS => ?_)
  have hP : va_P G.1 vwCl [(h0, .inr (12, ofL 88 (updV Fh0 0 (.int 0))))] H := hP
  have hD : va_D A [(h0, .inr (12, ofL 88 (updV Fh0 0 (.int 0))))] := hD
  refine lv_aload_n hx hb dX12_gaps_5 rfl (lv_at hl 0 rfl) ?_
  refine lv_iload_n hx hb dX12_gaps_6 rfl (lv_at hl 2 rfl) ?_
  refine k_callVi (wr := []) (rest := []) li_X12_402 C (c_X12_isLesson l G H.size h0 n1 (updV Fh0 0 (.int 0)) rfl e_h0_1) (kR rfl) hP hD hS [0] [] rfl rfl rfl rfl (by decide) 0 12 rfl rfl rfl hl.1 rfl (Nat.le_of_ble_eq_true rfl) dX12_gaps_7 (fun rr2 uu3 H locs hw1 hP hD hS => ?_)
  rcases hw1 with ⟨rfl, rfl, c_4⟩ | ⟨rfl, rfl, c_5⟩
  ·
    have hP : va_P G.1 vwCl [(h0, .inr (12, ofL 88 (updV (updV Fh0 0 (.int 0)) 0 (.int 1))))] H := hP
    have hD : va_D A [(h0, .inr (12, ofL 88 (updV (updV Fh0 0 (.int 0)) 0 (.int 1))))] := hD
    refine lv_if_eq (x := 0) (tgt := 59) hx hb dX12_gaps_10 (by decide) (fun c_6 => ?_) (fun c_6 => ?_)
    rotate_left
    · exact absurd (by decide) c_6
    refine lv_iconst (v := 0) hx hb dX12_gaps_59 (by decide) ?_
    exact k_iret C hr hlk hP hD hS 0 (Or.inl ⟨rfl, rfl, c_4⟩) [0] rfl rfl (Nat.le_of_ble_eq_true rfl) (Nat.le_of_ble_eq_true rfl) dX12_gaps_60
  ·
    have hP : va_P G.1 vwCl [(h0, .inr (12, ofL 88 (updV (updV Fh0 0 (.int 0)) 0 (.int 1))))] H := hP
    have hD : va_D A [(h0, .inr (12, ofL 88 (updV (updV Fh0 0 (.int 0)) 0 (.int 1))))] := hD
    refine lv_if_eq (x := 0) (tgt := 59) hx hb dX12_gaps_10 (by decide) (fun c_7 => ?_) (fun c_7 => ?_)
    rotate_left
    · exact absurd (by decide) c_7
    refine lv_iconst (v := 0) hx hb dX12_gaps_59 (by decide) ?_
    exact k_iret C hr hlk hP hD hS 1 (Or.inr (⟨rfl, rfl, c_5⟩)) [0] rfl rfl (Nat.le_of_ble_eq_true rfl) (Nat.le_of_ble_eq_true rfl) dX12_gaps_60
set_option maxHeartbeats 4000000 in
set_option maxRecDepth 100000 in
theorem c_X12_gap (l : Launch) (G : kG) (sz : Nat) (h0 : Nat) (n0 : Int32) (Fh0 : Nat → Value) (e_h0_1 : Fh0 1 = .int 0) : kM l yX12_gap cX12_gap 2 (some .int) { frames := 8, cells := 0, slots := 0, locals := 153 } G [.ref h0, .int n0] [(h0, .inr (12, ofL 88 Fh0))] sz (kQi G (S := Nat) (fun r u => (u = 0 ∧ r = 0 ∧ n0 < 0) ∨ (u = 1 ∧ r = 0 ∧ ¬ n0 < 0)) (fun u => match u with | 0 => [(h0, .inr (12, ofL 88 (updV (updV Fh0 0 (.int 0)) 0 (.int 1))))] | _ => [(h0, .inr (12, ofL 88 (updV (updV Fh0 0 (.int 0)) 0 (.int 1))))])) := by
  refine kM.of (by decide) (Nat.le_of_ble_eq_true rfl) ?_
  intro p e s m below meth c A ls H C hr hlk hnm hP hD hS hl
  have C : kC G p s m c cX12_gap 2 RX12 A := C
  have hx := C.1
  have hb := C.2.1
  have hl : lv_has ls 2 [(0, .ref h0), (1, .int n0)] := hl
  refine lv_aload_n hx hb dX12_gap_0 rfl (lv_at hl 0 rfl) ?_
  refine lv_iconst (v := 0) hx hb dX12_gap_1 (by decide) ?_
  refine k_put fl_X12_177 ft_X12_0 C hP hD hS 0 rfl rfl rfl dX12_gap_2 (fun H locs hP hD hS => ?_)
  have hP : va_P G.1 vwCl [(h0, .inr (12, ofL 88 (updV Fh0 0 (.int 0))))] H := hP
  have hD : va_D A [(h0, .inr (12, ofL 88 (updV Fh0 0 (.int 0))))] := hD
  refine lv_aload_n hx hb dX12_gap_5 rfl (lv_at hl 0 rfl) ?_
  refine lv_iload_n hx hb dX12_gap_6 rfl (lv_at hl 1 rfl) ?_
  refine k_callVi (wr := []) (rest := []) li_X12_402 C (c_X12_isLesson l G H.size h0 n0 (updV Fh0 0 (.int 0)) rfl e_h0_1) (kR rfl) hP hD hS [0] [] rfl rfl rfl rfl (by decide) 0 12 rfl rfl rfl hl.1 rfl (Nat.le_of_ble_eq_true rfl) dX12_gap_7 (fun rr2 uu3 H locs hw1 hP hD hS => ?_)
  rcases hw1 with ⟨rfl, rfl, c_4⟩ | ⟨rfl, rfl, c_5⟩
  ·
    have hP : va_P G.1 vwCl [(h0, .inr (12, ofL 88 (updV (updV Fh0 0 (.int 0)) 0 (.int 1))))] H := hP
    have hD : va_D A [(h0, .inr (12, ofL 88 (updV (updV Fh0 0 (.int 0)) 0 (.int 1))))] := hD
    refine lv_if_eq (x := 0) (tgt := 34) hx hb dX12_gap_10 (by decide) (fun c_6 => ?_) (fun c_6 => ?_)
    rotate_left
    · exact absurd (by decide) c_6
    refine lv_iconst (v := 0) hx hb dX12_gap_34 (by decide) ?_
    exact k_iret C hr hlk hP hD hS 0 (Or.inl ⟨rfl, rfl, c_4⟩) [0] rfl rfl (Nat.le_of_ble_eq_true rfl) (Nat.le_of_ble_eq_true rfl) dX12_gap_35
  ·
    have hP : va_P G.1 vwCl [(h0, .inr (12, ofL 88 (updV (updV Fh0 0 (.int 0)) 0 (.int 1))))] H := hP
    have hD : va_D A [(h0, .inr (12, ofL 88 (updV (updV Fh0 0 (.int 0)) 0 (.int 1))))] := hD
    refine lv_if_eq (x := 0) (tgt := 34) hx hb dX12_gap_10 (by decide) (fun c_7 => ?_) (fun c_7 => ?_)
    rotate_left
    · exact absurd (by decide) c_7
    refine lv_iconst (v := 0) hx hb dX12_gap_34 (by decide) ?_
    exact k_iret C hr hlk hP hD hS 1 (Or.inr (⟨rfl, rfl, c_5⟩)) [0] rfl rfl (Nat.le_of_ble_eq_true rfl) (Nat.le_of_ble_eq_true rfl) dX12_gap_35
set_option maxHeartbeats 4000000 in
set_option maxRecDepth 100000 in
theorem c_X12_chance (l : Launch) (G : kG) (sz : Nat) (h0 : Nat) (n0 : Int32) (n1 : Int32) (n2 : Int32) (Fh0 : Nat → Value) (e_h0_1 : Fh0 1 = .int 0) : kM l yX12_chance cX12_chance 4 (some .long) { frames := 8, cells := 0, slots := 0, locals := 153 } G [.ref h0, .int n0, .int n1, .int n2] [(h0, .inr (12, ofL 88 Fh0))] sz (kQl G (S := Nat) (fun r u => (u = 0 ∧ r = 0 ∧ n0 < 0) ∨ (u = 1 ∧ r = 0 ∧ ¬ n0 < 0)) (fun u => match u with | 0 => [(h0, .inr (12, ofL 88 (updV (updV Fh0 0 (.int 0)) 0 (.int 1))))] | _ => [(h0, .inr (12, ofL 88 (updV (updV Fh0 0 (.int 0)) 0 (.int 1))))])) := by
  refine kM.of (by decide) (Nat.le_of_ble_eq_true rfl) ?_
  intro p e s m below meth c A ls H C hr hlk hnm hP hD hS hl
  have C : kC G p s m c cX12_chance 4 RX12 A := C
  have hx := C.1
  have hb := C.2.1
  have hl : lv_has ls 4 [(0, .ref h0), (1, .int n0), (2, .int n1), (3, .int n2)] := hl
  refine lv_aload_n hx hb dX12_chance_0 rfl (lv_at hl 0 rfl) ?_
  refine lv_iconst (v := 0) hx hb dX12_chance_1 (by decide) ?_
  refine k_put fl_X12_177 ft_X12_0 C hP hD hS 0 rfl rfl rfl dX12_chance_2 (fun H locs hP hD hS => ?_)
  have hP : va_P G.1 vwCl [(h0, .inr (12, ofL 88 (updV Fh0 0 (.int 0))))] H := hP
  have hD : va_D A [(h0, .inr (12, ofL 88 (updV Fh0 0 (.int 0))))] := hD
  refine lv_aload_n hx hb dX12_chance_5 rfl (lv_at hl 0 rfl) ?_
  refine lv_iload_n hx hb dX12_chance_6 rfl (lv_at hl 1 rfl) ?_
  refine k_callVi (wr := []) (rest := []) li_X12_402 C (c_X12_isLesson l G H.size h0 n0 (updV Fh0 0 (.int 0)) rfl e_h0_1) (kR rfl) hP hD hS [0] [] rfl rfl rfl rfl (by decide) 0 12 rfl rfl rfl hl.1 rfl (Nat.le_of_ble_eq_true rfl) dX12_chance_7 (fun rr2 uu3 H locs hw1 hP hD hS => ?_)
  rcases hw1 with ⟨rfl, rfl, c_4⟩ | ⟨rfl, rfl, c_5⟩
  ·
    have hP : va_P G.1 vwCl [(h0, .inr (12, ofL 88 (updV (updV Fh0 0 (.int 0)) 0 (.int 1))))] H := hP
    have hD : va_D A [(h0, .inr (12, ofL 88 (updV (updV Fh0 0 (.int 0)) 0 (.int 1))))] := hD
    refine lv_if_eq (x := 0) (tgt := 38) hx hb dX12_chance_10 (by decide) (fun c_6 => ?_) (fun c_6 => ?_)
    rotate_left
    · exact absurd (by decide) c_6
    refine lv_lconst (v := 0) hx hb dX12_chance_38 (by decide) ?_
    exact k_lret C hr hlk hP hD hS 0 (Or.inl ⟨rfl, rfl, c_4⟩) [0] rfl rfl (Nat.le_of_ble_eq_true rfl) (Nat.le_of_ble_eq_true rfl) dX12_chance_39
  ·
    have hP : va_P G.1 vwCl [(h0, .inr (12, ofL 88 (updV (updV Fh0 0 (.int 0)) 0 (.int 1))))] H := hP
    have hD : va_D A [(h0, .inr (12, ofL 88 (updV (updV Fh0 0 (.int 0)) 0 (.int 1))))] := hD
    refine lv_if_eq (x := 0) (tgt := 38) hx hb dX12_chance_10 (by decide) (fun c_7 => ?_) (fun c_7 => ?_)
    rotate_left
    · exact absurd (by decide) c_7
    refine lv_lconst (v := 0) hx hb dX12_chance_38 (by decide) ?_
    exact k_lret C hr hlk hP hD hS 1 (Or.inr (⟨rfl, rfl, c_5⟩)) [0] rfl rfl (Nat.le_of_ble_eq_true rfl) (Nat.le_of_ble_eq_true rfl) dX12_chance_39
set_option maxHeartbeats 4000000 in
set_option maxRecDepth 100000 in
theorem c_X12_mean (l : Launch) (G : kG) (sz : Nat) (h0 : Nat) (n0 : Int32) (n1 : Int32) (Fh0 : Nat → Value) (e_h0_1 : Fh0 1 = .int 0) : kM l yX12_mean cX12_mean 3 (some .long) { frames := 8, cells := 0, slots := 0, locals := 153 } G [.ref h0, .int n0, .int n1] [(h0, .inr (12, ofL 88 Fh0))] sz (kQl G (S := Nat) (fun r u => (u = 0 ∧ r = 0 ∧ n0 < 0) ∨ (u = 1 ∧ r = 0 ∧ ¬ n0 < 0)) (fun u => match u with | 0 => [(h0, .inr (12, ofL 88 (updV (updV Fh0 0 (.int 0)) 0 (.int 1))))] | _ => [(h0, .inr (12, ofL 88 (updV (updV Fh0 0 (.int 0)) 0 (.int 1))))])) := by
  refine kM.of (by decide) (Nat.le_of_ble_eq_true rfl) ?_
  intro p e s m below meth c A ls H C hr hlk hnm hP hD hS hl
  have C : kC G p s m c cX12_mean 3 RX12 A := C
  have hx := C.1
  have hb := C.2.1
  have hl : lv_has ls 3 [(0, .ref h0), (1, .int n0), (2, .int n1)] := hl
  refine lv_aload_n hx hb dX12_mean_0 rfl (lv_at hl 0 rfl) ?_
  refine lv_iconst (v := 0) hx hb dX12_mean_1 (by decide) ?_
  refine k_put fl_X12_177 ft_X12_0 C hP hD hS 0 rfl rfl rfl dX12_mean_2 (fun H locs hP hD hS => ?_)
  have hP : va_P G.1 vwCl [(h0, .inr (12, ofL 88 (updV Fh0 0 (.int 0))))] H := hP
  have hD : va_D A [(h0, .inr (12, ofL 88 (updV Fh0 0 (.int 0))))] := hD
  refine lv_aload_n hx hb dX12_mean_5 rfl (lv_at hl 0 rfl) ?_
  refine lv_iload_n hx hb dX12_mean_6 rfl (lv_at hl 1 rfl) ?_
  refine k_callVi (wr := []) (rest := []) li_X12_402 C (c_X12_isLesson l G H.size h0 n0 (updV Fh0 0 (.int 0)) rfl e_h0_1) (kR rfl) hP hD hS [0] [] rfl rfl rfl rfl (by decide) 0 12 rfl rfl rfl hl.1 rfl (Nat.le_of_ble_eq_true rfl) dX12_mean_7 (fun rr2 uu3 H locs hw1 hP hD hS => ?_)
  rcases hw1 with ⟨rfl, rfl, c_4⟩ | ⟨rfl, rfl, c_5⟩
  ·
    have hP : va_P G.1 vwCl [(h0, .inr (12, ofL 88 (updV (updV Fh0 0 (.int 0)) 0 (.int 1))))] H := hP
    have hD : va_D A [(h0, .inr (12, ofL 88 (updV (updV Fh0 0 (.int 0)) 0 (.int 1))))] := hD
    refine lv_if_eq (x := 0) (tgt := 22) hx hb dX12_mean_10 (by decide) (fun c_6 => ?_) (fun c_6 => ?_)
    rotate_left
    · exact absurd (by decide) c_6
    refine lv_lconst (v := 0) hx hb dX12_mean_22 (by decide) ?_
    exact k_lret C hr hlk hP hD hS 0 (Or.inl ⟨rfl, rfl, c_4⟩) [0] rfl rfl (Nat.le_of_ble_eq_true rfl) (Nat.le_of_ble_eq_true rfl) dX12_mean_23
  ·
    have hP : va_P G.1 vwCl [(h0, .inr (12, ofL 88 (updV (updV Fh0 0 (.int 0)) 0 (.int 1))))] H := hP
    have hD : va_D A [(h0, .inr (12, ofL 88 (updV (updV Fh0 0 (.int 0)) 0 (.int 1))))] := hD
    refine lv_if_eq (x := 0) (tgt := 22) hx hb dX12_mean_10 (by decide) (fun c_7 => ?_) (fun c_7 => ?_)
    rotate_left
    · exact absurd (by decide) c_7
    refine lv_lconst (v := 0) hx hb dX12_mean_22 (by decide) ?_
    exact k_lret C hr hlk hP hD hS 1 (Or.inr (⟨rfl, rfl, c_5⟩)) [0] rfl rfl (Nat.le_of_ble_eq_true rfl) (Nat.le_of_ble_eq_true rfl) dX12_mean_23
set_option maxHeartbeats 4000000 in
set_option maxRecDepth 100000 in
theorem c_X12_room (l : Launch) (G : kG) (sz : Nat) (h0 : Nat) (n0 : Int32) (n1 : Int32) (Fh0 : Nat → Value) (e_h0_1 : Fh0 1 = .int 0) : kM l yX12_room cX12_room 3 (some .int) { frames := 8, cells := 0, slots := 0, locals := 153 } G [.ref h0, .int n0, .int n1] [(h0, .inr (12, ofL 88 Fh0))] sz (kQi G (S := Nat) (fun r u => (u = 0 ∧ r = 0 ∧ n0 < 0) ∨ (u = 1 ∧ r = 0 ∧ ¬ n0 < 0)) (fun u => match u with | 0 => [(h0, .inr (12, ofL 88 (updV (updV Fh0 0 (.int 0)) 0 (.int 1))))] | _ => [(h0, .inr (12, ofL 88 (updV (updV Fh0 0 (.int 0)) 0 (.int 1))))])) := by
  refine kM.of (by decide) (Nat.le_of_ble_eq_true rfl) ?_
  intro p e s m below meth c A ls H C hr hlk hnm hP hD hS hl
  have C : kC G p s m c cX12_room 3 RX12 A := C
  have hx := C.1
  have hb := C.2.1
  have hl : lv_has ls 3 [(0, .ref h0), (1, .int n0), (2, .int n1)] := hl
  refine lv_aload_n hx hb dX12_room_0 rfl (lv_at hl 0 rfl) ?_
  refine lv_iconst (v := 0) hx hb dX12_room_1 (by decide) ?_
  refine k_put fl_X12_177 ft_X12_0 C hP hD hS 0 rfl rfl rfl dX12_room_2 (fun H locs hP hD hS => ?_)
  have hP : va_P G.1 vwCl [(h0, .inr (12, ofL 88 (updV Fh0 0 (.int 0))))] H := hP
  have hD : va_D A [(h0, .inr (12, ofL 88 (updV Fh0 0 (.int 0))))] := hD
  refine lv_aload_n hx hb dX12_room_5 rfl (lv_at hl 0 rfl) ?_
  refine lv_iload_n hx hb dX12_room_6 rfl (lv_at hl 1 rfl) ?_
  refine k_callVi (wr := []) (rest := []) li_X12_402 C (c_X12_isLesson l G H.size h0 n0 (updV Fh0 0 (.int 0)) rfl e_h0_1) (kR rfl) hP hD hS [0] [] rfl rfl rfl rfl (by decide) 0 12 rfl rfl rfl hl.1 rfl (Nat.le_of_ble_eq_true rfl) dX12_room_7 (fun rr2 uu3 H locs hw1 hP hD hS => ?_)
  rcases hw1 with ⟨rfl, rfl, c_4⟩ | ⟨rfl, rfl, c_5⟩
  ·
    have hP : va_P G.1 vwCl [(h0, .inr (12, ofL 88 (updV (updV Fh0 0 (.int 0)) 0 (.int 1))))] H := hP
    have hD : va_D A [(h0, .inr (12, ofL 88 (updV (updV Fh0 0 (.int 0)) 0 (.int 1))))] := hD
    refine lv_if_eq (x := 0) (tgt := 36) hx hb dX12_room_10 (by decide) (fun c_6 => ?_) (fun c_6 => ?_)
    rotate_left
    · exact absurd (by decide) c_6
    refine lv_iconst (v := 0) hx hb dX12_room_36 (by decide) ?_
    exact k_iret C hr hlk hP hD hS 0 (Or.inl ⟨rfl, rfl, c_4⟩) [0] rfl rfl (Nat.le_of_ble_eq_true rfl) (Nat.le_of_ble_eq_true rfl) dX12_room_37
  ·
    have hP : va_P G.1 vwCl [(h0, .inr (12, ofL 88 (updV (updV Fh0 0 (.int 0)) 0 (.int 1))))] H := hP
    have hD : va_D A [(h0, .inr (12, ofL 88 (updV (updV Fh0 0 (.int 0)) 0 (.int 1))))] := hD
    refine lv_if_eq (x := 0) (tgt := 36) hx hb dX12_room_10 (by decide) (fun c_7 => ?_) (fun c_7 => ?_)
    rotate_left
    · exact absurd (by decide) c_7
    refine lv_iconst (v := 0) hx hb dX12_room_36 (by decide) ?_
    exact k_iret C hr hlk hP hD hS 1 (Or.inr (⟨rfl, rfl, c_5⟩)) [0] rfl rfl (Nat.le_of_ble_eq_true rfl) (Nat.le_of_ble_eq_true rfl) dX12_room_37
set_option maxHeartbeats 4000000 in
set_option maxRecDepth 100000 in
theorem c_X12_limit (l : Launch) (G : kG) (sz : Nat) (h0 : Nat) (n0 : Int32) (n1 : Int32) (Fh0 : Nat → Value) (e_h0_1 : Fh0 1 = .int 0) : kM l yX12_limit cX12_limit 3 (some .int) { frames := 8, cells := 0, slots := 0, locals := 153 } G [.ref h0, .int n0, .int n1] [(h0, .inr (12, ofL 88 Fh0))] sz (kQi G (S := Nat) (fun r u => (u = 0 ∧ r = 0 ∧ n0 < 0) ∨ (u = 1 ∧ r = 0 ∧ ¬ n0 < 0)) (fun u => match u with | 0 => [(h0, .inr (12, ofL 88 (updV (updV Fh0 0 (.int 0)) 0 (.int 1))))] | _ => [(h0, .inr (12, ofL 88 (updV (updV Fh0 0 (.int 0)) 0 (.int 1))))])) := by
  refine kM.of (by decide) (Nat.le_of_ble_eq_true rfl) ?_
  intro p e s m below meth c A ls H C hr hlk hnm hP hD hS hl
  have C : kC G p s m c cX12_limit 3 RX12 A := C
  have hx := C.1
  have hb := C.2.1
  have hl : lv_has ls 3 [(0, .ref h0), (1, .int n0), (2, .int n1)] := hl
  refine lv_aload_n hx hb dX12_limit_0 rfl (lv_at hl 0 rfl) ?_
  refine lv_iconst (v := 0) hx hb dX12_limit_1 (by decide) ?_
  refine k_put fl_X12_177 ft_X12_0 C hP hD hS 0 rfl rfl rfl dX12_limit_2 (fun H locs hP hD hS => ?_)
  have hP : va_P G.1 vwCl [(h0, .inr (12, ofL 88 (updV Fh0 0 (.int 0))))] H := hP
  have hD : va_D A [(h0, .inr (12, ofL 88 (updV Fh0 0 (.int 0))))] := hD
  refine lv_aload_n hx hb dX12_limit_5 rfl (lv_at hl 0 rfl) ?_
  refine lv_iload_n hx hb dX12_limit_6 rfl (lv_at hl 1 rfl) ?_
  refine k_callVi (wr := []) (rest := []) li_X12_402 C (c_X12_isLesson l G H.size h0 n0 (updV Fh0 0 (.int 0)) rfl e_h0_1) (kR rfl) hP hD hS [0] [] rfl rfl rfl rfl (by decide) 0 12 rfl rfl rfl hl.1 rfl (Nat.le_of_ble_eq_true rfl) dX12_limit_7 (fun rr2 uu3 H locs hw1 hP hD hS => ?_)
  rcases hw1 with ⟨rfl, rfl, c_4⟩ | ⟨rfl, rfl, c_5⟩
  ·
    have hP : va_P G.1 vwCl [(h0, .inr (12, ofL 88 (updV (updV Fh0 0 (.int 0)) 0 (.int 1))))] H := hP
    have hD : va_D A [(h0, .inr (12, ofL 88 (updV (updV Fh0 0 (.int 0)) 0 (.int 1))))] := hD
    refine lv_if_eq (x := 0) (tgt := 36) hx hb dX12_limit_10 (by decide) (fun c_6 => ?_) (fun c_6 => ?_)
    rotate_left
    · exact absurd (by decide) c_6
    refine lv_iconst (v := 0) hx hb dX12_limit_36 (by decide) ?_
    exact k_iret C hr hlk hP hD hS 0 (Or.inl ⟨rfl, rfl, c_4⟩) [0] rfl rfl (Nat.le_of_ble_eq_true rfl) (Nat.le_of_ble_eq_true rfl) dX12_limit_37
  ·
    have hP : va_P G.1 vwCl [(h0, .inr (12, ofL 88 (updV (updV Fh0 0 (.int 0)) 0 (.int 1))))] H := hP
    have hD : va_D A [(h0, .inr (12, ofL 88 (updV (updV Fh0 0 (.int 0)) 0 (.int 1))))] := hD
    refine lv_if_eq (x := 0) (tgt := 36) hx hb dX12_limit_10 (by decide) (fun c_7 => ?_) (fun c_7 => ?_)
    rotate_left
    · exact absurd (by decide) c_7
    refine lv_iconst (v := 0) hx hb dX12_limit_36 (by decide) ?_
    exact k_iret C hr hlk hP hD hS 1 (Or.inr (⟨rfl, rfl, c_5⟩)) [0] rfl rfl (Nat.le_of_ble_eq_true rfl) (Nat.le_of_ble_eq_true rfl) dX12_limit_37
set_option maxHeartbeats 4000000 in
set_option maxRecDepth 100000 in
theorem c_X12_see (l : Launch) (G : kG) (sz : Nat) (h0 : Nat) (n0 : Int32) (n1 : Int32) (Fh0 : Nat → Value) (e_h0_1 : Fh0 1 = .int 0) : kM l yX12_see cX12_see 3 (some .int) { frames := 8, cells := 0, slots := 0, locals := 153 } G [.ref h0, .int n0, .int n1] [(h0, .inr (12, ofL 88 Fh0))] sz (kQi G (S := Nat) (fun r u => (u = 0 ∧ r = 0 ∧ n0 < 0) ∨ (u = 1 ∧ r = 0 ∧ ¬ n0 < 0)) (fun u => match u with | 0 => [(h0, .inr (12, ofL 88 (updV (updV Fh0 0 (.int 0)) 0 (.int 1))))] | _ => [(h0, .inr (12, ofL 88 (updV (updV Fh0 0 (.int 0)) 0 (.int 1))))])) := by
  refine kM.of (by decide) (Nat.le_of_ble_eq_true rfl) ?_
  intro p e s m below meth c A ls H C hr hlk hnm hP hD hS hl
  have C : kC G p s m c cX12_see 3 RX12 A := C
  have hx := C.1
  have hb := C.2.1
  have hl : lv_has ls 3 [(0, .ref h0), (1, .int n0), (2, .int n1)] := hl
  refine lv_aload_n hx hb dX12_see_0 rfl (lv_at hl 0 rfl) ?_
  refine lv_iconst (v := 0) hx hb dX12_see_1 (by decide) ?_
  refine k_put fl_X12_177 ft_X12_0 C hP hD hS 0 rfl rfl rfl dX12_see_2 (fun H locs hP hD hS => ?_)
  have hP : va_P G.1 vwCl [(h0, .inr (12, ofL 88 (updV Fh0 0 (.int 0))))] H := hP
  have hD : va_D A [(h0, .inr (12, ofL 88 (updV Fh0 0 (.int 0))))] := hD
  refine lv_aload_n hx hb dX12_see_5 rfl (lv_at hl 0 rfl) ?_
  refine lv_iload_n hx hb dX12_see_6 rfl (lv_at hl 1 rfl) ?_
  refine k_callVi (wr := []) (rest := []) li_X12_402 C (c_X12_isLesson l G H.size h0 n0 (updV Fh0 0 (.int 0)) rfl e_h0_1) (kR rfl) hP hD hS [0] [] rfl rfl rfl rfl (by decide) 0 12 rfl rfl rfl hl.1 rfl (Nat.le_of_ble_eq_true rfl) dX12_see_7 (fun rr2 uu3 H locs hw1 hP hD hS => ?_)
  rcases hw1 with ⟨rfl, rfl, c_4⟩ | ⟨rfl, rfl, c_5⟩
  ·
    have hP : va_P G.1 vwCl [(h0, .inr (12, ofL 88 (updV (updV Fh0 0 (.int 0)) 0 (.int 1))))] H := hP
    have hD : va_D A [(h0, .inr (12, ofL 88 (updV (updV Fh0 0 (.int 0)) 0 (.int 1))))] := hD
    refine lv_if_ne (x := 0) (tgt := 15) hx hb dX12_see_10 (by decide) (fun c_6 => ?_) (fun c_6 => ?_)
    · exact absurd (by decide) c_6
    refine lv_iconst (v := 0) hx hb dX12_see_13 (by decide) ?_
    exact k_iret C hr hlk hP hD hS 0 (Or.inl ⟨rfl, rfl, c_4⟩) [0] rfl rfl (Nat.le_of_ble_eq_true rfl) (Nat.le_of_ble_eq_true rfl) dX12_see_14
  ·
    have hP : va_P G.1 vwCl [(h0, .inr (12, ofL 88 (updV (updV Fh0 0 (.int 0)) 0 (.int 1))))] H := hP
    have hD : va_D A [(h0, .inr (12, ofL 88 (updV (updV Fh0 0 (.int 0)) 0 (.int 1))))] := hD
    refine lv_if_ne (x := 0) (tgt := 15) hx hb dX12_see_10 (by decide) (fun c_7 => ?_) (fun c_7 => ?_)
    · exact absurd (by decide) c_7
    refine lv_iconst (v := 0) hx hb dX12_see_13 (by decide) ?_
    exact k_iret C hr hlk hP hD hS 1 (Or.inr (⟨rfl, rfl, c_5⟩)) [0] rfl rfl (Nat.le_of_ble_eq_true rfl) (Nat.le_of_ble_eq_true rfl) dX12_see_14
set_option maxHeartbeats 4000000 in
set_option maxRecDepth 100000 in
theorem c_X12_term (l : Launch) (G : kG) (sz : Nat) (h0 : Nat) (n0 : Int32) (n1 : Int32) (n2 : Int32) (n3 : Int32) (Fh0 : Nat → Value) (e_h0_1 : Fh0 1 = .int 0) : kM l yX12_term cX12_term 10 (some .int) { frames := 8, cells := 0, slots := 0, locals := 153 } G [.ref h0, .int n0, .int n1, .int n2, .int n3] [(h0, .inr (12, ofL 88 Fh0))] sz (kQi G (S := Nat) (fun r u => (u = 0 ∧ r = 0 ∧ n2 < 0) ∨ (u = 1 ∧ r = 0 ∧ ¬ n2 < 0)) (fun u => match u with | 0 => [(h0, .inr (12, ofL 88 (updV (updV Fh0 0 (.int 0)) 0 (.int 1))))] | _ => [(h0, .inr (12, ofL 88 (updV (updV Fh0 0 (.int 0)) 0 (.int 1))))])) := by
  refine kM.of (by decide) (Nat.le_of_ble_eq_true rfl) ?_
  intro p e s m below meth c A ls H C hr hlk hnm hP hD hS hl
  have C : kC G p s m c cX12_term 10 RX12 A := C
  have hx := C.1
  have hb := C.2.1
  have hl : lv_has ls 10 [(0, .ref h0), (1, .int n0), (2, .int n1), (3, .int n2), (4, .int n3)] := hl
  refine lv_aload_n hx hb dX12_term_0 rfl (lv_at hl 0 rfl) ?_
  refine lv_iconst (v := 0) hx hb dX12_term_1 (by decide) ?_
  refine k_put fl_X12_177 ft_X12_0 C hP hD hS 0 rfl rfl rfl dX12_term_2 (fun H locs hP hD hS => ?_)
  have hP : va_P G.1 vwCl [(h0, .inr (12, ofL 88 (updV Fh0 0 (.int 0))))] H := hP
  have hD : va_D A [(h0, .inr (12, ofL 88 (updV Fh0 0 (.int 0))))] := hD
  refine lv_aload_n hx hb dX12_term_5 rfl (lv_at hl 0 rfl) ?_
  refine lv_iload_n hx hb dX12_term_6 rfl (lv_at hl 3 rfl) ?_
  refine k_callVi (wr := []) (rest := []) li_X12_402 C (c_X12_isLesson l G H.size h0 n2 (updV Fh0 0 (.int 0)) rfl e_h0_1) (kR rfl) hP hD hS [0] [] rfl rfl rfl rfl (by decide) 0 12 rfl rfl rfl hl.1 rfl (Nat.le_of_ble_eq_true rfl) dX12_term_7 (fun rr2 uu3 H locs hw1 hP hD hS => ?_)
  rcases hw1 with ⟨rfl, rfl, c_4⟩ | ⟨rfl, rfl, c_5⟩
  ·
    have hP : va_P G.1 vwCl [(h0, .inr (12, ofL 88 (updV (updV Fh0 0 (.int 0)) 0 (.int 1))))] H := hP
    have hD : va_D A [(h0, .inr (12, ofL 88 (updV (updV Fh0 0 (.int 0)) 0 (.int 1))))] := hD
    refine lv_if_eq (x := 0) (tgt := 38) hx hb dX12_term_10 (by decide) (fun c_6 => ?_) (fun c_6 => ?_)
    rotate_left
    · exact absurd (by decide) c_6
    refine lv_iconst (v := 0) hx hb dX12_term_38 (by decide) ?_
    exact k_iret C hr hlk hP hD hS 0 (Or.inl ⟨rfl, rfl, c_4⟩) [0] rfl rfl (Nat.le_of_ble_eq_true rfl) (Nat.le_of_ble_eq_true rfl) dX12_term_39
  ·
    have hP : va_P G.1 vwCl [(h0, .inr (12, ofL 88 (updV (updV Fh0 0 (.int 0)) 0 (.int 1))))] H := hP
    have hD : va_D A [(h0, .inr (12, ofL 88 (updV (updV Fh0 0 (.int 0)) 0 (.int 1))))] := hD
    refine lv_if_eq (x := 0) (tgt := 38) hx hb dX12_term_10 (by decide) (fun c_7 => ?_) (fun c_7 => ?_)
    rotate_left
    · exact absurd (by decide) c_7
    refine lv_iconst (v := 0) hx hb dX12_term_38 (by decide) ?_
    exact k_iret C hr hlk hP hD hS 1 (Or.inr (⟨rfl, rfl, c_5⟩)) [0] rfl rfl (Nat.le_of_ble_eq_true rfl) (Nat.le_of_ble_eq_true rfl) dX12_term_39
set_option maxHeartbeats 4000000 in
set_option maxRecDepth 100000 in
theorem c_X12_shift (l : Launch) (G : kG) (sz : Nat) (h0 : Nat) (n0 : Int32) (n1 : Int32) (Fh0 : Nat → Value) (e_h0_1 : Fh0 1 = .int 0) : kM l yX12_shift cX12_shift 10 (some .int) { frames := 8, cells := 0, slots := 0, locals := 153 } G [.ref h0, .int n0, .int n1] [(h0, .inr (12, ofL 88 Fh0))] sz (kQi G (S := Nat) (fun r u => (u = 0 ∧ r = 0 ∧ n0 < 0) ∨ (u = 1 ∧ r = 0 ∧ ¬ n0 < 0)) (fun u => match u with | 0 => [(h0, .inr (12, ofL 88 (updV (updV Fh0 0 (.int 0)) 0 (.int 1))))] | _ => [(h0, .inr (12, ofL 88 (updV (updV Fh0 0 (.int 0)) 0 (.int 1))))])) := by
  refine kM.of (by decide) (Nat.le_of_ble_eq_true rfl) ?_
  intro p e s m below meth c A ls H C hr hlk hnm hP hD hS hl
  have C : kC G p s m c cX12_shift 10 RX12 A := C
  have hx := C.1
  have hb := C.2.1
  have hl : lv_has ls 10 [(0, .ref h0), (1, .int n0), (2, .int n1)] := hl
  refine lv_aload_n hx hb dX12_shift_0 rfl (lv_at hl 0 rfl) ?_
  refine lv_iconst (v := 0) hx hb dX12_shift_1 (by decide) ?_
  refine k_put fl_X12_177 ft_X12_0 C hP hD hS 0 rfl rfl rfl dX12_shift_2 (fun H locs hP hD hS => ?_)
  have hP : va_P G.1 vwCl [(h0, .inr (12, ofL 88 (updV Fh0 0 (.int 0))))] H := hP
  have hD : va_D A [(h0, .inr (12, ofL 88 (updV Fh0 0 (.int 0))))] := hD
  refine lv_aload_n hx hb dX12_shift_5 rfl (lv_at hl 0 rfl) ?_
  refine lv_iload_n hx hb dX12_shift_6 rfl (lv_at hl 1 rfl) ?_
  refine k_callVi (wr := []) (rest := []) li_X12_402 C (c_X12_isLesson l G H.size h0 n0 (updV Fh0 0 (.int 0)) rfl e_h0_1) (kR rfl) hP hD hS [0] [] rfl rfl rfl rfl (by decide) 0 12 rfl rfl rfl hl.1 rfl (Nat.le_of_ble_eq_true rfl) dX12_shift_7 (fun rr2 uu3 H locs hw1 hP hD hS => ?_)
  rcases hw1 with ⟨rfl, rfl, c_4⟩ | ⟨rfl, rfl, c_5⟩
  ·
    have hP : va_P G.1 vwCl [(h0, .inr (12, ofL 88 (updV (updV Fh0 0 (.int 0)) 0 (.int 1))))] H := hP
    have hD : va_D A [(h0, .inr (12, ofL 88 (updV (updV Fh0 0 (.int 0)) 0 (.int 1))))] := hD
    refine lv_if_eq (x := 0) (tgt := 22) hx hb dX12_shift_10 (by decide) (fun c_6 => ?_) (fun c_6 => ?_)
    rotate_left
    · exact absurd (by decide) c_6
    refine lv_iconst (v := 0) hx hb dX12_shift_22 (by decide) ?_
    exact k_iret C hr hlk hP hD hS 0 (Or.inl ⟨rfl, rfl, c_4⟩) [0] rfl rfl (Nat.le_of_ble_eq_true rfl) (Nat.le_of_ble_eq_true rfl) dX12_shift_23
  ·
    have hP : va_P G.1 vwCl [(h0, .inr (12, ofL 88 (updV (updV Fh0 0 (.int 0)) 0 (.int 1))))] H := hP
    have hD : va_D A [(h0, .inr (12, ofL 88 (updV (updV Fh0 0 (.int 0)) 0 (.int 1))))] := hD
    refine lv_if_eq (x := 0) (tgt := 22) hx hb dX12_shift_10 (by decide) (fun c_7 => ?_) (fun c_7 => ?_)
    rotate_left
    · exact absurd (by decide) c_7
    refine lv_iconst (v := 0) hx hb dX12_shift_22 (by decide) ?_
    exact k_iret C hr hlk hP hD hS 1 (Or.inr (⟨rfl, rfl, c_5⟩)) [0] rfl rfl (Nat.le_of_ble_eq_true rfl) (Nat.le_of_ble_eq_true rfl) dX12_shift_23
set_option maxHeartbeats 4000000 in
set_option maxRecDepth 100000 in
theorem c_X12_harm (l : Launch) (G : kG) (sz : Nat) (h0 : Nat) (n0 : Int32) (n1 : Int32) (Fh0 : Nat → Value) (e_h0_1 : Fh0 1 = .int 0) : kM l yX12_harm cX12_harm 5 (some .int) { frames := 8, cells := 0, slots := 0, locals := 153 } G [.ref h0, .int n0, .int n1] [(h0, .inr (12, ofL 88 Fh0))] sz (kQi G (S := Nat) (fun r u => (u = 0 ∧ r = 0 ∧ n0 < 0) ∨ (u = 1 ∧ r = 0 ∧ ¬ n0 < 0)) (fun u => match u with | 0 => [(h0, .inr (12, ofL 88 (updV (updV Fh0 0 (.int 0)) 0 (.int 1))))] | _ => [(h0, .inr (12, ofL 88 (updV (updV Fh0 0 (.int 0)) 0 (.int 1))))])) := by
  refine kM.of (by decide) (Nat.le_of_ble_eq_true rfl) ?_
  intro p e s m below meth c A ls H C hr hlk hnm hP hD hS hl
  have C : kC G p s m c cX12_harm 5 RX12 A := C
  have hx := C.1
  have hb := C.2.1
  have hl : lv_has ls 5 [(0, .ref h0), (1, .int n0), (2, .int n1)] := hl
  refine lv_aload_n hx hb dX12_harm_0 rfl (lv_at hl 0 rfl) ?_
  refine lv_iconst (v := 0) hx hb dX12_harm_1 (by decide) ?_
  refine k_put fl_X12_177 ft_X12_0 C hP hD hS 0 rfl rfl rfl dX12_harm_2 (fun H locs hP hD hS => ?_)
  have hP : va_P G.1 vwCl [(h0, .inr (12, ofL 88 (updV Fh0 0 (.int 0))))] H := hP
  have hD : va_D A [(h0, .inr (12, ofL 88 (updV Fh0 0 (.int 0))))] := hD
  refine lv_aload_n hx hb dX12_harm_5 rfl (lv_at hl 0 rfl) ?_
  refine lv_iload_n hx hb dX12_harm_6 rfl (lv_at hl 1 rfl) ?_
  refine k_callVi (wr := []) (rest := []) li_X12_402 C (c_X12_isLesson l G H.size h0 n0 (updV Fh0 0 (.int 0)) rfl e_h0_1) (kR rfl) hP hD hS [0] [] rfl rfl rfl rfl (by decide) 0 12 rfl rfl rfl hl.1 rfl (Nat.le_of_ble_eq_true rfl) dX12_harm_7 (fun rr2 uu3 H locs hw1 hP hD hS => ?_)
  rcases hw1 with ⟨rfl, rfl, c_4⟩ | ⟨rfl, rfl, c_5⟩
  ·
    have hP : va_P G.1 vwCl [(h0, .inr (12, ofL 88 (updV (updV Fh0 0 (.int 0)) 0 (.int 1))))] H := hP
    have hD : va_D A [(h0, .inr (12, ofL 88 (updV (updV Fh0 0 (.int 0)) 0 (.int 1))))] := hD
    refine lv_if_eq (x := 0) (tgt := 21) hx hb dX12_harm_10 (by decide) (fun c_6 => ?_) (fun c_6 => ?_)
    rotate_left
    · exact absurd (by decide) c_6
    refine lv_iconst (v := 0) hx hb dX12_harm_21 (by decide) ?_
    exact k_iret C hr hlk hP hD hS 0 (Or.inl ⟨rfl, rfl, c_4⟩) [0] rfl rfl (Nat.le_of_ble_eq_true rfl) (Nat.le_of_ble_eq_true rfl) dX12_harm_22
  ·
    have hP : va_P G.1 vwCl [(h0, .inr (12, ofL 88 (updV (updV Fh0 0 (.int 0)) 0 (.int 1))))] H := hP
    have hD : va_D A [(h0, .inr (12, ofL 88 (updV (updV Fh0 0 (.int 0)) 0 (.int 1))))] := hD
    refine lv_if_eq (x := 0) (tgt := 21) hx hb dX12_harm_10 (by decide) (fun c_7 => ?_) (fun c_7 => ?_)
    rotate_left
    · exact absurd (by decide) c_7
    refine lv_iconst (v := 0) hx hb dX12_harm_21 (by decide) ?_
    exact k_iret C hr hlk hP hD hS 1 (Or.inr (⟨rfl, rfl, c_5⟩)) [0] rfl rfl (Nat.le_of_ble_eq_true rfl) (Nat.le_of_ble_eq_true rfl) dX12_harm_22
