theorem dX5_init_0 : decode cX5_init 0 = .ok (.aload_n 0, 1) := by decide +kernel
theorem tw_72 : (Jvm.Cond.methodLink "MarshBells$Lesson" (3 : Nat) ({ cls := "java/lang/Object", name := "<init>", desc := "()V" } : Jvm.MethodName)) ∈ lw_tbl := tk_1 (List.mem_of_getElem? (i := 72) rfl)
theorem tw_32 : (Jvm.Cond.instanceMethod ({ cls := "java/lang/Object", name := "<init>", desc := "()V" } : Jvm.MethodName)) ∈ lw_tbl := tk_1 (List.mem_of_getElem? (i := 32) rfl)
theorem tw_33 : (Jvm.Cond.code ({ cls := "java/lang/Object", name := "<init>", desc := "()V" } : Jvm.MethodName) object_method_1_code (1 : Nat) (Option.none : Option Jvm.ClassFile.FieldType)) ∈ lw_tbl := tk_1 (List.mem_of_getElem? (i := 33) rfl)
theorem dX5_init_1 : decode cX5_init 1 = .ok (.invokespecial 3, 3) := by decide +kernel
theorem dX5_init_4 : decode cX5_init 4 = .ok (.aload_n 0, 1) := by decide +kernel
theorem dX5_init_5 : decode cX5_init 5 = .ok (.bipush 6, 2) := by decide +kernel
theorem dX5_init_7 : decode cX5_init 7 = .ok (.newarray .int, 2) := by decide +kernel
theorem ft_X5_0 : kFT 5 0 (.array .int) true RX5 := ⟨RX5, TX5, 14, tyX5, rfl, tyX5_ok, nmX5, rfl, by decide +kernel, rfl⟩
theorem dX5_init_9 : decode cX5_init 9 = .ok (.putfield 9, 3) := by decide +kernel
theorem dX5_init_12 : decode cX5_init 12 = .ok (.return_, 1) := by decide +kernel
theorem dX4_init_0 : decode cX4_init 0 = .ok (.aload_n 0, 1) := by decide +kernel
theorem tw_356 : (Jvm.Cond.methodLink "MarshBells$Least" (3 : Nat) ({ cls := "java/lang/Object", name := "<init>", desc := "()V" } : Jvm.MethodName)) ∈ lw_tbl := tk_2 (List.mem_of_getElem? (i := 116) rfl)
theorem dX4_init_1 : decode cX4_init 1 = .ok (.invokespecial 3, 3) := by decide +kernel
theorem dX4_init_4 : decode cX4_init 4 = .ok (.return_, 1) := by decide +kernel
theorem dX8_init_0 : decode cX8_init 0 = .ok (.aload_n 0, 1) := by decide +kernel
theorem tw_47 : (Jvm.Cond.methodLink "MarshBells$Rules" (3 : Nat) ({ cls := "java/lang/Object", name := "<init>", desc := "()V" } : Jvm.MethodName)) ∈ lw_tbl := tk_1 (List.mem_of_getElem? (i := 47) rfl)
theorem dX8_init_1 : decode cX8_init 1 = .ok (.invokespecial 3, 3) := by decide +kernel
theorem dX8_init_4 : decode cX8_init 4 = .ok (.aload_n 0, 1) := by decide +kernel
theorem dX8_init_5 : decode cX8_init 5 = .ok (.sipush 700, 3) := by decide +kernel
theorem dX8_init_8 : decode cX8_init 8 = .ok (.newarray .int, 2) := by decide +kernel
theorem ft_X8_0 : kFT 8 0 (.array .int) true RX8 := ⟨RX8, TX8, 5, tyX8, rfl, tyX8_ok, nmX8, rfl, by decide +kernel, rfl⟩
theorem dX8_init_10 : decode cX8_init 10 = .ok (.putfield 9, 3) := by decide +kernel
theorem dX8_init_13 : decode cX8_init 13 = .ok (.aload_n 0, 1) := by decide +kernel
theorem dX8_init_14 : decode cX8_init 14 = .ok (.iconst 5, 1) := by decide +kernel
theorem dX8_init_15 : decode cX8_init 15 = .ok (.newarray .int, 2) := by decide +kernel
theorem ft_X8_1 : kFT 8 1 (.array .int) true RX8 := ⟨RX8, TX8, 5, tyX8, rfl, tyX8_ok, nmX8, rfl, by decide +kernel, rfl⟩
theorem dX8_init_17 : decode cX8_init 17 = .ok (.putfield 15, 3) := by decide +kernel
theorem dX8_init_20 : decode cX8_init 20 = .ok (.aload_n 0, 1) := by decide +kernel
theorem dX8_init_21 : decode cX8_init 21 = .ok (.bipush 64, 2) := by decide +kernel
theorem dX8_init_23 : decode cX8_init 23 = .ok (.newarray .int, 2) := by decide +kernel
theorem ft_X8_2 : kFT 8 2 (.array .int) true RX8 := ⟨RX8, TX8, 5, tyX8, rfl, tyX8_ok, nmX8, rfl, by decide +kernel, rfl⟩
theorem dX8_init_25 : decode cX8_init 25 = .ok (.putfield 18, 3) := by decide +kernel
theorem dX8_init_28 : decode cX8_init 28 = .ok (.return_, 1) := by decide +kernel
theorem dX3_init_0 : decode cX3_init 0 = .ok (.aload_n 0, 1) := by decide +kernel
theorem tw_235 : (Jvm.Cond.methodLink "MarshBells$Held" (3 : Nat) ({ cls := "java/lang/Object", name := "<init>", desc := "()V" } : Jvm.MethodName)) ∈ lw_tbl := tk_1 (List.mem_of_getElem? (i := 235) rfl)
theorem dX3_init_1 : decode cX3_init 1 = .ok (.invokespecial 3, 3) := by decide +kernel
theorem dX3_init_4 : decode cX3_init 4 = .ok (.aload_n 0, 1) := by decide +kernel
theorem dX3_init_5 : decode cX3_init 5 = .ok (.bipush 12, 2) := by decide +kernel
theorem dX3_init_7 : decode cX3_init 7 = .ok (.newarray .int, 2) := by decide +kernel
theorem ft_X3_0 : kFT 3 0 (.array .int) true RX3 := ⟨RX3, TX3, 12, tyX3, rfl, tyX3_ok, nmX3, rfl, by decide +kernel, rfl⟩
theorem dX3_init_9 : decode cX3_init 9 = .ok (.putfield 9, 3) := by decide +kernel
theorem dX3_init_12 : decode cX3_init 12 = .ok (.aload_n 0, 1) := by decide +kernel
theorem dX3_init_13 : decode cX3_init 13 = .ok (.bipush 12, 2) := by decide +kernel
theorem dX3_init_15 : decode cX3_init 15 = .ok (.newarray .int, 2) := by decide +kernel
theorem ft_X3_1 : kFT 3 1 (.array .int) true RX3 := ⟨RX3, TX3, 12, tyX3, rfl, tyX3_ok, nmX3, rfl, by decide +kernel, rfl⟩
theorem dX3_init_17 : decode cX3_init 17 = .ok (.putfield 15, 3) := by decide +kernel
theorem dX3_init_20 : decode cX3_init 20 = .ok (.aload_n 0, 1) := by decide +kernel
theorem dX3_init_21 : decode cX3_init 21 = .ok (.bipush 12, 2) := by decide +kernel
theorem dX3_init_23 : decode cX3_init 23 = .ok (.newarray .int, 2) := by decide +kernel
theorem ft_X3_2 : kFT 3 2 (.array .int) true RX3 := ⟨RX3, TX3, 12, tyX3, rfl, tyX3_ok, nmX3, rfl, by decide +kernel, rfl⟩
theorem dX3_init_25 : decode cX3_init 25 = .ok (.putfield 18, 3) := by decide +kernel
theorem dX3_init_28 : decode cX3_init 28 = .ok (.aload_n 0, 1) := by decide +kernel
theorem dX3_init_29 : decode cX3_init 29 = .ok (.bipush 12, 2) := by decide +kernel
theorem dX3_init_31 : decode cX3_init 31 = .ok (.newarray .int, 2) := by decide +kernel
theorem ft_X3_3 : kFT 3 3 (.array .int) true RX3 := ⟨RX3, TX3, 12, tyX3, rfl, tyX3_ok, nmX3, rfl, by decide +kernel, rfl⟩
theorem dX3_init_33 : decode cX3_init 33 = .ok (.putfield 21, 3) := by decide +kernel
theorem dX3_init_36 : decode cX3_init 36 = .ok (.aload_n 0, 1) := by decide +kernel
theorem dX3_init_37 : decode cX3_init 37 = .ok (.bipush 40, 2) := by decide +kernel
theorem dX3_init_39 : decode cX3_init 39 = .ok (.newarray .int, 2) := by decide +kernel
theorem ft_X3_4 : kFT 3 4 (.array .int) true RX3 := ⟨RX3, TX3, 12, tyX3, rfl, tyX3_ok, nmX3, rfl, by decide +kernel, rfl⟩
theorem dX3_init_41 : decode cX3_init 41 = .ok (.putfield 24, 3) := by decide +kernel
theorem dX3_init_44 : decode cX3_init 44 = .ok (.aload_n 0, 1) := by decide +kernel
theorem dX3_init_45 : decode cX3_init 45 = .ok (.bipush 40, 2) := by decide +kernel
theorem dX3_init_47 : decode cX3_init 47 = .ok (.newarray .int, 2) := by decide +kernel
theorem ft_X3_5 : kFT 3 5 (.array .int) true RX3 := ⟨RX3, TX3, 12, tyX3, rfl, tyX3_ok, nmX3, rfl, by decide +kernel, rfl⟩
theorem dX3_init_49 : decode cX3_init 49 = .ok (.putfield 27, 3) := by decide +kernel
theorem dX3_init_52 : decode cX3_init 52 = .ok (.aload_n 0, 1) := by decide +kernel
theorem dX3_init_53 : decode cX3_init 53 = .ok (.bipush 40, 2) := by decide +kernel
theorem dX3_init_55 : decode cX3_init 55 = .ok (.newarray .int, 2) := by decide +kernel
theorem ft_X3_6 : kFT 3 6 (.array .int) true RX3 := ⟨RX3, TX3, 12, tyX3, rfl, tyX3_ok, nmX3, rfl, by decide +kernel, rfl⟩
theorem dX3_init_57 : decode cX3_init 57 = .ok (.putfield 30, 3) := by decide +kernel
theorem dX3_init_60 : decode cX3_init 60 = .ok (.aload_n 0, 1) := by decide +kernel
theorem dX3_init_61 : decode cX3_init 61 = .ok (.bipush 8, 2) := by decide +kernel
theorem dX3_init_63 : decode cX3_init 63 = .ok (.newarray .int, 2) := by decide +kernel
theorem ft_X3_7 : kFT 3 7 (.array .int) true RX3 := ⟨RX3, TX3, 12, tyX3, rfl, tyX3_ok, nmX3, rfl, by decide +kernel, rfl⟩
theorem dX3_init_65 : decode cX3_init 65 = .ok (.putfield 33, 3) := by decide +kernel
theorem dX3_init_68 : decode cX3_init 68 = .ok (.aload_n 0, 1) := by decide +kernel
theorem dX3_init_69 : decode cX3_init 69 = .ok (.bipush 8, 2) := by decide +kernel
theorem dX3_init_71 : decode cX3_init 71 = .ok (.newarray .int, 2) := by decide +kernel
theorem ft_X3_8 : kFT 3 8 (.array .int) true RX3 := ⟨RX3, TX3, 12, tyX3, rfl, tyX3_ok, nmX3, rfl, by decide +kernel, rfl⟩
theorem dX3_init_73 : decode cX3_init 73 = .ok (.putfield 36, 3) := by decide +kernel
theorem dX3_init_76 : decode cX3_init 76 = .ok (.aload_n 0, 1) := by decide +kernel
theorem dX3_init_77 : decode cX3_init 77 = .ok (.iconst 0, 1) := by decide +kernel
theorem dX3_init_78 : decode cX3_init 78 = .ok (.putfield 39, 3) := by decide +kernel
theorem dX3_init_81 : decode cX3_init 81 = .ok (.aload_n 0, 1) := by decide +kernel
theorem dX3_init_82 : decode cX3_init 82 = .ok (.iconst 0, 1) := by decide +kernel
theorem dX3_init_83 : decode cX3_init 83 = .ok (.putfield 43, 3) := by decide +kernel
theorem dX3_init_86 : decode cX3_init 86 = .ok (.aload_n 0, 1) := by decide +kernel
theorem dX3_init_87 : decode cX3_init 87 = .ok (.iconst (-1), 1) := by decide +kernel
theorem dX3_init_88 : decode cX3_init 88 = .ok (.putfield 46, 3) := by decide +kernel
theorem dX3_init_91 : decode cX3_init 91 = .ok (.return_, 1) := by decide +kernel
theorem dX1_init_0 : decode cX1_init 0 = .ok (.aload_n 0, 1) := by decide +kernel
theorem tw_297 : (Jvm.Cond.methodLink "MarshBells$Day" (3 : Nat) ({ cls := "java/lang/Object", name := "<init>", desc := "()V" } : Jvm.MethodName)) ∈ lw_tbl := tk_2 (List.mem_of_getElem? (i := 57) rfl)
theorem dX1_init_1 : decode cX1_init 1 = .ok (.invokespecial 3, 3) := by decide +kernel
theorem dX1_init_4 : decode cX1_init 4 = .ok (.aload_n 0, 1) := by decide +kernel
theorem dX1_init_5 : decode cX1_init 5 = .ok (.bipush 12, 2) := by decide +kernel
theorem dX1_init_7 : decode cX1_init 7 = .ok (.newarray .int, 2) := by decide +kernel
theorem ft_X1_1 : kFT 1 1 (.array .int) true RX1 := ⟨RX1, TX1, 10, tyX1, rfl, tyX1_ok, nmX1, rfl, by decide +kernel, rfl⟩
theorem dX1_init_9 : decode cX1_init 9 = .ok (.putfield 9, 3) := by decide +kernel
theorem dX1_init_12 : decode cX1_init 12 = .ok (.aload_n 0, 1) := by decide +kernel
theorem dX1_init_13 : decode cX1_init 13 = .ok (.bipush 12, 2) := by decide +kernel
theorem dX1_init_15 : decode cX1_init 15 = .ok (.newarray .int, 2) := by decide +kernel
theorem ft_X1_2 : kFT 1 2 (.array .int) true RX1 := ⟨RX1, TX1, 10, tyX1, rfl, tyX1_ok, nmX1, rfl, by decide +kernel, rfl⟩
theorem dX1_init_17 : decode cX1_init 17 = .ok (.putfield 15, 3) := by decide +kernel
theorem dX1_init_20 : decode cX1_init 20 = .ok (.aload_n 0, 1) := by decide +kernel
theorem dX1_init_21 : decode cX1_init 21 = .ok (.bipush 12, 2) := by decide +kernel
theorem dX1_init_23 : decode cX1_init 23 = .ok (.newarray .int, 2) := by decide +kernel
theorem ft_X1_3 : kFT 1 3 (.array .int) true RX1 := ⟨RX1, TX1, 10, tyX1, rfl, tyX1_ok, nmX1, rfl, by decide +kernel, rfl⟩
theorem dX1_init_25 : decode cX1_init 25 = .ok (.putfield 18, 3) := by decide +kernel
theorem dX1_init_28 : decode cX1_init 28 = .ok (.aload_n 0, 1) := by decide +kernel
theorem dX1_init_29 : decode cX1_init 29 = .ok (.bipush 12, 2) := by decide +kernel
theorem dX1_init_31 : decode cX1_init 31 = .ok (.newarray .int, 2) := by decide +kernel
theorem ft_X1_4 : kFT 1 4 (.array .int) true RX1 := ⟨RX1, TX1, 10, tyX1, rfl, tyX1_ok, nmX1, rfl, by decide +kernel, rfl⟩
theorem dX1_init_33 : decode cX1_init 33 = .ok (.putfield 21, 3) := by decide +kernel
theorem dX1_init_36 : decode cX1_init 36 = .ok (.aload_n 0, 1) := by decide +kernel
theorem dX1_init_37 : decode cX1_init 37 = .ok (.bipush 6, 2) := by decide +kernel
theorem dX1_init_39 : decode cX1_init 39 = .ok (.newarray .int, 2) := by decide +kernel
theorem ft_X1_5 : kFT 1 5 (.array .int) true RX1 := ⟨RX1, TX1, 10, tyX1, rfl, tyX1_ok, nmX1, rfl, by decide +kernel, rfl⟩
theorem dX1_init_41 : decode cX1_init 41 = .ok (.putfield 24, 3) := by decide +kernel
theorem dX1_init_44 : decode cX1_init 44 = .ok (.aload_n 0, 1) := by decide +kernel
theorem dX1_init_45 : decode cX1_init 45 = .ok (.bipush 6, 2) := by decide +kernel
theorem dX1_init_47 : decode cX1_init 47 = .ok (.newarray .int, 2) := by decide +kernel
theorem ft_X1_6 : kFT 1 6 (.array .int) true RX1 := ⟨RX1, TX1, 10, tyX1, rfl, tyX1_ok, nmX1, rfl, by decide +kernel, rfl⟩
theorem dX1_init_49 : decode cX1_init 49 = .ok (.putfield 27, 3) := by decide +kernel
theorem dX1_init_52 : decode cX1_init 52 = .ok (.aload_n 0, 1) := by decide +kernel
theorem dX1_init_53 : decode cX1_init 53 = .ok (.iconst (-1), 1) := by decide +kernel
theorem dX1_init_54 : decode cX1_init 54 = .ok (.putfield 30, 3) := by decide +kernel
theorem dX1_init_57 : decode cX1_init 57 = .ok (.aload_n 0, 1) := by decide +kernel
theorem dX1_init_58 : decode cX1_init 58 = .ok (.iconst (-1), 1) := by decide +kernel
theorem dX1_init_59 : decode cX1_init 59 = .ok (.putfield 34, 3) := by decide +kernel
theorem dX1_init_62 : decode cX1_init 62 = .ok (.aload_n 0, 1) := by decide +kernel
theorem dX1_init_63 : decode cX1_init 63 = .ok (.aload_n 1, 1) := by decide +kernel
theorem dX1_init_64 : decode cX1_init 64 = .ok (.putfield 37, 3) := by decide +kernel
theorem dX1_init_67 : decode cX1_init 67 = .ok (.aload_n 0, 1) := by decide +kernel
theorem dX1_init_68 : decode cX1_init 68 = .ok (.aload_n 2, 1) := by decide +kernel
theorem ft_X1_0 : kFT 1 0 (.object "MarshBells$Held") true RX1 := ⟨RX1, TX1, 10, tyX1, rfl, tyX1_ok, nmX1, rfl, by decide +kernel, rfl⟩
theorem dX1_init_69 : decode cX1_init 69 = .ok (.putfield 41, 3) := by decide +kernel
theorem dX1_init_72 : decode cX1_init 72 = .ok (.return_, 1) := by decide +kernel
theorem dX6_init_0 : decode cX6_init 0 = .ok (.aload_n 0, 1) := by decide +kernel
theorem tw_193 : (Jvm.Cond.methodLink "MarshBells$Parser" (3 : Nat) ({ cls := "java/lang/Object", name := "<init>", desc := "()V" } : Jvm.MethodName)) ∈ lw_tbl := tk_1 (List.mem_of_getElem? (i := 193) rfl)
theorem dX6_init_1 : decode cX6_init 1 = .ok (.invokespecial 3, 3) := by decide +kernel
theorem dX6_init_4 : decode cX6_init 4 = .ok (.aload_n 0, 1) := by decide +kernel
theorem dX6_init_5 : decode cX6_init 5 = .ok (.aload_n 1, 1) := by decide +kernel
theorem ft_X6_0 : kFT 6 0 (.array .int) true RX6 := ⟨RX6, TX6, 11, tyX6, rfl, tyX6_ok, nmX6, rfl, by decide +kernel, rfl⟩
theorem dX6_init_6 : decode cX6_init 6 = .ok (.putfield 9, 3) := by decide +kernel
theorem dX6_init_9 : decode cX6_init 9 = .ok (.aload_n 0, 1) := by decide +kernel
theorem dX6_init_10 : decode cX6_init 10 = .ok (.aload_n 2, 1) := by decide +kernel
theorem dX6_init_11 : decode cX6_init 11 = .ok (.putfield 15, 3) := by decide +kernel
theorem dX6_init_14 : decode cX6_init 14 = .ok (.return_, 1) := by decide +kernel
theorem dX10_init_0 : decode cX10_init 0 = .ok (.aload_n 0, 1) := by decide +kernel
theorem tw_350 : (Jvm.Cond.methodLink "MarshBells$Trials" (3 : Nat) ({ cls := "java/lang/Object", name := "<init>", desc := "()V" } : Jvm.MethodName)) ∈ lw_tbl := tk_2 (List.mem_of_getElem? (i := 110) rfl)
theorem dX10_init_1 : decode cX10_init 1 = .ok (.invokespecial 3, 3) := by decide +kernel
theorem dX10_init_4 : decode cX10_init 4 = .ok (.aload_n 0, 1) := by decide +kernel
theorem tw_351 : (Jvm.Cond.classLink "MarshBells$Trials" (9 : Nat) "MarshBells$Least") ∈ lw_tbl := tk_2 (List.mem_of_getElem? (i := 111) rfl)
theorem dX10_init_5 : decode cX10_init 5 = .ok (.new 9, 3) := by decide +kernel
theorem dX10_init_8 : decode cX10_init 8 = .ok (.dup, 1) := by decide +kernel
theorem tw_353 : (Jvm.Cond.methodLinkNest "MarshBells$Trials" (11 : Nat) ({ cls := "MarshBells$Least", name := "<init>", desc := "()V" } : Jvm.MethodName) "MarshBells") ∈ lw_tbl := tk_2 (List.mem_of_getElem? (i := 113) rfl)
theorem tw_355 : (Jvm.Cond.code ({ cls := "MarshBells$Least", name := "<init>", desc := "()V" } : Jvm.MethodName) prog_6_method_1_code (1 : Nat) (Option.none : Option Jvm.ClassFile.FieldType)) ∈ lw_tbl := tk_2 (List.mem_of_getElem? (i := 115) rfl)
theorem tw_354 : (Jvm.Cond.instanceMethod ({ cls := "MarshBells$Least", name := "<init>", desc := "()V" } : Jvm.MethodName)) ∈ lw_tbl := tk_2 (List.mem_of_getElem? (i := 114) rfl)
theorem li_X10_11 : kLJ RX10 11 yX4_init "MarshBells" cX4_init 1 0 := ⟨tw_353, tw_354, tw_355, tw_9, rfl, by decide +kernel⟩
theorem dX10_init_9 : decode cX10_init 9 = .ok (.invokespecial 11, 3) := by decide +kernel
theorem ft_X10_2 : kFT 10 2 (.object "MarshBells$Least") true RX10 := ⟨RX10, TX10, 7, tyX10, rfl, tyX10_ok, nmX10, rfl, by decide +kernel, rfl⟩
theorem dX10_init_12 : decode cX10_init 12 = .ok (.putfield 12, 3) := by decide +kernel
theorem dX10_init_15 : decode cX10_init 15 = .ok (.aload_n 0, 1) := by decide +kernel
theorem dX10_init_16 : decode cX10_init 16 = .ok (.bipush 12, 2) := by decide +kernel
theorem dX10_init_18 : decode cX10_init 18 = .ok (.newarray .int, 2) := by decide +kernel
theorem ft_X10_3 : kFT 10 3 (.array .int) true RX10 := ⟨RX10, TX10, 7, tyX10, rfl, tyX10_ok, nmX10, rfl, by decide +kernel, rfl⟩
theorem dX10_init_20 : decode cX10_init 20 = .ok (.putfield 18, 3) := by decide +kernel
theorem dX10_init_23 : decode cX10_init 23 = .ok (.aload_n 0, 1) := by decide +kernel
theorem dX10_init_24 : decode cX10_init 24 = .ok (.aload_n 1, 1) := by decide +kernel
theorem ft_X10_0 : kFT 10 0 (.object "MarshBells$Day") true RX10 := ⟨RX10, TX10, 7, tyX10, rfl, tyX10_ok, nmX10, rfl, by decide +kernel, rfl⟩
theorem dX10_init_25 : decode cX10_init 25 = .ok (.putfield 22, 3) := by decide +kernel
theorem dX10_init_28 : decode cX10_init 28 = .ok (.aload_n 0, 1) := by decide +kernel
theorem dX10_init_29 : decode cX10_init 29 = .ok (.aload_n 1, 1) := by decide +kernel
theorem tw_299 : (Jvm.Cond.fieldLinkNest "MarshBells$Trials" (26 : Nat) "MarshBells$Day" "held" "LMarshBells$Held;" "MarshBells") ∈ lw_tbl := tk_2 (List.mem_of_getElem? (i := 59) rfl)
theorem fl_X10_26 : kFN RX10 26 1 10 0 := ⟨RX1, TX1, rfl, by decide, inWX1, tw_299⟩
theorem dX10_init_30 : decode cX10_init 30 = .ok (.getfield 26, 3) := by decide +kernel
theorem ft_X10_1 : kFT 10 1 (.object "MarshBells$Held") true RX10 := ⟨RX10, TX10, 7, tyX10, rfl, tyX10_ok, nmX10, rfl, by decide +kernel, rfl⟩
theorem dX10_init_33 : decode cX10_init 33 = .ok (.putfield 32, 3) := by decide +kernel
theorem dX10_init_36 : decode cX10_init 36 = .ok (.return_, 1) := by decide +kernel
theorem dX2_init_0 : decode cX2_init 0 = .ok (.aload_n 0, 1) := by decide +kernel
theorem tw_399 : (Jvm.Cond.methodLink "MarshBells$GapSearch" (3 : Nat) ({ cls := "java/lang/Object", name := "<init>", desc := "()V" } : Jvm.MethodName)) ∈ lw_tbl := tk_2 (List.mem_of_getElem? (i := 159) rfl)
theorem dX2_init_1 : decode cX2_init 1 = .ok (.invokespecial 3, 3) := by decide +kernel
theorem dX2_init_4 : decode cX2_init 4 = .ok (.aload_n 0, 1) := by decide +kernel
theorem dX2_init_5 : decode cX2_init 5 = .ok (.bipush 12, 2) := by decide +kernel
theorem dX2_init_7 : decode cX2_init 7 = .ok (.newarray .int, 2) := by decide +kernel
theorem ft_X2_2 : kFT 2 2 (.array .int) true RX2 := ⟨RX2, TX2, 9, tyX2, rfl, tyX2_ok, nmX2, rfl, by decide +kernel, rfl⟩
theorem dX2_init_9 : decode cX2_init 9 = .ok (.putfield 9, 3) := by decide +kernel
theorem dX2_init_12 : decode cX2_init 12 = .ok (.aload_n 0, 1) := by decide +kernel
theorem dX2_init_13 : decode cX2_init 13 = .ok (.bipush 12, 2) := by decide +kernel
theorem dX2_init_15 : decode cX2_init 15 = .ok (.newarray .int, 2) := by decide +kernel
theorem ft_X2_3 : kFT 2 3 (.array .int) true RX2 := ⟨RX2, TX2, 9, tyX2, rfl, tyX2_ok, nmX2, rfl, by decide +kernel, rfl⟩
theorem dX2_init_17 : decode cX2_init 17 = .ok (.putfield 15, 3) := by decide +kernel
theorem dX2_init_20 : decode cX2_init 20 = .ok (.aload_n 0, 1) := by decide +kernel
theorem dX2_init_21 : decode cX2_init 21 = .ok (.aload_n 1, 1) := by decide +kernel
theorem ft_X2_0 : kFT 2 0 (.object "MarshBells$Day") true RX2 := ⟨RX2, TX2, 9, tyX2, rfl, tyX2_ok, nmX2, rfl, by decide +kernel, rfl⟩
theorem dX2_init_22 : decode cX2_init 22 = .ok (.putfield 18, 3) := by decide +kernel
theorem dX2_init_25 : decode cX2_init 25 = .ok (.aload_n 0, 1) := by decide +kernel
theorem dX2_init_26 : decode cX2_init 26 = .ok (.aload_n 1, 1) := by decide +kernel
theorem tw_298 : (Jvm.Cond.fieldLinkNest "MarshBells$GapSearch" (22 : Nat) "MarshBells$Day" "held" "LMarshBells$Held;" "MarshBells") ∈ lw_tbl := tk_2 (List.mem_of_getElem? (i := 58) rfl)
theorem fl_X2_22 : kFN RX2 22 1 10 0 := ⟨RX1, TX1, rfl, by decide, inWX1, tw_298⟩
theorem dX2_init_27 : decode cX2_init 27 = .ok (.getfield 22, 3) := by decide +kernel
theorem ft_X2_1 : kFT 2 1 (.object "MarshBells$Held") true RX2 := ⟨RX2, TX2, 9, tyX2, rfl, tyX2_ok, nmX2, rfl, by decide +kernel, rfl⟩
theorem dX2_init_30 : decode cX2_init 30 = .ok (.putfield 28, 3) := by decide +kernel
theorem dX2_init_33 : decode cX2_init 33 = .ok (.return_, 1) := by decide +kernel
theorem dX0_init_0 : decode cX0_init 0 = .ok (.aload_n 0, 1) := by decide +kernel
theorem tw_434 : (Jvm.Cond.methodLink "MarshBells$Chances" (3 : Nat) ({ cls := "java/lang/Object", name := "<init>", desc := "()V" } : Jvm.MethodName)) ∈ lw_tbl := tk_2 (List.mem_of_getElem? (i := 194) rfl)
theorem dX0_init_1 : decode cX0_init 1 = .ok (.invokespecial 3, 3) := by decide +kernel
theorem dX0_init_4 : decode cX0_init 4 = .ok (.aload_n 0, 1) := by decide +kernel
theorem dX0_init_5 : decode cX0_init 5 = .ok (.bipush 8, 2) := by decide +kernel
theorem dX0_init_7 : decode cX0_init 7 = .ok (.newarray .int, 2) := by decide +kernel
theorem ft_X0_1 : kFT 0 1 (.array .int) true RX0 := ⟨RX0, TX0, 7, tyX0, rfl, tyX0_ok, nmX0, rfl, by decide +kernel, rfl⟩
theorem dX0_init_9 : decode cX0_init 9 = .ok (.putfield 9, 3) := by decide +kernel
theorem dX0_init_12 : decode cX0_init 12 = .ok (.aload_n 0, 1) := by decide +kernel
theorem dX0_init_13 : decode cX0_init 13 = .ok (.aload_n 1, 1) := by decide +kernel
theorem ft_X0_0 : kFT 0 0 (.object "MarshBells$Day") true RX0 := ⟨RX0, TX0, 7, tyX0, rfl, tyX0_ok, nmX0, rfl, by decide +kernel, rfl⟩
theorem dX0_init_14 : decode cX0_init 14 = .ok (.putfield 15, 3) := by decide +kernel
theorem dX0_init_17 : decode cX0_init 17 = .ok (.return_, 1) := by decide +kernel
theorem dX9_init_0 : decode cX9_init 0 = .ok (.aload_n 0, 1) := by decide +kernel
theorem tw_464 : (Jvm.Cond.methodLink "MarshBells$Stair" (3 : Nat) ({ cls := "java/lang/Object", name := "<init>", desc := "()V" } : Jvm.MethodName)) ∈ lw_tbl := tk_2 (List.mem_of_getElem? (i := 224) rfl)
theorem dX9_init_1 : decode cX9_init 1 = .ok (.invokespecial 3, 3) := by decide +kernel
theorem dX9_init_4 : decode cX9_init 4 = .ok (.aload_n 0, 1) := by decide +kernel
theorem dX9_init_5 : decode cX9_init 5 = .ok (.bipush 72, 2) := by decide +kernel
theorem dX9_init_7 : decode cX9_init 7 = .ok (.newarray .int, 2) := by decide +kernel
theorem ft_X9_1 : kFT 9 1 (.array .int) true RX9 := ⟨RX9, TX9, 6, tyX9, rfl, tyX9_ok, nmX9, rfl, by decide +kernel, rfl⟩
theorem dX9_init_9 : decode cX9_init 9 = .ok (.putfield 9, 3) := by decide +kernel
theorem dX9_init_12 : decode cX9_init 12 = .ok (.aload_n 0, 1) := by decide +kernel
theorem dX9_init_13 : decode cX9_init 13 = .ok (.bipush 72, 2) := by decide +kernel
theorem dX9_init_15 : decode cX9_init 15 = .ok (.newarray .int, 2) := by decide +kernel
theorem ft_X9_2 : kFT 9 2 (.array .int) true RX9 := ⟨RX9, TX9, 6, tyX9, rfl, tyX9_ok, nmX9, rfl, by decide +kernel, rfl⟩
theorem dX9_init_17 : decode cX9_init 17 = .ok (.putfield 15, 3) := by decide +kernel
theorem dX9_init_20 : decode cX9_init 20 = .ok (.aload_n 0, 1) := by decide +kernel
theorem dX9_init_21 : decode cX9_init 21 = .ok (.bipush 72, 2) := by decide +kernel
theorem dX9_init_23 : decode cX9_init 23 = .ok (.newarray .int, 2) := by decide +kernel
theorem ft_X9_3 : kFT 9 3 (.array .int) true RX9 := ⟨RX9, TX9, 6, tyX9, rfl, tyX9_ok, nmX9, rfl, by decide +kernel, rfl⟩
theorem dX9_init_25 : decode cX9_init 25 = .ok (.putfield 18, 3) := by decide +kernel
theorem dX9_init_28 : decode cX9_init 28 = .ok (.aload_n 0, 1) := by decide +kernel
theorem dX9_init_29 : decode cX9_init 29 = .ok (.bipush 72, 2) := by decide +kernel
theorem dX9_init_31 : decode cX9_init 31 = .ok (.newarray .boolean, 2) := by decide +kernel
theorem ft_X9_4 : kFT 9 4 (.array .boolean) true RX9 := ⟨RX9, TX9, 6, tyX9, rfl, tyX9_ok, nmX9, rfl, by decide +kernel, rfl⟩
theorem dX9_init_33 : decode cX9_init 33 = .ok (.putfield 21, 3) := by decide +kernel
theorem dX9_init_36 : decode cX9_init 36 = .ok (.aload_n 0, 1) := by decide +kernel
theorem dX9_init_37 : decode cX9_init 37 = .ok (.aload_n 1, 1) := by decide +kernel
theorem ft_X9_0 : kFT 9 0 (.object "MarshBells$Day") true RX9 := ⟨RX9, TX9, 6, tyX9, rfl, tyX9_ok, nmX9, rfl, by decide +kernel, rfl⟩
theorem dX9_init_38 : decode cX9_init 38 = .ok (.putfield 25, 3) := by decide +kernel
theorem dX9_init_41 : decode cX9_init 41 = .ok (.return_, 1) := by decide +kernel
set_option maxHeartbeats 4000000 in
set_option maxRecDepth 100000 in
theorem c_X5_init (l : Launch) (G : kG) (sz : Nat) (h0 : Nat) (Fh0 : Nat → Value) : kM l yX5_init cX5_init 1 none { frames := 6, cells := 1, slots := 6, locals := 110 } G [.ref h0] [(h0, .inr (5, ofL 14 Fh0))] sz (kQv G (S := (Nat → Nat)) (fun (_ : Nat → Nat) => True) (fun u => [(h0, .inr (5, ofL 14 (updV Fh0 0 (.ref (u 0))))), ((u 0), .inl (G.2.1, 6, .inl (fun _ => 0)))])) := by
  refine kM.of (by decide) (Nat.le_of_ble_eq_true rfl) ?_
  intro p e s m below meth c A ls H C hr hlk hnm hP hD hS hl
  have C : kC G p s m c cX5_init 1 RX5 A := C
  have hx := C.1
  have hb := C.2.1
  have hl : lv_has ls 1 [(0, .ref h0)] := hl
  refine lv_aload_n hx hb dX5_init_0 rfl (lv_at hl 0 rfl) ?_
  refine k_obj ⟨tw_72, tw_32, tw_33⟩ C hl.1 dX5_init_1 (Nat.le_of_ble_eq_true rfl) (Nat.le_of_ble_eq_true rfl) ?_
  refine lv_aload_n hx hb dX5_init_4 rfl (lv_at hl 0 rfl) ?_
  refine lv_bipush (v := 6) hx hb dX5_init_5 (by decide) ?_
  refine k_newI (N' := 6) tw_67 C hP hD hS (by decide) (by decide) (by decide) (Nat.le_of_ble_eq_true rfl) (Nat.le_of_ble_eq_true rfl) dX5_init_7 (fun qq1 H hP hD hS => ?_)
  have hP : va_P G.1 vwCl [(h0, .inr (5, ofL 14 Fh0)), (qq1, .inl (G.2.1, 6, .inl (fun _ => 0)))] H := hP
  have hD : va_D A [(h0, .inr (5, ofL 14 Fh0)), (qq1, .inl (G.2.1, 6, .inl (fun _ => 0)))] := hD
  refine k_putF fl_X5_9 ft_X5_0 C hnm hP hD hS 0 rfl rfl rfl dX5_init_9 (fun H locs hP hD hS => ?_)
  have hP : va_P G.1 vwCl [(h0, .inr (5, ofL 14 (updV Fh0 0 (.ref qq1)))), (qq1, .inl (G.2.1, 6, .inl (fun _ => 0)))] H := hP
  have hD : va_D A [(h0, .inr (5, ofL 14 (updV Fh0 0 (.ref qq1)))), (qq1, .inl (G.2.1, 6, .inl (fun _ => 0)))] := hD
  exact k_vret C hr hlk hP hD hS (fun k => match k with | 0 => qq1 | _ => 0) (trivial) [0, 1] rfl rfl (Nat.le_of_ble_eq_true rfl) (Nat.le_of_ble_eq_true rfl) dX5_init_12
set_option maxHeartbeats 4000000 in
set_option maxRecDepth 100000 in
theorem c_X4_init (l : Launch) (G : kG) (sz : Nat) (h0 : Nat) (Fh0 : Nat → Value) : kM l yX4_init cX4_init 1 none { frames := 6, cells := 0, slots := 0, locals := 110 } G [.ref h0] [(h0, .inr (4, ofL 3 Fh0))] sz (kQv G (S := Unit) (fun (_ : Unit) => True) (fun _ => [(h0, .inr (4, ofL 3 Fh0))])) := by
  refine kM.of (by decide) (Nat.le_of_ble_eq_true rfl) ?_
  intro p e s m below meth c A ls H C hr hlk hnm hP hD hS hl
  have C : kC G p s m c cX4_init 1 RX4 A := C
  have hx := C.1
  have hb := C.2.1
  have hl : lv_has ls 1 [(0, .ref h0)] := hl
  refine lv_aload_n hx hb dX4_init_0 rfl (lv_at hl 0 rfl) ?_
  refine k_obj ⟨tw_356, tw_32, tw_33⟩ C hl.1 dX4_init_1 (Nat.le_of_ble_eq_true rfl) (Nat.le_of_ble_eq_true rfl) ?_
  exact k_vret C hr hlk hP hD hS () (trivial) [0] rfl rfl (Nat.le_of_ble_eq_true rfl) (Nat.le_of_ble_eq_true rfl) dX4_init_4
set_option maxHeartbeats 4000000 in
set_option maxRecDepth 100000 in
theorem c_X8_init (l : Launch) (G : kG) (sz : Nat) (h0 : Nat) (Fh0 : Nat → Value) : kM l yX8_init cX8_init 1 none { frames := 6, cells := 3, slots := 769, locals := 110 } G [.ref h0] [(h0, .inr (8, ofL 5 Fh0))] sz (kQv G (S := (Nat → Nat)) (fun (_ : Nat → Nat) => True) (fun u => [(h0, .inr (8, ofL 5 (updV (updV (updV Fh0 0 (.ref (u 0))) 1 (.ref (u 1))) 2 (.ref (u 2))))), ((u 0), .inl (G.2.1, 700, .inl (fun _ => 0))), ((u 1), .inl (G.2.1, 5, .inl (fun _ => 0))), ((u 2), .inl (G.2.1, 64, .inl (fun _ => 0)))])) := by
  refine kM.of (by decide) (Nat.le_of_ble_eq_true rfl) ?_
  intro p e s m below meth c A ls H C hr hlk hnm hP hD hS hl
  have C : kC G p s m c cX8_init 1 RX8 A := C
  have hx := C.1
  have hb := C.2.1
  have hl : lv_has ls 1 [(0, .ref h0)] := hl
  refine lv_aload_n hx hb dX8_init_0 rfl (lv_at hl 0 rfl) ?_
  refine k_obj ⟨tw_47, tw_32, tw_33⟩ C hl.1 dX8_init_1 (Nat.le_of_ble_eq_true rfl) (Nat.le_of_ble_eq_true rfl) ?_
  refine lv_aload_n hx hb dX8_init_4 rfl (lv_at hl 0 rfl) ?_
  refine lv_sipush (v := 700) hx hb dX8_init_5 (by decide) ?_
  refine k_newI (N' := 700) tw_67 C hP hD hS (by decide) (by decide) (by decide) (Nat.le_of_ble_eq_true rfl) (Nat.le_of_ble_eq_true rfl) dX8_init_8 (fun qq1 H hP hD hS => ?_)
  have hP : va_P G.1 vwCl [(h0, .inr (8, ofL 5 Fh0)), (qq1, .inl (G.2.1, 700, .inl (fun _ => 0)))] H := hP
  have hD : va_D A [(h0, .inr (8, ofL 5 Fh0)), (qq1, .inl (G.2.1, 700, .inl (fun _ => 0)))] := hD
  refine k_putF fl_X8_9 ft_X8_0 C hnm hP hD hS 0 rfl rfl rfl dX8_init_10 (fun H locs hP hD hS => ?_)
  have hP : va_P G.1 vwCl [(h0, .inr (8, ofL 5 (updV Fh0 0 (.ref qq1)))), (qq1, .inl (G.2.1, 700, .inl (fun _ => 0)))] H := hP
  have hD : va_D A [(h0, .inr (8, ofL 5 (updV Fh0 0 (.ref qq1)))), (qq1, .inl (G.2.1, 700, .inl (fun _ => 0)))] := hD
  refine lv_aload_n hx hb dX8_init_13 rfl (lv_at hl 0 rfl) ?_
  refine lv_iconst (v := 5) hx hb dX8_init_14 (by decide) ?_
  refine k_newI (N' := 5) tw_67 C hP hD hS (by decide) (by decide) (by decide) (Nat.le_of_ble_eq_true rfl) (Nat.le_of_ble_eq_true rfl) dX8_init_15 (fun qq2 H hP hD hS => ?_)
  have hP : va_P G.1 vwCl [(h0, .inr (8, ofL 5 (updV Fh0 0 (.ref qq1)))), (qq1, .inl (G.2.1, 700, .inl (fun _ => 0))), (qq2, .inl (G.2.1, 5, .inl (fun _ => 0)))] H := hP
  have hD : va_D A [(h0, .inr (8, ofL 5 (updV Fh0 0 (.ref qq1)))), (qq1, .inl (G.2.1, 700, .inl (fun _ => 0))), (qq2, .inl (G.2.1, 5, .inl (fun _ => 0)))] := hD
  refine k_putF fl_X8_15 ft_X8_1 C hnm hP hD hS 0 rfl rfl rfl dX8_init_17 (fun H locs hP hD hS => ?_)
  have hP : va_P G.1 vwCl [(h0, .inr (8, ofL 5 (updV (updV Fh0 0 (.ref qq1)) 1 (.ref qq2)))), (qq1, .inl (G.2.1, 700, .inl (fun _ => 0))), (qq2, .inl (G.2.1, 5, .inl (fun _ => 0)))] H := hP
  have hD : va_D A [(h0, .inr (8, ofL 5 (updV (updV Fh0 0 (.ref qq1)) 1 (.ref qq2)))), (qq1, .inl (G.2.1, 700, .inl (fun _ => 0))), (qq2, .inl (G.2.1, 5, .inl (fun _ => 0)))] := hD
  refine lv_aload_n hx hb dX8_init_20 rfl (lv_at hl 0 rfl) ?_
  refine lv_bipush (v := 64) hx hb dX8_init_21 (by decide) ?_
  refine k_newI (N' := 64) tw_67 C hP hD hS (by decide) (by decide) (by decide) (Nat.le_of_ble_eq_true rfl) (Nat.le_of_ble_eq_true rfl) dX8_init_23 (fun qq3 H hP hD hS => ?_)
  have hP : va_P G.1 vwCl [(h0, .inr (8, ofL 5 (updV (updV Fh0 0 (.ref qq1)) 1 (.ref qq2)))), (qq1, .inl (G.2.1, 700, .inl (fun _ => 0))), (qq2, .inl (G.2.1, 5, .inl (fun _ => 0))), (qq3, .inl (G.2.1, 64, .inl (fun _ => 0)))] H := hP
  have hD : va_D A [(h0, .inr (8, ofL 5 (updV (updV Fh0 0 (.ref qq1)) 1 (.ref qq2)))), (qq1, .inl (G.2.1, 700, .inl (fun _ => 0))), (qq2, .inl (G.2.1, 5, .inl (fun _ => 0))), (qq3, .inl (G.2.1, 64, .inl (fun _ => 0)))] := hD
  refine k_putF fl_X8_18 ft_X8_2 C hnm hP hD hS 0 rfl rfl rfl dX8_init_25 (fun H locs hP hD hS => ?_)
  have hP : va_P G.1 vwCl [(h0, .inr (8, ofL 5 (updV (updV (updV Fh0 0 (.ref qq1)) 1 (.ref qq2)) 2 (.ref qq3)))), (qq1, .inl (G.2.1, 700, .inl (fun _ => 0))), (qq2, .inl (G.2.1, 5, .inl (fun _ => 0))), (qq3, .inl (G.2.1, 64, .inl (fun _ => 0)))] H := hP
  have hD : va_D A [(h0, .inr (8, ofL 5 (updV (updV (updV Fh0 0 (.ref qq1)) 1 (.ref qq2)) 2 (.ref qq3)))), (qq1, .inl (G.2.1, 700, .inl (fun _ => 0))), (qq2, .inl (G.2.1, 5, .inl (fun _ => 0))), (qq3, .inl (G.2.1, 64, .inl (fun _ => 0)))] := hD
  exact k_vret C hr hlk hP hD hS (fun k => match k with | 0 => qq1 | 1 => qq2 | 2 => qq3 | _ => 0) (trivial) [0, 1, 2, 3] rfl rfl (Nat.le_of_ble_eq_true rfl) (Nat.le_of_ble_eq_true rfl) dX8_init_28
set_option maxHeartbeats 4000000 in
set_option maxRecDepth 100000 in
theorem c_X3_init (l : Launch) (G : kG) (sz : Nat) (h0 : Nat) (Fh0 : Nat → Value) : kM l yX3_init cX3_init 1 none { frames := 6, cells := 9, slots := 184, locals := 110 } G [.ref h0] [(h0, .inr (3, ofL 12 Fh0))] sz (kQv G (S := (Nat → Nat)) (fun (_ : Nat → Nat) => True) (fun u => [(h0, .inr (3, ofL 12 (updV (updV (updV (updV (updV (updV (updV (updV (updV (updV (updV (updV Fh0 0 (.ref (u 0))) 1 (.ref (u 1))) 2 (.ref (u 2))) 3 (.ref (u 3))) 4 (.ref (u 4))) 5 (.ref (u 5))) 6 (.ref (u 6))) 7 (.ref (u 7))) 8 (.ref (u 8))) 9 (.int 0)) 10 (.int 0)) 11 (.int (-1))))), ((u 0), .inl (G.2.1, 12, .inl (fun _ => 0))), ((u 1), .inl (G.2.1, 12, .inl (fun _ => 0))), ((u 2), .inl (G.2.1, 12, .inl (fun _ => 0))), ((u 3), .inl (G.2.1, 12, .inl (fun _ => 0))), ((u 4), .inl (G.2.1, 40, .inl (fun _ => 0))), ((u 5), .inl (G.2.1, 40, .inl (fun _ => 0))), ((u 6), .inl (G.2.1, 40, .inl (fun _ => 0))), ((u 7), .inl (G.2.1, 8, .inl (fun _ => 0))), ((u 8), .inl (G.2.1, 8, .inl (fun _ => 0)))])) := by
  refine kM.of (by decide) (Nat.le_of_ble_eq_true rfl) ?_
  intro p e s m below meth c A ls H C hr hlk hnm hP hD hS hl
  have C : kC G p s m c cX3_init 1 RX3 A := C
  have hx := C.1
  have hb := C.2.1
  have hl : lv_has ls 1 [(0, .ref h0)] := hl
  refine lv_aload_n hx hb dX3_init_0 rfl (lv_at hl 0 rfl) ?_
  refine k_obj ⟨tw_235, tw_32, tw_33⟩ C hl.1 dX3_init_1 (Nat.le_of_ble_eq_true rfl) (Nat.le_of_ble_eq_true rfl) ?_
  refine lv_aload_n hx hb dX3_init_4 rfl (lv_at hl 0 rfl) ?_
  refine lv_bipush (v := 12) hx hb dX3_init_5 (by decide) ?_
  refine k_newI (N' := 12) tw_67 C hP hD hS (by decide) (by decide) (by decide) (Nat.le_of_ble_eq_true rfl) (Nat.le_of_ble_eq_true rfl) dX3_init_7 (fun qq1 H hP hD hS => ?_)
  have hP : va_P G.1 vwCl [(h0, .inr (3, ofL 12 Fh0)), (qq1, .inl (G.2.1, 12, .inl (fun _ => 0)))] H := hP
  have hD : va_D A [(h0, .inr (3, ofL 12 Fh0)), (qq1, .inl (G.2.1, 12, .inl (fun _ => 0)))] := hD
  refine k_putF fl_X3_9 ft_X3_0 C hnm hP hD hS 0 rfl rfl rfl dX3_init_9 (fun H locs hP hD hS => ?_)
  have hP : va_P G.1 vwCl [(h0, .inr (3, ofL 12 (updV Fh0 0 (.ref qq1)))), (qq1, .inl (G.2.1, 12, .inl (fun _ => 0)))] H := hP
  have hD : va_D A [(h0, .inr (3, ofL 12 (updV Fh0 0 (.ref qq1)))), (qq1, .inl (G.2.1, 12, .inl (fun _ => 0)))] := hD
  refine lv_aload_n hx hb dX3_init_12 rfl (lv_at hl 0 rfl) ?_
  refine lv_bipush (v := 12) hx hb dX3_init_13 (by decide) ?_
  refine k_newI (N' := 12) tw_67 C hP hD hS (by decide) (by decide) (by decide) (Nat.le_of_ble_eq_true rfl) (Nat.le_of_ble_eq_true rfl) dX3_init_15 (fun qq2 H hP hD hS => ?_)
  have hP : va_P G.1 vwCl [(h0, .inr (3, ofL 12 (updV Fh0 0 (.ref qq1)))), (qq1, .inl (G.2.1, 12, .inl (fun _ => 0))), (qq2, .inl (G.2.1, 12, .inl (fun _ => 0)))] H := hP
  have hD : va_D A [(h0, .inr (3, ofL 12 (updV Fh0 0 (.ref qq1)))), (qq1, .inl (G.2.1, 12, .inl (fun _ => 0))), (qq2, .inl (G.2.1, 12, .inl (fun _ => 0)))] := hD
  refine k_putF fl_X3_15 ft_X3_1 C hnm hP hD hS 0 rfl rfl rfl dX3_init_17 (fun H locs hP hD hS => ?_)
  have hP : va_P G.1 vwCl [(h0, .inr (3, ofL 12 (updV (updV Fh0 0 (.ref qq1)) 1 (.ref qq2)))), (qq1, .inl (G.2.1, 12, .inl (fun _ => 0))), (qq2, .inl (G.2.1, 12, .inl (fun _ => 0)))] H := hP
  have hD : va_D A [(h0, .inr (3, ofL 12 (updV (updV Fh0 0 (.ref qq1)) 1 (.ref qq2)))), (qq1, .inl (G.2.1, 12, .inl (fun _ => 0))), (qq2, .inl (G.2.1, 12, .inl (fun _ => 0)))] := hD
  refine lv_aload_n hx hb dX3_init_20 rfl (lv_at hl 0 rfl) ?_
  refine lv_bipush (v := 12) hx hb dX3_init_21 (by decide) ?_
  refine k_newI (N' := 12) tw_67 C hP hD hS (by decide) (by decide) (by decide) (Nat.le_of_ble_eq_true rfl) (Nat.le_of_ble_eq_true rfl) dX3_init_23 (fun qq3 H hP hD hS => ?_)
  have hP : va_P G.1 vwCl [(h0, .inr (3, ofL 12 (updV (updV Fh0 0 (.ref qq1)) 1 (.ref qq2)))), (qq1, .inl (G.2.1, 12, .inl (fun _ => 0))), (qq2, .inl (G.2.1, 12, .inl (fun _ => 0))), (qq3, .inl (G.2.1, 12, .inl (fun _ => 0)))] H := hP
  have hD : va_D A [(h0, .inr (3, ofL 12 (updV (updV Fh0 0 (.ref qq1)) 1 (.ref qq2)))), (qq1, .inl (G.2.1, 12, .inl (fun _ => 0))), (qq2, .inl (G.2.1, 12, .inl (fun _ => 0))), (qq3, .inl (G.2.1, 12, .inl (fun _ => 0)))] := hD
  refine k_putF fl_X3_18 ft_X3_2 C hnm hP hD hS 0 rfl rfl rfl dX3_init_25 (fun H locs hP hD hS => ?_)
  have hP : va_P G.1 vwCl [(h0, .inr (3, ofL 12 (updV (updV (updV Fh0 0 (.ref qq1)) 1 (.ref qq2)) 2 (.ref qq3)))), (qq1, .inl (G.2.1, 12, .inl (fun _ => 0))), (qq2, .inl (G.2.1, 12, .inl (fun _ => 0))), (qq3, .inl (G.2.1, 12, .inl (fun _ => 0)))] H := hP
  have hD : va_D A [(h0, .inr (3, ofL 12 (updV (updV (updV Fh0 0 (.ref qq1)) 1 (.ref qq2)) 2 (.ref qq3)))), (qq1, .inl (G.2.1, 12, .inl (fun _ => 0))), (qq2, .inl (G.2.1, 12, .inl (fun _ => 0))), (qq3, .inl (G.2.1, 12, .inl (fun _ => 0)))] := hD
  refine lv_aload_n hx hb dX3_init_28 rfl (lv_at hl 0 rfl) ?_
  refine lv_bipush (v := 12) hx hb dX3_init_29 (by decide) ?_
  refine k_newI (N' := 12) tw_67 C hP hD hS (by decide) (by decide) (by decide) (Nat.le_of_ble_eq_true rfl) (Nat.le_of_ble_eq_true rfl) dX3_init_31 (fun qq4 H hP hD hS => ?_)
  have hP : va_P G.1 vwCl [(h0, .inr (3, ofL 12 (updV (updV (updV Fh0 0 (.ref qq1)) 1 (.ref qq2)) 2 (.ref qq3)))), (qq1, .inl (G.2.1, 12, .inl (fun _ => 0))), (qq2, .inl (G.2.1, 12, .inl (fun _ => 0))), (qq3, .inl (G.2.1, 12, .inl (fun _ => 0))), (qq4, .inl (G.2.1, 12, .inl (fun _ => 0)))] H := hP
  have hD : va_D A [(h0, .inr (3, ofL 12 (updV (updV (updV Fh0 0 (.ref qq1)) 1 (.ref qq2)) 2 (.ref qq3)))), (qq1, .inl (G.2.1, 12, .inl (fun _ => 0))), (qq2, .inl (G.2.1, 12, .inl (fun _ => 0))), (qq3, .inl (G.2.1, 12, .inl (fun _ => 0))), (qq4, .inl (G.2.1, 12, .inl (fun _ => 0)))] := hD
  refine k_putF fl_X3_21 ft_X3_3 C hnm hP hD hS 0 rfl rfl rfl dX3_init_33 (fun H locs hP hD hS => ?_)
  have hP : va_P G.1 vwCl [(h0, .inr (3, ofL 12 (updV (updV (updV (updV Fh0 0 (.ref qq1)) 1 (.ref qq2)) 2 (.ref qq3)) 3 (.ref qq4)))), (qq1, .inl (G.2.1, 12, .inl (fun _ => 0))), (qq2, .inl (G.2.1, 12, .inl (fun _ => 0))), (qq3, .inl (G.2.1, 12, .inl (fun _ => 0))), (qq4, .inl (G.2.1, 12, .inl (fun _ => 0)))] H := hP
  have hD : va_D A [(h0, .inr (3, ofL 12 (updV (updV (updV (updV Fh0 0 (.ref qq1)) 1 (.ref qq2)) 2 (.ref qq3)) 3 (.ref qq4)))), (qq1, .inl (G.2.1, 12, .inl (fun _ => 0))), (qq2, .inl (G.2.1, 12, .inl (fun _ => 0))), (qq3, .inl (G.2.1, 12, .inl (fun _ => 0))), (qq4, .inl (G.2.1, 12, .inl (fun _ => 0)))] := hD
  refine lv_aload_n hx hb dX3_init_36 rfl (lv_at hl 0 rfl) ?_
  refine lv_bipush (v := 40) hx hb dX3_init_37 (by decide) ?_
  refine k_newI (N' := 40) tw_67 C hP hD hS (by decide) (by decide) (by decide) (Nat.le_of_ble_eq_true rfl) (Nat.le_of_ble_eq_true rfl) dX3_init_39 (fun qq5 H hP hD hS => ?_)
  have hP : va_P G.1 vwCl [(h0, .inr (3, ofL 12 (updV (updV (updV (updV Fh0 0 (.ref qq1)) 1 (.ref qq2)) 2 (.ref qq3)) 3 (.ref qq4)))), (qq1, .inl (G.2.1, 12, .inl (fun _ => 0))), (qq2, .inl (G.2.1, 12, .inl (fun _ => 0))), (qq3, .inl (G.2.1, 12, .inl (fun _ => 0))), (qq4, .inl (G.2.1, 12, .inl (fun _ => 0))), (qq5, .inl (G.2.1, 40, .inl (fun _ => 0)))] H := hP
  have hD : va_D A [(h0, .inr (3, ofL 12 (updV (updV (updV (updV Fh0 0 (.ref qq1)) 1 (.ref qq2)) 2 (.ref qq3)) 3 (.ref qq4)))), (qq1, .inl (G.2.1, 12, .inl (fun _ => 0))), (qq2, .inl (G.2.1, 12, .inl (fun _ => 0))), (qq3, .inl (G.2.1, 12, .inl (fun _ => 0))), (qq4, .inl (G.2.1, 12, .inl (fun _ => 0))), (qq5, .inl (G.2.1, 40, .inl (fun _ => 0)))] := hD
  refine k_putF fl_X3_24 ft_X3_4 C hnm hP hD hS 0 rfl rfl rfl dX3_init_41 (fun H locs hP hD hS => ?_)
  have hP : va_P G.1 vwCl [(h0, .inr (3, ofL 12 (updV (updV (updV (updV (updV Fh0 0 (.ref qq1)) 1 (.ref qq2)) 2 (.ref qq3)) 3 (.ref qq4)) 4 (.ref qq5)))), (qq1, .inl (G.2.1, 12, .inl (fun _ => 0))), (qq2, .inl (G.2.1, 12, .inl (fun _ => 0))), (qq3, .inl (G.2.1, 12, .inl (fun _ => 0))), (qq4, .inl (G.2.1, 12, .inl (fun _ => 0))), (qq5, .inl (G.2.1, 40, .inl (fun _ => 0)))] H := hP
  have hD : va_D A [(h0, .inr (3, ofL 12 (updV (updV (updV (updV (updV Fh0 0 (.ref qq1)) 1 (.ref qq2)) 2 (.ref qq3)) 3 (.ref qq4)) 4 (.ref qq5)))), (qq1, .inl (G.2.1, 12, .inl (fun _ => 0))), (qq2, .inl (G.2.1, 12, .inl (fun _ => 0))), (qq3, .inl (G.2.1, 12, .inl (fun _ => 0))), (qq4, .inl (G.2.1, 12, .inl (fun _ => 0))), (qq5, .inl (G.2.1, 40, .inl (fun _ => 0)))] := hD
  refine lv_aload_n hx hb dX3_init_44 rfl (lv_at hl 0 rfl) ?_
  refine lv_bipush (v := 40) hx hb dX3_init_45 (by decide) ?_
  refine k_newI (N' := 40) tw_67 C hP hD hS (by decide) (by decide) (by decide) (Nat.le_of_ble_eq_true rfl) (Nat.le_of_ble_eq_true rfl) dX3_init_47 (fun qq6 H hP hD hS => ?_)
  have hP : va_P G.1 vwCl [(h0, .inr (3, ofL 12 (updV (updV (updV (updV (updV Fh0 0 (.ref qq1)) 1 (.ref qq2)) 2 (.ref qq3)) 3 (.ref qq4)) 4 (.ref qq5)))), (qq1, .inl (G.2.1, 12, .inl (fun _ => 0))), (qq2, .inl (G.2.1, 12, .inl (fun _ => 0))), (qq3, .inl (G.2.1, 12, .inl (fun _ => 0))), (qq4, .inl (G.2.1, 12, .inl (fun _ => 0))), (qq5, .inl (G.2.1, 40, .inl (fun _ => 0))), (qq6, .inl (G.2.1, 40, .inl (fun _ => 0)))] H := hP
  have hD : va_D A [(h0, .inr (3, ofL 12 (updV (updV (updV (updV (updV Fh0 0 (.ref qq1)) 1 (.ref qq2)) 2 (.ref qq3)) 3 (.ref qq4)) 4 (.ref qq5)))), (qq1, .inl (G.2.1, 12, .inl (fun _ => 0))), (qq2, .inl (G.2.1, 12, .inl (fun _ => 0))), (qq3, .inl (G.2.1, 12, .inl (fun _ => 0))), (qq4, .inl (G.2.1, 12, .inl (fun _ => 0))), (qq5, .inl (G.2.1, 40, .inl (fun _ => 0))), (qq6, .inl (G.2.1, 40, .inl (fun _ => 0)))] := hD
  refine k_putF fl_X3_27 ft_X3_5 C hnm hP hD hS 0 rfl rfl rfl dX3_init_49 (fun H locs hP hD hS => ?_)
  have hP : va_P G.1 vwCl [(h0, .inr (3, ofL 12 (updV (updV (updV (updV (updV (updV Fh0 0 (.ref qq1)) 1 (.ref qq2)) 2 (.ref qq3)) 3 (.ref qq4)) 4 (.ref qq5)) 5 (.ref qq6)))), (qq1, .inl (G.2.1, 12, .inl (fun _ => 0))), (qq2, .inl (G.2.1, 12, .inl (fun _ => 0))), (qq3, .inl (G.2.1, 12, .inl (fun _ => 0))), (qq4, .inl (G.2.1, 12, .inl (fun _ => 0))), (qq5, .inl (G.2.1, 40, .inl (fun _ => 0))), (qq6, .inl (G.2.1, 40, .inl (fun _ => 0)))] H := hP
  have hD : va_D A [(h0, .inr (3, ofL 12 (updV (updV (updV (updV (updV (updV Fh0 0 (.ref qq1)) 1 (.ref qq2)) 2 (.ref qq3)) 3 (.ref qq4)) 4 (.ref qq5)) 5 (.ref qq6)))), (qq1, .inl (G.2.1, 12, .inl (fun _ => 0))), (qq2, .inl (G.2.1, 12, .inl (fun _ => 0))), (qq3, .inl (G.2.1, 12, .inl (fun _ => 0))), (qq4, .inl (G.2.1, 12, .inl (fun _ => 0))), (qq5, .inl (G.2.1, 40, .inl (fun _ => 0))), (qq6, .inl (G.2.1, 40, .inl (fun _ => 0)))] := hD
  refine lv_aload_n hx hb dX3_init_52 rfl (lv_at hl 0 rfl) ?_
  refine lv_bipush (v := 40) hx hb dX3_init_53 (by decide) ?_
  refine k_newI (N' := 40) tw_67 C hP hD hS (by decide) (by decide) (by decide) (Nat.le_of_ble_eq_true rfl) (Nat.le_of_ble_eq_true rfl) dX3_init_55 (fun qq7 H hP hD hS => ?_)
  have hP : va_P G.1 vwCl [(h0, .inr (3, ofL 12 (updV (updV (updV (updV (updV (updV Fh0 0 (.ref qq1)) 1 (.ref qq2)) 2 (.ref qq3)) 3 (.ref qq4)) 4 (.ref qq5)) 5 (.ref qq6)))), (qq1, .inl (G.2.1, 12, .inl (fun _ => 0))), (qq2, .inl (G.2.1, 12, .inl (fun _ => 0))), (qq3, .inl (G.2.1, 12, .inl (fun _ => 0))), (qq4, .inl (G.2.1, 12, .inl (fun _ => 0))), (qq5, .inl (G.2.1, 40, .inl (fun _ => 0))), (qq6, .inl (G.2.1, 40, .inl (fun _ => 0))), (qq7, .inl (G.2.1, 40, .inl (fun _ => 0)))] H := hP
  have hD : va_D A [(h0, .inr (3, ofL 12 (updV (updV (updV (updV (updV (updV Fh0 0 (.ref qq1)) 1 (.ref qq2)) 2 (.ref qq3)) 3 (.ref qq4)) 4 (.ref qq5)) 5 (.ref qq6)))), (qq1, .inl (G.2.1, 12, .inl (fun _ => 0))), (qq2, .inl (G.2.1, 12, .inl (fun _ => 0))), (qq3, .inl (G.2.1, 12, .inl (fun _ => 0))), (qq4, .inl (G.2.1, 12, .inl (fun _ => 0))), (qq5, .inl (G.2.1, 40, .inl (fun _ => 0))), (qq6, .inl (G.2.1, 40, .inl (fun _ => 0))), (qq7, .inl (G.2.1, 40, .inl (fun _ => 0)))] := hD
  refine k_putF fl_X3_30 ft_X3_6 C hnm hP hD hS 0 rfl rfl rfl dX3_init_57 (fun H locs hP hD hS => ?_)
  have hP : va_P G.1 vwCl [(h0, .inr (3, ofL 12 (updV (updV (updV (updV (updV (updV (updV Fh0 0 (.ref qq1)) 1 (.ref qq2)) 2 (.ref qq3)) 3 (.ref qq4)) 4 (.ref qq5)) 5 (.ref qq6)) 6 (.ref qq7)))), (qq1, .inl (G.2.1, 12, .inl (fun _ => 0))), (qq2, .inl (G.2.1, 12, .inl (fun _ => 0))), (qq3, .inl (G.2.1, 12, .inl (fun _ => 0))), (qq4, .inl (G.2.1, 12, .inl (fun _ => 0))), (qq5, .inl (G.2.1, 40, .inl (fun _ => 0))), (qq6, .inl (G.2.1, 40, .inl (fun _ => 0))), (qq7, .inl (G.2.1, 40, .inl (fun _ => 0)))] H := hP
  have hD : va_D A [(h0, .inr (3, ofL 12 (updV (updV (updV (updV (updV (updV (updV Fh0 0 (.ref qq1)) 1 (.ref qq2)) 2 (.ref qq3)) 3 (.ref qq4)) 4 (.ref qq5)) 5 (.ref qq6)) 6 (.ref qq7)))), (qq1, .inl (G.2.1, 12, .inl (fun _ => 0))), (qq2, .inl (G.2.1, 12, .inl (fun _ => 0))), (qq3, .inl (G.2.1, 12, .inl (fun _ => 0))), (qq4, .inl (G.2.1, 12, .inl (fun _ => 0))), (qq5, .inl (G.2.1, 40, .inl (fun _ => 0))), (qq6, .inl (G.2.1, 40, .inl (fun _ => 0))), (qq7, .inl (G.2.1, 40, .inl (fun _ => 0)))] := hD
  refine lv_aload_n hx hb dX3_init_60 rfl (lv_at hl 0 rfl) ?_
  refine lv_bipush (v := 8) hx hb dX3_init_61 (by decide) ?_
  refine k_newI (N' := 8) tw_67 C hP hD hS (by decide) (by decide) (by decide) (Nat.le_of_ble_eq_true rfl) (Nat.le_of_ble_eq_true rfl) dX3_init_63 (fun qq8 H hP hD hS => ?_)
  have hP : va_P G.1 vwCl [(h0, .inr (3, ofL 12 (updV (updV (updV (updV (updV (updV (updV Fh0 0 (.ref qq1)) 1 (.ref qq2)) 2 (.ref qq3)) 3 (.ref qq4)) 4 (.ref qq5)) 5 (.ref qq6)) 6 (.ref qq7)))), (qq1, .inl (G.2.1, 12, .inl (fun _ => 0))), (qq2, .inl (G.2.1, 12, .inl (fun _ => 0))), (qq3, .inl (G.2.1, 12, .inl (fun _ => 0))), (qq4, .inl (G.2.1, 12, .inl (fun _ => 0))), (qq5, .inl (G.2.1, 40, .inl (fun _ => 0))), (qq6, .inl (G.2.1, 40, .inl (fun _ => 0))), (qq7, .inl (G.2.1, 40, .inl (fun _ => 0))), (qq8, .inl (G.2.1, 8, .inl (fun _ => 0)))] H := hP
  have hD : va_D A [(h0, .inr (3, ofL 12 (updV (updV (updV (updV (updV (updV (updV Fh0 0 (.ref qq1)) 1 (.ref qq2)) 2 (.ref qq3)) 3 (.ref qq4)) 4 (.ref qq5)) 5 (.ref qq6)) 6 (.ref qq7)))), (qq1, .inl (G.2.1, 12, .inl (fun _ => 0))), (qq2, .inl (G.2.1, 12, .inl (fun _ => 0))), (qq3, .inl (G.2.1, 12, .inl (fun _ => 0))), (qq4, .inl (G.2.1, 12, .inl (fun _ => 0))), (qq5, .inl (G.2.1, 40, .inl (fun _ => 0))), (qq6, .inl (G.2.1, 40, .inl (fun _ => 0))), (qq7, .inl (G.2.1, 40, .inl (fun _ => 0))), (qq8, .inl (G.2.1, 8, .inl (fun _ => 0)))] := hD
  refine k_putF fl_X3_33 ft_X3_7 C hnm hP hD hS 0 rfl rfl rfl dX3_init_65 (fun H locs hP hD hS => ?_)
  have hP : va_P G.1 vwCl [(h0, .inr (3, ofL 12 (updV (updV (updV (updV (updV (updV (updV (updV Fh0 0 (.ref qq1)) 1 (.ref qq2)) 2 (.ref qq3)) 3 (.ref qq4)) 4 (.ref qq5)) 5 (.ref qq6)) 6 (.ref qq7)) 7 (.ref qq8)))), (qq1, .inl (G.2.1, 12, .inl (fun _ => 0))), (qq2, .inl (G.2.1, 12, .inl (fun _ => 0))), (qq3, .inl (G.2.1, 12, .inl (fun _ => 0))), (qq4, .inl (G.2.1, 12, .inl (fun _ => 0))), (qq5, .inl (G.2.1, 40, .inl (fun _ => 0))), (qq6, .inl (G.2.1, 40, .inl (fun _ => 0))), (qq7, .inl (G.2.1, 40, .inl (fun _ => 0))), (qq8, .inl (G.2.1, 8, .inl (fun _ => 0)))] H := hP
  have hD : va_D A [(h0, .inr (3, ofL 12 (updV (updV (updV (updV (updV (updV (updV (updV Fh0 0 (.ref qq1)) 1 (.ref qq2)) 2 (.ref qq3)) 3 (.ref qq4)) 4 (.ref qq5)) 5 (.ref qq6)) 6 (.ref qq7)) 7 (.ref qq8)))), (qq1, .inl (G.2.1, 12, .inl (fun _ => 0))), (qq2, .inl (G.2.1, 12, .inl (fun _ => 0))), (qq3, .inl (G.2.1, 12, .inl (fun _ => 0))), (qq4, .inl (G.2.1, 12, .inl (fun _ => 0))), (qq5, .inl (G.2.1, 40, .inl (fun _ => 0))), (qq6, .inl (G.2.1, 40, .inl (fun _ => 0))), (qq7, .inl (G.2.1, 40, .inl (fun _ => 0))), (qq8, .inl (G.2.1, 8, .inl (fun _ => 0)))] := hD
  refine lv_aload_n hx hb dX3_init_68 rfl (lv_at hl 0 rfl) ?_
  refine lv_bipush (v := 8) hx hb dX3_init_69 (by decide) ?_
  refine k_newI (N' := 8) tw_67 C hP hD hS (by decide) (by decide) (by decide) (Nat.le_of_ble_eq_true rfl) (Nat.le_of_ble_eq_true rfl) dX3_init_71 (fun qq9 H hP hD hS => ?_)
  have hP : va_P G.1 vwCl [(h0, .inr (3, ofL 12 (updV (updV (updV (updV (updV (updV (updV (updV Fh0 0 (.ref qq1)) 1 (.ref qq2)) 2 (.ref qq3)) 3 (.ref qq4)) 4 (.ref qq5)) 5 (.ref qq6)) 6 (.ref qq7)) 7 (.ref qq8)))), (qq1, .inl (G.2.1, 12, .inl (fun _ => 0))), (qq2, .inl (G.2.1, 12, .inl (fun _ => 0))), (qq3, .inl (G.2.1, 12, .inl (fun _ => 0))), (qq4, .inl (G.2.1, 12, .inl (fun _ => 0))), (qq5, .inl (G.2.1, 40, .inl (fun _ => 0))), (qq6, .inl (G.2.1, 40, .inl (fun _ => 0))), (qq7, .inl (G.2.1, 40, .inl (fun _ => 0))), (qq8, .inl (G.2.1, 8, .inl (fun _ => 0))), (qq9, .inl (G.2.1, 8, .inl (fun _ => 0)))] H := hP
  have hD : va_D A [(h0, .inr (3, ofL 12 (updV (updV (updV (updV (updV (updV (updV (updV Fh0 0 (.ref qq1)) 1 (.ref qq2)) 2 (.ref qq3)) 3 (.ref qq4)) 4 (.ref qq5)) 5 (.ref qq6)) 6 (.ref qq7)) 7 (.ref qq8)))), (qq1, .inl (G.2.1, 12, .inl (fun _ => 0))), (qq2, .inl (G.2.1, 12, .inl (fun _ => 0))), (qq3, .inl (G.2.1, 12, .inl (fun _ => 0))), (qq4, .inl (G.2.1, 12, .inl (fun _ => 0))), (qq5, .inl (G.2.1, 40, .inl (fun _ => 0))), (qq6, .inl (G.2.1, 40, .inl (fun _ => 0))), (qq7, .inl (G.2.1, 40, .inl (fun _ => 0))), (qq8, .inl (G.2.1, 8, .inl (fun _ => 0))), (qq9, .inl (G.2.1, 8, .inl (fun _ => 0)))] := hD
  refine k_putF fl_X3_36 ft_X3_8 C hnm hP hD hS 0 rfl rfl rfl dX3_init_73 (fun H locs hP hD hS => ?_)
  have hP : va_P G.1 vwCl [(h0, .inr (3, ofL 12 (updV (updV (updV (updV (updV (updV (updV (updV (updV Fh0 0 (.ref qq1)) 1 (.ref qq2)) 2 (.ref qq3)) 3 (.ref qq4)) 4 (.ref qq5)) 5 (.ref qq6)) 6 (.ref qq7)) 7 (.ref qq8)) 8 (.ref qq9)))), (qq1, .inl (G.2.1, 12, .inl (fun _ => 0))), (qq2, .inl (G.2.1, 12, .inl (fun _ => 0))), (qq3, .inl (G.2.1, 12, .inl (fun _ => 0))), (qq4, .inl (G.2.1, 12, .inl (fun _ => 0))), (qq5, .inl (G.2.1, 40, .inl (fun _ => 0))), (qq6, .inl (G.2.1, 40, .inl (fun _ => 0))), (qq7, .inl (G.2.1, 40, .inl (fun _ => 0))), (qq8, .inl (G.2.1, 8, .inl (fun _ => 0))), (qq9, .inl (G.2.1, 8, .inl (fun _ => 0)))] H := hP
  have hD : va_D A [(h0, .inr (3, ofL 12 (updV (updV (updV (updV (updV (updV (updV (updV (updV Fh0 0 (.ref qq1)) 1 (.ref qq2)) 2 (.ref qq3)) 3 (.ref qq4)) 4 (.ref qq5)) 5 (.ref qq6)) 6 (.ref qq7)) 7 (.ref qq8)) 8 (.ref qq9)))), (qq1, .inl (G.2.1, 12, .inl (fun _ => 0))), (qq2, .inl (G.2.1, 12, .inl (fun _ => 0))), (qq3, .inl (G.2.1, 12, .inl (fun _ => 0))), (qq4, .inl (G.2.1, 12, .inl (fun _ => 0))), (qq5, .inl (G.2.1, 40, .inl (fun _ => 0))), (qq6, .inl (G.2.1, 40, .inl (fun _ => 0))), (qq7, .inl (G.2.1, 40, .inl (fun _ => 0))), (qq8, .inl (G.2.1, 8, .inl (fun _ => 0))), (qq9, .inl (G.2.1, 8, .inl (fun _ => 0)))] := hD
  refine lv_aload_n hx hb dX3_init_76 rfl (lv_at hl 0 rfl) ?_
  refine lv_iconst (v := 0) hx hb dX3_init_77 (by decide) ?_
  refine k_put fl_X3_39 ft_X3_9 C hP hD hS 0 rfl rfl rfl dX3_init_78 (fun H locs hP hD hS => ?_)
  have hP : va_P G.1 vwCl [(h0, .inr (3, ofL 12 (updV (updV (updV (updV (updV (updV (updV (updV (updV (updV Fh0 0 (.ref qq1)) 1 (.ref qq2)) 2 (.ref qq3)) 3 (.ref qq4)) 4 (.ref qq5)) 5 (.ref qq6)) 6 (.ref qq7)) 7 (.ref qq8)) 8 (.ref qq9)) 9 (.int 0)))), (qq1, .inl (G.2.1, 12, .inl (fun _ => 0))), (qq2, .inl (G.2.1, 12, .inl (fun _ => 0))), (qq3, .inl (G.2.1, 12, .inl (fun _ => 0))), (qq4, .inl (G.2.1, 12, .inl (fun _ => 0))), (qq5, .inl (G.2.1, 40, .inl (fun _ => 0))), (qq6, .inl (G.2.1, 40, .inl (fun _ => 0))), (qq7, .inl (G.2.1, 40, .inl (fun _ => 0))), (qq8, .inl (G.2.1, 8, .inl (fun _ => 0))), (qq9, .inl (G.2.1, 8, .inl (fun _ => 0)))] H := hP
  have hD : va_D A [(h0, .inr (3, ofL 12 (updV (updV (updV (updV (updV (updV (updV (updV (updV (updV Fh0 0 (.ref qq1)) 1 (.ref qq2)) 2 (.ref qq3)) 3 (.ref qq4)) 4 (.ref qq5)) 5 (.ref qq6)) 6 (.ref qq7)) 7 (.ref qq8)) 8 (.ref qq9)) 9 (.int 0)))), (qq1, .inl (G.2.1, 12, .inl (fun _ => 0))), (qq2, .inl (G.2.1, 12, .inl (fun _ => 0))), (qq3, .inl (G.2.1, 12, .inl (fun _ => 0))), (qq4, .inl (G.2.1, 12, .inl (fun _ => 0))), (qq5, .inl (G.2.1, 40, .inl (fun _ => 0))), (qq6, .inl (G.2.1, 40, .inl (fun _ => 0))), (qq7, .inl (G.2.1, 40, .inl (fun _ => 0))), (qq8, .inl (G.2.1, 8, .inl (fun _ => 0))), (qq9, .inl (G.2.1, 8, .inl (fun _ => 0)))] := hD
  refine lv_aload_n hx hb dX3_init_81 rfl (lv_at hl 0 rfl) ?_
  refine lv_iconst (v := 0) hx hb dX3_init_82 (by decide) ?_
  refine k_put fl_X3_43 ft_X3_10 C hP hD hS 0 rfl rfl rfl dX3_init_83 (fun H locs hP hD hS => ?_)
  have hP : va_P G.1 vwCl [(h0, .inr (3, ofL 12 (updV (updV (updV (updV (updV (updV (updV (updV (updV (updV (updV Fh0 0 (.ref qq1)) 1 (.ref qq2)) 2 (.ref qq3)) 3 (.ref qq4)) 4 (.ref qq5)) 5 (.ref qq6)) 6 (.ref qq7)) 7 (.ref qq8)) 8 (.ref qq9)) 9 (.int 0)) 10 (.int 0)))), (qq1, .inl (G.2.1, 12, .inl (fun _ => 0))), (qq2, .inl (G.2.1, 12, .inl (fun _ => 0))), (qq3, .inl (G.2.1, 12, .inl (fun _ => 0))), (qq4, .inl (G.2.1, 12, .inl (fun _ => 0))), (qq5, .inl (G.2.1, 40, .inl (fun _ => 0))), (qq6, .inl (G.2.1, 40, .inl (fun _ => 0))), (qq7, .inl (G.2.1, 40, .inl (fun _ => 0))), (qq8, .inl (G.2.1, 8, .inl (fun _ => 0))), (qq9, .inl (G.2.1, 8, .inl (fun _ => 0)))] H := hP
  have hD : va_D A [(h0, .inr (3, ofL 12 (updV (updV (updV (updV (updV (updV (updV (updV (updV (updV (updV Fh0 0 (.ref qq1)) 1 (.ref qq2)) 2 (.ref qq3)) 3 (.ref qq4)) 4 (.ref qq5)) 5 (.ref qq6)) 6 (.ref qq7)) 7 (.ref qq8)) 8 (.ref qq9)) 9 (.int 0)) 10 (.int 0)))), (qq1, .inl (G.2.1, 12, .inl (fun _ => 0))), (qq2, .inl (G.2.1, 12, .inl (fun _ => 0))), (qq3, .inl (G.2.1, 12, .inl (fun _ => 0))), (qq4, .inl (G.2.1, 12, .inl (fun _ => 0))), (qq5, .inl (G.2.1, 40, .inl (fun _ => 0))), (qq6, .inl (G.2.1, 40, .inl (fun _ => 0))), (qq7, .inl (G.2.1, 40, .inl (fun _ => 0))), (qq8, .inl (G.2.1, 8, .inl (fun _ => 0))), (qq9, .inl (G.2.1, 8, .inl (fun _ => 0)))] := hD
  refine lv_aload_n hx hb dX3_init_86 rfl (lv_at hl 0 rfl) ?_
  refine lv_iconst (v := -1) hx hb dX3_init_87 (by decide) ?_
  refine k_put fl_X3_46 ft_X3_11 C hP hD hS 0 rfl rfl rfl dX3_init_88 (fun H locs hP hD hS => ?_)
  have hP : va_P G.1 vwCl [(h0, .inr (3, ofL 12 (updV (updV (updV (updV (updV (updV (updV (updV (updV (updV (updV (updV Fh0 0 (.ref qq1)) 1 (.ref qq2)) 2 (.ref qq3)) 3 (.ref qq4)) 4 (.ref qq5)) 5 (.ref qq6)) 6 (.ref qq7)) 7 (.ref qq8)) 8 (.ref qq9)) 9 (.int 0)) 10 (.int 0)) 11 (.int (-1))))), (qq1, .inl (G.2.1, 12, .inl (fun _ => 0))), (qq2, .inl (G.2.1, 12, .inl (fun _ => 0))), (qq3, .inl (G.2.1, 12, .inl (fun _ => 0))), (qq4, .inl (G.2.1, 12, .inl (fun _ => 0))), (qq5, .inl (G.2.1, 40, .inl (fun _ => 0))), (qq6, .inl (G.2.1, 40, .inl (fun _ => 0))), (qq7, .inl (G.2.1, 40, .inl (fun _ => 0))), (qq8, .inl (G.2.1, 8, .inl (fun _ => 0))), (qq9, .inl (G.2.1, 8, .inl (fun _ => 0)))] H := hP
  have hD : va_D A [(h0, .inr (3, ofL 12 (updV (updV (updV (updV (updV (updV (updV (updV (updV (updV (updV (updV Fh0 0 (.ref qq1)) 1 (.ref qq2)) 2 (.ref qq3)) 3 (.ref qq4)) 4 (.ref qq5)) 5 (.ref qq6)) 6 (.ref qq7)) 7 (.ref qq8)) 8 (.ref qq9)) 9 (.int 0)) 10 (.int 0)) 11 (.int (-1))))), (qq1, .inl (G.2.1, 12, .inl (fun _ => 0))), (qq2, .inl (G.2.1, 12, .inl (fun _ => 0))), (qq3, .inl (G.2.1, 12, .inl (fun _ => 0))), (qq4, .inl (G.2.1, 12, .inl (fun _ => 0))), (qq5, .inl (G.2.1, 40, .inl (fun _ => 0))), (qq6, .inl (G.2.1, 40, .inl (fun _ => 0))), (qq7, .inl (G.2.1, 40, .inl (fun _ => 0))), (qq8, .inl (G.2.1, 8, .inl (fun _ => 0))), (qq9, .inl (G.2.1, 8, .inl (fun _ => 0)))] := hD
  exact k_vret C hr hlk hP hD hS (fun k => match k with | 0 => qq1 | 1 => qq2 | 2 => qq3 | 3 => qq4 | 4 => qq5 | 5 => qq6 | 6 => qq7 | 7 => qq8 | 8 => qq9 | _ => 0) (trivial) [0, 1, 2, 3, 4, 5, 6, 7, 8, 9] rfl rfl (Nat.le_of_ble_eq_true rfl) (Nat.le_of_ble_eq_true rfl) dX3_init_91
set_option maxHeartbeats 4000000 in
set_option maxRecDepth 100000 in
theorem c_X1_init (l : Launch) (G : kG) (sz : Nat) (h0 : Nat) (h1 : Nat) (h2 : Nat) (Fh0 : Nat → Value) : kM l yX1_init cX1_init 3 none { frames := 6, cells := 6, slots := 60, locals := 110 } G [.ref h0, .ref h1, .ref h2] [(h0, .inr (1, ofL 10 Fh0))] sz (kQv G (S := (Nat → Nat)) (fun (_ : Nat → Nat) => True) (fun u => [(h0, .inr (1, ofL 10 (updV (updV (updV (updV (updV (updV (updV (updV (updV (updV Fh0 1 (.ref (u 0))) 2 (.ref (u 1))) 3 (.ref (u 2))) 4 (.ref (u 3))) 5 (.ref (u 4))) 6 (.ref (u 5))) 8 (.int (-1))) 9 (.int (-1))) 7 (.ref h1)) 0 (.ref h2)))), ((u 0), .inl (G.2.1, 12, .inl (fun _ => 0))), ((u 1), .inl (G.2.1, 12, .inl (fun _ => 0))), ((u 2), .inl (G.2.1, 12, .inl (fun _ => 0))), ((u 3), .inl (G.2.1, 12, .inl (fun _ => 0))), ((u 4), .inl (G.2.1, 6, .inl (fun _ => 0))), ((u 5), .inl (G.2.1, 6, .inl (fun _ => 0)))])) := by
  refine kM.of (by decide) (Nat.le_of_ble_eq_true rfl) ?_
  intro p e s m below meth c A ls H C hr hlk hnm hP hD hS hl
  have C : kC G p s m c cX1_init 3 RX1 A := C
  have hx := C.1
  have hb := C.2.1
  have hl : lv_has ls 3 [(0, .ref h0), (1, .ref h1), (2, .ref h2)] := hl
  refine lv_aload_n hx hb dX1_init_0 rfl (lv_at hl 0 rfl) ?_
  refine k_obj ⟨tw_297, tw_32, tw_33⟩ C hl.1 dX1_init_1 (Nat.le_of_ble_eq_true rfl) (Nat.le_of_ble_eq_true rfl) ?_
  refine lv_aload_n hx hb dX1_init_4 rfl (lv_at hl 0 rfl) ?_
  refine lv_bipush (v := 12) hx hb dX1_init_5 (by decide) ?_
  refine k_newI (N' := 12) tw_67 C hP hD hS (by decide) (by decide) (by decide) (Nat.le_of_ble_eq_true rfl) (Nat.le_of_ble_eq_true rfl) dX1_init_7 (fun qq1 H hP hD hS => ?_)
  have hP : va_P G.1 vwCl [(h0, .inr (1, ofL 10 Fh0)), (qq1, .inl (G.2.1, 12, .inl (fun _ => 0)))] H := hP
  have hD : va_D A [(h0, .inr (1, ofL 10 Fh0)), (qq1, .inl (G.2.1, 12, .inl (fun _ => 0)))] := hD
  refine k_putF fl_X1_9 ft_X1_1 C hnm hP hD hS 0 rfl rfl rfl dX1_init_9 (fun H locs hP hD hS => ?_)
  have hP : va_P G.1 vwCl [(h0, .inr (1, ofL 10 (updV Fh0 1 (.ref qq1)))), (qq1, .inl (G.2.1, 12, .inl (fun _ => 0)))] H := hP
  have hD : va_D A [(h0, .inr (1, ofL 10 (updV Fh0 1 (.ref qq1)))), (qq1, .inl (G.2.1, 12, .inl (fun _ => 0)))] := hD
  refine lv_aload_n hx hb dX1_init_12 rfl (lv_at hl 0 rfl) ?_
  refine lv_bipush (v := 12) hx hb dX1_init_13 (by decide) ?_
  refine k_newI (N' := 12) tw_67 C hP hD hS (by decide) (by decide) (by decide) (Nat.le_of_ble_eq_true rfl) (Nat.le_of_ble_eq_true rfl) dX1_init_15 (fun qq2 H hP hD hS => ?_)
  have hP : va_P G.1 vwCl [(h0, .inr (1, ofL 10 (updV Fh0 1 (.ref qq1)))), (qq1, .inl (G.2.1, 12, .inl (fun _ => 0))), (qq2, .inl (G.2.1, 12, .inl (fun _ => 0)))] H := hP
  have hD : va_D A [(h0, .inr (1, ofL 10 (updV Fh0 1 (.ref qq1)))), (qq1, .inl (G.2.1, 12, .inl (fun _ => 0))), (qq2, .inl (G.2.1, 12, .inl (fun _ => 0)))] := hD
  refine k_putF fl_X1_15 ft_X1_2 C hnm hP hD hS 0 rfl rfl rfl dX1_init_17 (fun H locs hP hD hS => ?_)
  have hP : va_P G.1 vwCl [(h0, .inr (1, ofL 10 (updV (updV Fh0 1 (.ref qq1)) 2 (.ref qq2)))), (qq1, .inl (G.2.1, 12, .inl (fun _ => 0))), (qq2, .inl (G.2.1, 12, .inl (fun _ => 0)))] H := hP
  have hD : va_D A [(h0, .inr (1, ofL 10 (updV (updV Fh0 1 (.ref qq1)) 2 (.ref qq2)))), (qq1, .inl (G.2.1, 12, .inl (fun _ => 0))), (qq2, .inl (G.2.1, 12, .inl (fun _ => 0)))] := hD
  refine lv_aload_n hx hb dX1_init_20 rfl (lv_at hl 0 rfl) ?_
  refine lv_bipush (v := 12) hx hb dX1_init_21 (by decide) ?_
  refine k_newI (N' := 12) tw_67 C hP hD hS (by decide) (by decide) (by decide) (Nat.le_of_ble_eq_true rfl) (Nat.le_of_ble_eq_true rfl) dX1_init_23 (fun qq3 H hP hD hS => ?_)
  have hP : va_P G.1 vwCl [(h0, .inr (1, ofL 10 (updV (updV Fh0 1 (.ref qq1)) 2 (.ref qq2)))), (qq1, .inl (G.2.1, 12, .inl (fun _ => 0))), (qq2, .inl (G.2.1, 12, .inl (fun _ => 0))), (qq3, .inl (G.2.1, 12, .inl (fun _ => 0)))] H := hP
  have hD : va_D A [(h0, .inr (1, ofL 10 (updV (updV Fh0 1 (.ref qq1)) 2 (.ref qq2)))), (qq1, .inl (G.2.1, 12, .inl (fun _ => 0))), (qq2, .inl (G.2.1, 12, .inl (fun _ => 0))), (qq3, .inl (G.2.1, 12, .inl (fun _ => 0)))] := hD
  refine k_putF fl_X1_18 ft_X1_3 C hnm hP hD hS 0 rfl rfl rfl dX1_init_25 (fun H locs hP hD hS => ?_)
  have hP : va_P G.1 vwCl [(h0, .inr (1, ofL 10 (updV (updV (updV Fh0 1 (.ref qq1)) 2 (.ref qq2)) 3 (.ref qq3)))), (qq1, .inl (G.2.1, 12, .inl (fun _ => 0))), (qq2, .inl (G.2.1, 12, .inl (fun _ => 0))), (qq3, .inl (G.2.1, 12, .inl (fun _ => 0)))] H := hP
  have hD : va_D A [(h0, .inr (1, ofL 10 (updV (updV (updV Fh0 1 (.ref qq1)) 2 (.ref qq2)) 3 (.ref qq3)))), (qq1, .inl (G.2.1, 12, .inl (fun _ => 0))), (qq2, .inl (G.2.1, 12, .inl (fun _ => 0))), (qq3, .inl (G.2.1, 12, .inl (fun _ => 0)))] := hD
  refine lv_aload_n hx hb dX1_init_28 rfl (lv_at hl 0 rfl) ?_
  refine lv_bipush (v := 12) hx hb dX1_init_29 (by decide) ?_
  refine k_newI (N' := 12) tw_67 C hP hD hS (by decide) (by decide) (by decide) (Nat.le_of_ble_eq_true rfl) (Nat.le_of_ble_eq_true rfl) dX1_init_31 (fun qq4 H hP hD hS => ?_)
  have hP : va_P G.1 vwCl [(h0, .inr (1, ofL 10 (updV (updV (updV Fh0 1 (.ref qq1)) 2 (.ref qq2)) 3 (.ref qq3)))), (qq1, .inl (G.2.1, 12, .inl (fun _ => 0))), (qq2, .inl (G.2.1, 12, .inl (fun _ => 0))), (qq3, .inl (G.2.1, 12, .inl (fun _ => 0))), (qq4, .inl (G.2.1, 12, .inl (fun _ => 0)))] H := hP
  have hD : va_D A [(h0, .inr (1, ofL 10 (updV (updV (updV Fh0 1 (.ref qq1)) 2 (.ref qq2)) 3 (.ref qq3)))), (qq1, .inl (G.2.1, 12, .inl (fun _ => 0))), (qq2, .inl (G.2.1, 12, .inl (fun _ => 0))), (qq3, .inl (G.2.1, 12, .inl (fun _ => 0))), (qq4, .inl (G.2.1, 12, .inl (fun _ => 0)))] := hD
  refine k_putF fl_X1_21 ft_X1_4 C hnm hP hD hS 0 rfl rfl rfl dX1_init_33 (fun H locs hP hD hS => ?_)
  have hP : va_P G.1 vwCl [(h0, .inr (1, ofL 10 (updV (updV (updV (updV Fh0 1 (.ref qq1)) 2 (.ref qq2)) 3 (.ref qq3)) 4 (.ref qq4)))), (qq1, .inl (G.2.1, 12, .inl (fun _ => 0))), (qq2, .inl (G.2.1, 12, .inl (fun _ => 0))), (qq3, .inl (G.2.1, 12, .inl (fun _ => 0))), (qq4, .inl (G.2.1, 12, .inl (fun _ => 0)))] H := hP
  have hD : va_D A [(h0, .inr (1, ofL 10 (updV (updV (updV (updV Fh0 1 (.ref qq1)) 2 (.ref qq2)) 3 (.ref qq3)) 4 (.ref qq4)))), (qq1, .inl (G.2.1, 12, .inl (fun _ => 0))), (qq2, .inl (G.2.1, 12, .inl (fun _ => 0))), (qq3, .inl (G.2.1, 12, .inl (fun _ => 0))), (qq4, .inl (G.2.1, 12, .inl (fun _ => 0)))] := hD
  refine lv_aload_n hx hb dX1_init_36 rfl (lv_at hl 0 rfl) ?_
  refine lv_bipush (v := 6) hx hb dX1_init_37 (by decide) ?_
  refine k_newI (N' := 6) tw_67 C hP hD hS (by decide) (by decide) (by decide) (Nat.le_of_ble_eq_true rfl) (Nat.le_of_ble_eq_true rfl) dX1_init_39 (fun qq5 H hP hD hS => ?_)
  have hP : va_P G.1 vwCl [(h0, .inr (1, ofL 10 (updV (updV (updV (updV Fh0 1 (.ref qq1)) 2 (.ref qq2)) 3 (.ref qq3)) 4 (.ref qq4)))), (qq1, .inl (G.2.1, 12, .inl (fun _ => 0))), (qq2, .inl (G.2.1, 12, .inl (fun _ => 0))), (qq3, .inl (G.2.1, 12, .inl (fun _ => 0))), (qq4, .inl (G.2.1, 12, .inl (fun _ => 0))), (qq5, .inl (G.2.1, 6, .inl (fun _ => 0)))] H := hP
  have hD : va_D A [(h0, .inr (1, ofL 10 (updV (updV (updV (updV Fh0 1 (.ref qq1)) 2 (.ref qq2)) 3 (.ref qq3)) 4 (.ref qq4)))), (qq1, .inl (G.2.1, 12, .inl (fun _ => 0))), (qq2, .inl (G.2.1, 12, .inl (fun _ => 0))), (qq3, .inl (G.2.1, 12, .inl (fun _ => 0))), (qq4, .inl (G.2.1, 12, .inl (fun _ => 0))), (qq5, .inl (G.2.1, 6, .inl (fun _ => 0)))] := hD
  refine k_putF fl_X1_24 ft_X1_5 C hnm hP hD hS 0 rfl rfl rfl dX1_init_41 (fun H locs hP hD hS => ?_)
  have hP : va_P G.1 vwCl [(h0, .inr (1, ofL 10 (updV (updV (updV (updV (updV Fh0 1 (.ref qq1)) 2 (.ref qq2)) 3 (.ref qq3)) 4 (.ref qq4)) 5 (.ref qq5)))), (qq1, .inl (G.2.1, 12, .inl (fun _ => 0))), (qq2, .inl (G.2.1, 12, .inl (fun _ => 0))), (qq3, .inl (G.2.1, 12, .inl (fun _ => 0))), (qq4, .inl (G.2.1, 12, .inl (fun _ => 0))), (qq5, .inl (G.2.1, 6, .inl (fun _ => 0)))] H := hP
  have hD : va_D A [(h0, .inr (1, ofL 10 (updV (updV (updV (updV (updV Fh0 1 (.ref qq1)) 2 (.ref qq2)) 3 (.ref qq3)) 4 (.ref qq4)) 5 (.ref qq5)))), (qq1, .inl (G.2.1, 12, .inl (fun _ => 0))), (qq2, .inl (G.2.1, 12, .inl (fun _ => 0))), (qq3, .inl (G.2.1, 12, .inl (fun _ => 0))), (qq4, .inl (G.2.1, 12, .inl (fun _ => 0))), (qq5, .inl (G.2.1, 6, .inl (fun _ => 0)))] := hD
  refine lv_aload_n hx hb dX1_init_44 rfl (lv_at hl 0 rfl) ?_
  refine lv_bipush (v := 6) hx hb dX1_init_45 (by decide) ?_
  refine k_newI (N' := 6) tw_67 C hP hD hS (by decide) (by decide) (by decide) (Nat.le_of_ble_eq_true rfl) (Nat.le_of_ble_eq_true rfl) dX1_init_47 (fun qq6 H hP hD hS => ?_)
  have hP : va_P G.1 vwCl [(h0, .inr (1, ofL 10 (updV (updV (updV (updV (updV Fh0 1 (.ref qq1)) 2 (.ref qq2)) 3 (.ref qq3)) 4 (.ref qq4)) 5 (.ref qq5)))), (qq1, .inl (G.2.1, 12, .inl (fun _ => 0))), (qq2, .inl (G.2.1, 12, .inl (fun _ => 0))), (qq3, .inl (G.2.1, 12, .inl (fun _ => 0))), (qq4, .inl (G.2.1, 12, .inl (fun _ => 0))), (qq5, .inl (G.2.1, 6, .inl (fun _ => 0))), (qq6, .inl (G.2.1, 6, .inl (fun _ => 0)))] H := hP
  have hD : va_D A [(h0, .inr (1, ofL 10 (updV (updV (updV (updV (updV Fh0 1 (.ref qq1)) 2 (.ref qq2)) 3 (.ref qq3)) 4 (.ref qq4)) 5 (.ref qq5)))), (qq1, .inl (G.2.1, 12, .inl (fun _ => 0))), (qq2, .inl (G.2.1, 12, .inl (fun _ => 0))), (qq3, .inl (G.2.1, 12, .inl (fun _ => 0))), (qq4, .inl (G.2.1, 12, .inl (fun _ => 0))), (qq5, .inl (G.2.1, 6, .inl (fun _ => 0))), (qq6, .inl (G.2.1, 6, .inl (fun _ => 0)))] := hD
  refine k_putF fl_X1_27 ft_X1_6 C hnm hP hD hS 0 rfl rfl rfl dX1_init_49 (fun H locs hP hD hS => ?_)
  have hP : va_P G.1 vwCl [(h0, .inr (1, ofL 10 (updV (updV (updV (updV (updV (updV Fh0 1 (.ref qq1)) 2 (.ref qq2)) 3 (.ref qq3)) 4 (.ref qq4)) 5 (.ref qq5)) 6 (.ref qq6)))), (qq1, .inl (G.2.1, 12, .inl (fun _ => 0))), (qq2, .inl (G.2.1, 12, .inl (fun _ => 0))), (qq3, .inl (G.2.1, 12, .inl (fun _ => 0))), (qq4, .inl (G.2.1, 12, .inl (fun _ => 0))), (qq5, .inl (G.2.1, 6, .inl (fun _ => 0))), (qq6, .inl (G.2.1, 6, .inl (fun _ => 0)))] H := hP
  have hD : va_D A [(h0, .inr (1, ofL 10 (updV (updV (updV (updV (updV (updV Fh0 1 (.ref qq1)) 2 (.ref qq2)) 3 (.ref qq3)) 4 (.ref qq4)) 5 (.ref qq5)) 6 (.ref qq6)))), (qq1, .inl (G.2.1, 12, .inl (fun _ => 0))), (qq2, .inl (G.2.1, 12, .inl (fun _ => 0))), (qq3, .inl (G.2.1, 12, .inl (fun _ => 0))), (qq4, .inl (G.2.1, 12, .inl (fun _ => 0))), (qq5, .inl (G.2.1, 6, .inl (fun _ => 0))), (qq6, .inl (G.2.1, 6, .inl (fun _ => 0)))] := hD
  refine lv_aload_n hx hb dX1_init_52 rfl (lv_at hl 0 rfl) ?_
  refine lv_iconst (v := -1) hx hb dX1_init_53 (by decide) ?_
  refine k_put fl_X1_30 ft_X1_8 C hP hD hS 0 rfl rfl rfl dX1_init_54 (fun H locs hP hD hS => ?_)
  have hP : va_P G.1 vwCl [(h0, .inr (1, ofL 10 (updV (updV (updV (updV (updV (updV (updV Fh0 1 (.ref qq1)) 2 (.ref qq2)) 3 (.ref qq3)) 4 (.ref qq4)) 5 (.ref qq5)) 6 (.ref qq6)) 8 (.int (-1))))), (qq1, .inl (G.2.1, 12, .inl (fun _ => 0))), (qq2, .inl (G.2.1, 12, .inl (fun _ => 0))), (qq3, .inl (G.2.1, 12, .inl (fun _ => 0))), (qq4, .inl (G.2.1, 12, .inl (fun _ => 0))), (qq5, .inl (G.2.1, 6, .inl (fun _ => 0))), (qq6, .inl (G.2.1, 6, .inl (fun _ => 0)))] H := hP
  have hD : va_D A [(h0, .inr (1, ofL 10 (updV (updV (updV (updV (updV (updV (updV Fh0 1 (.ref qq1)) 2 (.ref qq2)) 3 (.ref qq3)) 4 (.ref qq4)) 5 (.ref qq5)) 6 (.ref qq6)) 8 (.int (-1))))), (qq1, .inl (G.2.1, 12, .inl (fun _ => 0))), (qq2, .inl (G.2.1, 12, .inl (fun _ => 0))), (qq3, .inl (G.2.1, 12, .inl (fun _ => 0))), (qq4, .inl (G.2.1, 12, .inl (fun _ => 0))), (qq5, .inl (G.2.1, 6, .inl (fun _ => 0))), (qq6, .inl (G.2.1, 6, .inl (fun _ => 0)))] := hD
  refine lv_aload_n hx hb dX1_init_57 rfl (lv_at hl 0 rfl) ?_
  refine lv_iconst (v := -1) hx hb dX1_init_58 (by decide) ?_
  refine k_put fl_X1_34 ft_X1_9 C hP hD hS 0 rfl rfl rfl dX1_init_59 (fun H locs hP hD hS => ?_)
  have hP : va_P G.1 vwCl [(h0, .inr (1, ofL 10 (updV (updV (updV (updV (updV (updV (updV (updV Fh0 1 (.ref qq1)) 2 (.ref qq2)) 3 (.ref qq3)) 4 (.ref qq4)) 5 (.ref qq5)) 6 (.ref qq6)) 8 (.int (-1))) 9 (.int (-1))))), (qq1, .inl (G.2.1, 12, .inl (fun _ => 0))), (qq2, .inl (G.2.1, 12, .inl (fun _ => 0))), (qq3, .inl (G.2.1, 12, .inl (fun _ => 0))), (qq4, .inl (G.2.1, 12, .inl (fun _ => 0))), (qq5, .inl (G.2.1, 6, .inl (fun _ => 0))), (qq6, .inl (G.2.1, 6, .inl (fun _ => 0)))] H := hP
  have hD : va_D A [(h0, .inr (1, ofL 10 (updV (updV (updV (updV (updV (updV (updV (updV Fh0 1 (.ref qq1)) 2 (.ref qq2)) 3 (.ref qq3)) 4 (.ref qq4)) 5 (.ref qq5)) 6 (.ref qq6)) 8 (.int (-1))) 9 (.int (-1))))), (qq1, .inl (G.2.1, 12, .inl (fun _ => 0))), (qq2, .inl (G.2.1, 12, .inl (fun _ => 0))), (qq3, .inl (G.2.1, 12, .inl (fun _ => 0))), (qq4, .inl (G.2.1, 12, .inl (fun _ => 0))), (qq5, .inl (G.2.1, 6, .inl (fun _ => 0))), (qq6, .inl (G.2.1, 6, .inl (fun _ => 0)))] := hD
  refine lv_aload_n hx hb dX1_init_62 rfl (lv_at hl 0 rfl) ?_
  refine lv_aload_n hx hb dX1_init_63 rfl (lv_at hl 1 rfl) ?_
  refine k_put fl_X1_37 ft_X1_7 C hP hD hS 0 rfl rfl rfl dX1_init_64 (fun H locs hP hD hS => ?_)
  have hP : va_P G.1 vwCl [(h0, .inr (1, ofL 10 (updV (updV (updV (updV (updV (updV (updV (updV (updV Fh0 1 (.ref qq1)) 2 (.ref qq2)) 3 (.ref qq3)) 4 (.ref qq4)) 5 (.ref qq5)) 6 (.ref qq6)) 8 (.int (-1))) 9 (.int (-1))) 7 (.ref h1)))), (qq1, .inl (G.2.1, 12, .inl (fun _ => 0))), (qq2, .inl (G.2.1, 12, .inl (fun _ => 0))), (qq3, .inl (G.2.1, 12, .inl (fun _ => 0))), (qq4, .inl (G.2.1, 12, .inl (fun _ => 0))), (qq5, .inl (G.2.1, 6, .inl (fun _ => 0))), (qq6, .inl (G.2.1, 6, .inl (fun _ => 0)))] H := hP
  have hD : va_D A [(h0, .inr (1, ofL 10 (updV (updV (updV (updV (updV (updV (updV (updV (updV Fh0 1 (.ref qq1)) 2 (.ref qq2)) 3 (.ref qq3)) 4 (.ref qq4)) 5 (.ref qq5)) 6 (.ref qq6)) 8 (.int (-1))) 9 (.int (-1))) 7 (.ref h1)))), (qq1, .inl (G.2.1, 12, .inl (fun _ => 0))), (qq2, .inl (G.2.1, 12, .inl (fun _ => 0))), (qq3, .inl (G.2.1, 12, .inl (fun _ => 0))), (qq4, .inl (G.2.1, 12, .inl (fun _ => 0))), (qq5, .inl (G.2.1, 6, .inl (fun _ => 0))), (qq6, .inl (G.2.1, 6, .inl (fun _ => 0)))] := hD
  refine lv_aload_n hx hb dX1_init_67 rfl (lv_at hl 0 rfl) ?_
  refine lv_aload_n hx hb dX1_init_68 rfl (lv_at hl 2 rfl) ?_
  refine k_putF fl_X1_41 ft_X1_0 C hnm hP hD hS 0 rfl rfl rfl dX1_init_69 (fun H locs hP hD hS => ?_)
  have hP : va_P G.1 vwCl [(h0, .inr (1, ofL 10 (updV (updV (updV (updV (updV (updV (updV (updV (updV (updV Fh0 1 (.ref qq1)) 2 (.ref qq2)) 3 (.ref qq3)) 4 (.ref qq4)) 5 (.ref qq5)) 6 (.ref qq6)) 8 (.int (-1))) 9 (.int (-1))) 7 (.ref h1)) 0 (.ref h2)))), (qq1, .inl (G.2.1, 12, .inl (fun _ => 0))), (qq2, .inl (G.2.1, 12, .inl (fun _ => 0))), (qq3, .inl (G.2.1, 12, .inl (fun _ => 0))), (qq4, .inl (G.2.1, 12, .inl (fun _ => 0))), (qq5, .inl (G.2.1, 6, .inl (fun _ => 0))), (qq6, .inl (G.2.1, 6, .inl (fun _ => 0)))] H := hP
  have hD : va_D A [(h0, .inr (1, ofL 10 (updV (updV (updV (updV (updV (updV (updV (updV (updV (updV Fh0 1 (.ref qq1)) 2 (.ref qq2)) 3 (.ref qq3)) 4 (.ref qq4)) 5 (.ref qq5)) 6 (.ref qq6)) 8 (.int (-1))) 9 (.int (-1))) 7 (.ref h1)) 0 (.ref h2)))), (qq1, .inl (G.2.1, 12, .inl (fun _ => 0))), (qq2, .inl (G.2.1, 12, .inl (fun _ => 0))), (qq3, .inl (G.2.1, 12, .inl (fun _ => 0))), (qq4, .inl (G.2.1, 12, .inl (fun _ => 0))), (qq5, .inl (G.2.1, 6, .inl (fun _ => 0))), (qq6, .inl (G.2.1, 6, .inl (fun _ => 0)))] := hD
  exact k_vret C hr hlk hP hD hS (fun k => match k with | 0 => qq1 | 1 => qq2 | 2 => qq3 | 3 => qq4 | 4 => qq5 | 5 => qq6 | _ => 0) (trivial) [0, 1, 2, 3, 4, 5, 6] rfl rfl (Nat.le_of_ble_eq_true rfl) (Nat.le_of_ble_eq_true rfl) dX1_init_72
set_option maxHeartbeats 4000000 in
set_option maxRecDepth 100000 in
theorem c_X6_init (l : Launch) (G : kG) (sz : Nat) (h0 : Nat) (h1 : Nat) (h2 : Nat) (Fh0 : Nat → Value) : kM l yX6_init cX6_init 3 none { frames := 6, cells := 0, slots := 0, locals := 110 } G [.ref h0, .ref h1, .ref h2] [(h0, .inr (6, ofL 11 Fh0))] sz (kQv G (S := Unit) (fun (_ : Unit) => True) (fun _ => [(h0, .inr (6, ofL 11 (updV (updV Fh0 0 (.ref h1)) 1 (.ref h2))))])) := by
  refine kM.of (by decide) (Nat.le_of_ble_eq_true rfl) ?_
  intro p e s m below meth c A ls H C hr hlk hnm hP hD hS hl
  have C : kC G p s m c cX6_init 3 RX6 A := C
  have hx := C.1
  have hb := C.2.1
  have hl : lv_has ls 3 [(0, .ref h0), (1, .ref h1), (2, .ref h2)] := hl
  refine lv_aload_n hx hb dX6_init_0 rfl (lv_at hl 0 rfl) ?_
  refine k_obj ⟨tw_193, tw_32, tw_33⟩ C hl.1 dX6_init_1 (Nat.le_of_ble_eq_true rfl) (Nat.le_of_ble_eq_true rfl) ?_
  refine lv_aload_n hx hb dX6_init_4 rfl (lv_at hl 0 rfl) ?_
  refine lv_aload_n hx hb dX6_init_5 rfl (lv_at hl 1 rfl) ?_
  refine k_putF fl_X6_9 ft_X6_0 C hnm hP hD hS 0 rfl rfl rfl dX6_init_6 (fun H locs hP hD hS => ?_)
  have hP : va_P G.1 vwCl [(h0, .inr (6, ofL 11 (updV Fh0 0 (.ref h1))))] H := hP
  have hD : va_D A [(h0, .inr (6, ofL 11 (updV Fh0 0 (.ref h1))))] := hD
  refine lv_aload_n hx hb dX6_init_9 rfl (lv_at hl 0 rfl) ?_
  refine lv_aload_n hx hb dX6_init_10 rfl (lv_at hl 2 rfl) ?_
  refine k_put fl_X6_15 ft_X6_1 C hP hD hS 0 rfl rfl rfl dX6_init_11 (fun H locs hP hD hS => ?_)
  have hP : va_P G.1 vwCl [(h0, .inr (6, ofL 11 (updV (updV Fh0 0 (.ref h1)) 1 (.ref h2))))] H := hP
  have hD : va_D A [(h0, .inr (6, ofL 11 (updV (updV Fh0 0 (.ref h1)) 1 (.ref h2))))] := hD
  exact k_vret C hr hlk hP hD hS () (trivial) [0] rfl rfl (Nat.le_of_ble_eq_true rfl) (Nat.le_of_ble_eq_true rfl) dX6_init_14
set_option maxHeartbeats 4000000 in
set_option maxRecDepth 100000 in
theorem c_X10_init (l : Launch) (G : kG) (sz : Nat) (h0 : Nat) (h1 : Nat) (Fh0 : Nat → Value) (Fh1 : Nat → Value) (h2 : Nat) (e_h1_0 : Fh1 0 = .ref h2) : kM l yX10_init cX10_init 2 none { frames := 7, cells := 2, slots := 15, locals := 130 } G [.ref h0, .ref h1] [(h0, .inr (10, ofL 7 Fh0)), (h1, .inr (1, ofL 10 Fh1))] sz (kQv G (S := (Nat → Nat)) (fun (_ : Nat → Nat) => True) (fun u => [(h0, .inr (10, ofL 7 (updV (updV (updV (updV Fh0 2 (.ref (u 0))) 3 (.ref (u 1))) 0 (.ref h1)) 1 (.ref h2)))), (h1, .inr (1, ofL 10 Fh1)), ((u 0), .inr (4, ofL 3 zF4)), ((u 1), .inl (G.2.1, 12, .inl (fun _ => 0)))])) := by
  refine kM.of (by decide) (Nat.le_of_ble_eq_true rfl) ?_
  intro p e s m below meth c A ls H C hr hlk hnm hP hD hS hl
  have C : kC G p s m c cX10_init 2 RX10 A := C
  have hx := C.1
  have hb := C.2.1
  have hl : lv_has ls 2 [(0, .ref h0), (1, .ref h1)] := hl
  refine lv_aload_n hx hb dX10_init_0 rfl (lv_at hl 0 rfl) ?_
  refine k_obj ⟨tw_350, tw_32, tw_33⟩ C hl.1 dX10_init_1 (Nat.le_of_ble_eq_true rfl) (Nat.le_of_ble_eq_true rfl) ?_
  refine lv_aload_n hx hb dX10_init_4 rfl (lv_at hl 0 rfl) ?_
  refine k_new (ci := 4) (F := zF4) tyX4 inWX4 tyX4_ok ⟨tw_351, tw_352, tw_9⟩ rfl zV4 C hP hD hS (Nat.le_of_ble_eq_true rfl) (Nat.le_of_ble_eq_true rfl) dX10_init_5 (fun qq1 H hP hD hS => ?_)
  have hP : va_P G.1 vwCl [(h0, .inr (10, ofL 7 Fh0)), (h1, .inr (1, ofL 10 Fh1)), (qq1, .inr (4, ofL 3 zF4))] H := hP
  have hD : va_D A [(h0, .inr (10, ofL 7 Fh0)), (h1, .inr (1, ofL 10 Fh1)), (qq1, .inr (4, ofL 3 zF4))] := hD
  refine lv_dup hx hb dX10_init_8 rfl ?_
  refine k_callJv (wr := [(h0, .inr (10, ofL 7 Fh0)), (h1, .inr (1, ofL 10 Fh1))]) (rest := [.ref qq1, .ref h0]) li_X10_11 C (c_X4_init l G H.size qq1 zF4) (kR rfl) hP hD hS [2] [0, 1] rfl rfl rfl rfl (by decide) rfl hl.1 rfl (Nat.le_of_ble_eq_true rfl) dX10_init_9 (fun uu4 H locs hw2 hP hD hS => ?_)
  have hP : va_P G.1 vwCl [(h0, .inr (10, ofL 7 Fh0)), (h1, .inr (1, ofL 10 Fh1)), (qq1, .inr (4, ofL 3 zF4))] H := hP
  have hD : va_D A [(h0, .inr (10, ofL 7 Fh0)), (h1, .inr (1, ofL 10 Fh1)), (qq1, .inr (4, ofL 3 zF4))] := hD
  refine k_putF fl_X10_12 ft_X10_2 C hnm hP hD hS 0 rfl rfl rfl dX10_init_12 (fun H locs hP hD hS => ?_)
  have hP : va_P G.1 vwCl [(h0, .inr (10, ofL 7 (updV Fh0 2 (.ref qq1)))), (h1, .inr (1, ofL 10 Fh1)), (qq1, .inr (4, ofL 3 zF4))] H := hP
  have hD : va_D A [(h0, .inr (10, ofL 7 (updV Fh0 2 (.ref qq1)))), (h1, .inr (1, ofL 10 Fh1)), (qq1, .inr (4, ofL 3 zF4))] := hD
  refine lv_aload_n hx hb dX10_init_15 rfl (lv_at hl 0 rfl) ?_
  refine lv_bipush (v := 12) hx hb dX10_init_16 (by decide) ?_
  refine k_newI (N' := 12) tw_67 C hP hD hS (by decide) (by decide) (by decide) (Nat.le_of_ble_eq_true rfl) (Nat.le_of_ble_eq_true rfl) dX10_init_18 (fun qq5 H hP hD hS => ?_)
  have hP : va_P G.1 vwCl [(h0, .inr (10, ofL 7 (updV Fh0 2 (.ref qq1)))), (h1, .inr (1, ofL 10 Fh1)), (qq1, .inr (4, ofL 3 zF4)), (qq5, .inl (G.2.1, 12, .inl (fun _ => 0)))] H := hP
  have hD : va_D A [(h0, .inr (10, ofL 7 (updV Fh0 2 (.ref qq1)))), (h1, .inr (1, ofL 10 Fh1)), (qq1, .inr (4, ofL 3 zF4)), (qq5, .inl (G.2.1, 12, .inl (fun _ => 0)))] := hD
  refine k_putF fl_X10_18 ft_X10_3 C hnm hP hD hS 0 rfl rfl rfl dX10_init_20 (fun H locs hP hD hS => ?_)
  have hP : va_P G.1 vwCl [(h0, .inr (10, ofL 7 (updV (updV Fh0 2 (.ref qq1)) 3 (.ref qq5)))), (h1, .inr (1, ofL 10 Fh1)), (qq1, .inr (4, ofL 3 zF4)), (qq5, .inl (G.2.1, 12, .inl (fun _ => 0)))] H := hP
  have hD : va_D A [(h0, .inr (10, ofL 7 (updV (updV Fh0 2 (.ref qq1)) 3 (.ref qq5)))), (h1, .inr (1, ofL 10 Fh1)), (qq1, .inr (4, ofL 3 zF4)), (qq5, .inl (G.2.1, 12, .inl (fun _ => 0)))] := hD
  refine lv_aload_n hx hb dX10_init_23 rfl (lv_at hl 0 rfl) ?_
  refine lv_aload_n hx hb dX10_init_24 rfl (lv_at hl 1 rfl) ?_
  refine k_putF fl_X10_22 ft_X10_0 C hnm hP hD hS 0 rfl rfl rfl dX10_init_25 (fun H locs hP hD hS => ?_)
  have hP : va_P G.1 vwCl [(h0, .inr (10, ofL 7 (updV (updV (updV Fh0 2 (.ref qq1)) 3 (.ref qq5)) 0 (.ref h1)))), (h1, .inr (1, ofL 10 Fh1)), (qq1, .inr (4, ofL 3 zF4)), (qq5, .inl (G.2.1, 12, .inl (fun _ => 0)))] H := hP
  have hD : va_D A [(h0, .inr (10, ofL 7 (updV (updV (updV Fh0 2 (.ref qq1)) 3 (.ref qq5)) 0 (.ref h1)))), (h1, .inr (1, ofL 10 Fh1)), (qq1, .inr (4, ofL 3 zF4)), (qq5, .inl (G.2.1, 12, .inl (fun _ => 0)))] := hD
  refine lv_aload_n hx hb dX10_init_28 rfl (lv_at hl 0 rfl) ?_
  refine lv_aload_n hx hb dX10_init_29 rfl (lv_at hl 1 rfl) ?_
  refine k_getN (v := .ref h2) fl_X10_26 C hP 1 rfl e_h1_0 dX10_init_30 ?_
  refine k_putF fl_X10_32 ft_X10_1 C hnm hP hD hS 0 rfl rfl rfl dX10_init_33 (fun H locs hP hD hS => ?_)
  have hP : va_P G.1 vwCl [(h0, .inr (10, ofL 7 (updV (updV (updV (updV Fh0 2 (.ref qq1)) 3 (.ref qq5)) 0 (.ref h1)) 1 (.ref h2)))), (h1, .inr (1, ofL 10 Fh1)), (qq1, .inr (4, ofL 3 zF4)), (qq5, .inl (G.2.1, 12, .inl (fun _ => 0)))] H := hP
  have hD : va_D A [(h0, .inr (10, ofL 7 (updV (updV (updV (updV Fh0 2 (.ref qq1)) 3 (.ref qq5)) 0 (.ref h1)) 1 (.ref h2)))), (h1, .inr (1, ofL 10 Fh1)), (qq1, .inr (4, ofL 3 zF4)), (qq5, .inl (G.2.1, 12, .inl (fun _ => 0)))] := hD
  exact k_vret C hr hlk hP hD hS (fun k => match k with | 0 => qq1 | 1 => qq5 | _ => 0) (trivial) [0, 1, 2, 3] rfl rfl (Nat.le_of_ble_eq_true rfl) (Nat.le_of_ble_eq_true rfl) dX10_init_36
set_option maxHeartbeats 4000000 in
set_option maxRecDepth 100000 in
theorem c_X2_init (l : Launch) (G : kG) (sz : Nat) (h0 : Nat) (h1 : Nat) (Fh0 : Nat → Value) (Fh1 : Nat → Value) (h2 : Nat) (e_h1_0 : Fh1 0 = .ref h2) : kM l yX2_init cX2_init 2 none { frames := 6, cells := 2, slots := 24, locals := 110 } G [.ref h0, .ref h1] [(h0, .inr (2, ofL 9 Fh0)), (h1, .inr (1, ofL 10 Fh1))] sz (kQv G (S := (Nat → Nat)) (fun (_ : Nat → Nat) => True) (fun u => [(h0, .inr (2, ofL 9 (updV (updV (updV (updV Fh0 2 (.ref (u 0))) 3 (.ref (u 1))) 0 (.ref h1)) 1 (.ref h2)))), (h1, .inr (1, ofL 10 Fh1)), ((u 0), .inl (G.2.1, 12, .inl (fun _ => 0))), ((u 1), .inl (G.2.1, 12, .inl (fun _ => 0)))])) := by
  refine kM.of (by decide) (Nat.le_of_ble_eq_true rfl) ?_
  intro p e s m below meth c A ls H C hr hlk hnm hP hD hS hl
  have C : kC G p s m c cX2_init 2 RX2 A := C
  have hx := C.1
  have hb := C.2.1
  have hl : lv_has ls 2 [(0, .ref h0), (1, .ref h1)] := hl
  refine lv_aload_n hx hb dX2_init_0 rfl (lv_at hl 0 rfl) ?_
  refine k_obj ⟨tw_399, tw_32, tw_33⟩ C hl.1 dX2_init_1 (Nat.le_of_ble_eq_true rfl) (Nat.le_of_ble_eq_true rfl) ?_
  refine lv_aload_n hx hb dX2_init_4 rfl (lv_at hl 0 rfl) ?_
  refine lv_bipush (v := 12) hx hb dX2_init_5 (by decide) ?_
  refine k_newI (N' := 12) tw_67 C hP hD hS (by decide) (by decide) (by decide) (Nat.le_of_ble_eq_true rfl) (Nat.le_of_ble_eq_true rfl) dX2_init_7 (fun qq1 H hP hD hS => ?_)
  have hP : va_P G.1 vwCl [(h0, .inr (2, ofL 9 Fh0)), (h1, .inr (1, ofL 10 Fh1)), (qq1, .inl (G.2.1, 12, .inl (fun _ => 0)))] H := hP
  have hD : va_D A [(h0, .inr (2, ofL 9 Fh0)), (h1, .inr (1, ofL 10 Fh1)), (qq1, .inl (G.2.1, 12, .inl (fun _ => 0)))] := hD
  refine k_putF fl_X2_9 ft_X2_2 C hnm hP hD hS 0 rfl rfl rfl dX2_init_9 (fun H locs hP hD hS => ?_)
  have hP : va_P G.1 vwCl [(h0, .inr (2, ofL 9 (updV Fh0 2 (.ref qq1)))), (h1, .inr (1, ofL 10 Fh1)), (qq1, .inl (G.2.1, 12, .inl (fun _ => 0)))] H := hP
  have hD : va_D A [(h0, .inr (2, ofL 9 (updV Fh0 2 (.ref qq1)))), (h1, .inr (1, ofL 10 Fh1)), (qq1, .inl (G.2.1, 12, .inl (fun _ => 0)))] := hD
  refine lv_aload_n hx hb dX2_init_12 rfl (lv_at hl 0 rfl) ?_
  refine lv_bipush (v := 12) hx hb dX2_init_13 (by decide) ?_
  refine k_newI (N' := 12) tw_67 C hP hD hS (by decide) (by decide) (by decide) (Nat.le_of_ble_eq_true rfl) (Nat.le_of_ble_eq_true rfl) dX2_init_15 (fun qq2 H hP hD hS => ?_)
  have hP : va_P G.1 vwCl [(h0, .inr (2, ofL 9 (updV Fh0 2 (.ref qq1)))), (h1, .inr (1, ofL 10 Fh1)), (qq1, .inl (G.2.1, 12, .inl (fun _ => 0))), (qq2, .inl (G.2.1, 12, .inl (fun _ => 0)))] H := hP
  have hD : va_D A [(h0, .inr (2, ofL 9 (updV Fh0 2 (.ref qq1)))), (h1, .inr (1, ofL 10 Fh1)), (qq1, .inl (G.2.1, 12, .inl (fun _ => 0))), (qq2, .inl (G.2.1, 12, .inl (fun _ => 0)))] := hD
  refine k_putF fl_X2_15 ft_X2_3 C hnm hP hD hS 0 rfl rfl rfl dX2_init_17 (fun H locs hP hD hS => ?_)
  have hP : va_P G.1 vwCl [(h0, .inr (2, ofL 9 (updV (updV Fh0 2 (.ref qq1)) 3 (.ref qq2)))), (h1, .inr (1, ofL 10 Fh1)), (qq1, .inl (G.2.1, 12, .inl (fun _ => 0))), (qq2, .inl (G.2.1, 12, .inl (fun _ => 0)))] H := hP
  have hD : va_D A [(h0, .inr (2, ofL 9 (updV (updV Fh0 2 (.ref qq1)) 3 (.ref qq2)))), (h1, .inr (1, ofL 10 Fh1)), (qq1, .inl (G.2.1, 12, .inl (fun _ => 0))), (qq2, .inl (G.2.1, 12, .inl (fun _ => 0)))] := hD
  refine lv_aload_n hx hb dX2_init_20 rfl (lv_at hl 0 rfl) ?_
  refine lv_aload_n hx hb dX2_init_21 rfl (lv_at hl 1 rfl) ?_
  refine k_putF fl_X2_18 ft_X2_0 C hnm hP hD hS 0 rfl rfl rfl dX2_init_22 (fun H locs hP hD hS => ?_)
  have hP : va_P G.1 vwCl [(h0, .inr (2, ofL 9 (updV (updV (updV Fh0 2 (.ref qq1)) 3 (.ref qq2)) 0 (.ref h1)))), (h1, .inr (1, ofL 10 Fh1)), (qq1, .inl (G.2.1, 12, .inl (fun _ => 0))), (qq2, .inl (G.2.1, 12, .inl (fun _ => 0)))] H := hP
  have hD : va_D A [(h0, .inr (2, ofL 9 (updV (updV (updV Fh0 2 (.ref qq1)) 3 (.ref qq2)) 0 (.ref h1)))), (h1, .inr (1, ofL 10 Fh1)), (qq1, .inl (G.2.1, 12, .inl (fun _ => 0))), (qq2, .inl (G.2.1, 12, .inl (fun _ => 0)))] := hD
  refine lv_aload_n hx hb dX2_init_25 rfl (lv_at hl 0 rfl) ?_
  refine lv_aload_n hx hb dX2_init_26 rfl (lv_at hl 1 rfl) ?_
  refine k_getN (v := .ref h2) fl_X2_22 C hP 1 rfl e_h1_0 dX2_init_27 ?_
  refine k_putF fl_X2_28 ft_X2_1 C hnm hP hD hS 0 rfl rfl rfl dX2_init_30 (fun H locs hP hD hS => ?_)
  have hP : va_P G.1 vwCl [(h0, .inr (2, ofL 9 (updV (updV (updV (updV Fh0 2 (.ref qq1)) 3 (.ref qq2)) 0 (.ref h1)) 1 (.ref h2)))), (h1, .inr (1, ofL 10 Fh1)), (qq1, .inl (G.2.1, 12, .inl (fun _ => 0))), (qq2, .inl (G.2.1, 12, .inl (fun _ => 0)))] H := hP
  have hD : va_D A [(h0, .inr (2, ofL 9 (updV (updV (updV (updV Fh0 2 (.ref qq1)) 3 (.ref qq2)) 0 (.ref h1)) 1 (.ref h2)))), (h1, .inr (1, ofL 10 Fh1)), (qq1, .inl (G.2.1, 12, .inl (fun _ => 0))), (qq2, .inl (G.2.1, 12, .inl (fun _ => 0)))] := hD
  exact k_vret C hr hlk hP hD hS (fun k => match k with | 0 => qq1 | 1 => qq2 | _ => 0) (trivial) [0, 1, 2, 3] rfl rfl (Nat.le_of_ble_eq_true rfl) (Nat.le_of_ble_eq_true rfl) dX2_init_33
set_option maxHeartbeats 4000000 in
set_option maxRecDepth 100000 in
theorem c_X0_init (l : Launch) (G : kG) (sz : Nat) (h0 : Nat) (h1 : Nat) (Fh0 : Nat → Value) : kM l yX0_init cX0_init 2 none { frames := 6, cells := 1, slots := 8, locals := 110 } G [.ref h0, .ref h1] [(h0, .inr (0, ofL 7 Fh0))] sz (kQv G (S := (Nat → Nat)) (fun (_ : Nat → Nat) => True) (fun u => [(h0, .inr (0, ofL 7 (updV (updV Fh0 1 (.ref (u 0))) 0 (.ref h1)))), ((u 0), .inl (G.2.1, 8, .inl (fun _ => 0)))])) := by
  refine kM.of (by decide) (Nat.le_of_ble_eq_true rfl) ?_
  intro p e s m below meth c A ls H C hr hlk hnm hP hD hS hl
  have C : kC G p s m c cX0_init 2 RX0 A := C
  have hx := C.1
  have hb := C.2.1
  have hl : lv_has ls 2 [(0, .ref h0), (1, .ref h1)] := hl
  refine lv_aload_n hx hb dX0_init_0 rfl (lv_at hl 0 rfl) ?_
  refine k_obj ⟨tw_434, tw_32, tw_33⟩ C hl.1 dX0_init_1 (Nat.le_of_ble_eq_true rfl) (Nat.le_of_ble_eq_true rfl) ?_
  refine lv_aload_n hx hb dX0_init_4 rfl (lv_at hl 0 rfl) ?_
  refine lv_bipush (v := 8) hx hb dX0_init_5 (by decide) ?_
  refine k_newI (N' := 8) tw_67 C hP hD hS (by decide) (by decide) (by decide) (Nat.le_of_ble_eq_true rfl) (Nat.le_of_ble_eq_true rfl) dX0_init_7 (fun qq1 H hP hD hS => ?_)
  have hP : va_P G.1 vwCl [(h0, .inr (0, ofL 7 Fh0)), (qq1, .inl (G.2.1, 8, .inl (fun _ => 0)))] H := hP
  have hD : va_D A [(h0, .inr (0, ofL 7 Fh0)), (qq1, .inl (G.2.1, 8, .inl (fun _ => 0)))] := hD
  refine k_putF fl_X0_9 ft_X0_1 C hnm hP hD hS 0 rfl rfl rfl dX0_init_9 (fun H locs hP hD hS => ?_)
  have hP : va_P G.1 vwCl [(h0, .inr (0, ofL 7 (updV Fh0 1 (.ref qq1)))), (qq1, .inl (G.2.1, 8, .inl (fun _ => 0)))] H := hP
  have hD : va_D A [(h0, .inr (0, ofL 7 (updV Fh0 1 (.ref qq1)))), (qq1, .inl (G.2.1, 8, .inl (fun _ => 0)))] := hD
  refine lv_aload_n hx hb dX0_init_12 rfl (lv_at hl 0 rfl) ?_
  refine lv_aload_n hx hb dX0_init_13 rfl (lv_at hl 1 rfl) ?_
  refine k_putF fl_X0_15 ft_X0_0 C hnm hP hD hS 0 rfl rfl rfl dX0_init_14 (fun H locs hP hD hS => ?_)
  have hP : va_P G.1 vwCl [(h0, .inr (0, ofL 7 (updV (updV Fh0 1 (.ref qq1)) 0 (.ref h1)))), (qq1, .inl (G.2.1, 8, .inl (fun _ => 0)))] H := hP
  have hD : va_D A [(h0, .inr (0, ofL 7 (updV (updV Fh0 1 (.ref qq1)) 0 (.ref h1)))), (qq1, .inl (G.2.1, 8, .inl (fun _ => 0)))] := hD
  exact k_vret C hr hlk hP hD hS (fun k => match k with | 0 => qq1 | _ => 0) (trivial) [0, 1] rfl rfl (Nat.le_of_ble_eq_true rfl) (Nat.le_of_ble_eq_true rfl) dX0_init_17
set_option maxHeartbeats 4000000 in
set_option maxRecDepth 100000 in
theorem c_X9_init (l : Launch) (G : kG) (sz : Nat) (h0 : Nat) (h1 : Nat) (Fh0 : Nat → Value) : kM l yX9_init cX9_init 2 none { frames := 6, cells := 4, slots := 288, locals := 110 } G [.ref h0, .ref h1] [(h0, .inr (9, ofL 6 Fh0))] sz (kQv G (S := (Nat → Nat)) (fun (_ : Nat → Nat) => True) (fun u => [(h0, .inr (9, ofL 6 (updV (updV (updV (updV (updV Fh0 1 (.ref (u 0))) 2 (.ref (u 1))) 3 (.ref (u 2))) 4 (.ref (u 3))) 0 (.ref h1)))), ((u 0), .inl (G.2.1, 72, .inl (fun _ => 0))), ((u 1), .inl (G.2.1, 72, .inl (fun _ => 0))), ((u 2), .inl (G.2.1, 72, .inl (fun _ => 0))), ((u 3), .inl (G.2.2.1, 72, .inl (fun _ => 0)))])) := by
  refine kM.of (by decide) (Nat.le_of_ble_eq_true rfl) ?_
  intro p e s m below meth c A ls H C hr hlk hnm hP hD hS hl
  have C : kC G p s m c cX9_init 2 RX9 A := C
  have hx := C.1
  have hb := C.2.1
  have hl : lv_has ls 2 [(0, .ref h0), (1, .ref h1)] := hl
  refine lv_aload_n hx hb dX9_init_0 rfl (lv_at hl 0 rfl) ?_
  refine k_obj ⟨tw_464, tw_32, tw_33⟩ C hl.1 dX9_init_1 (Nat.le_of_ble_eq_true rfl) (Nat.le_of_ble_eq_true rfl) ?_
  refine lv_aload_n hx hb dX9_init_4 rfl (lv_at hl 0 rfl) ?_
  refine lv_bipush (v := 72) hx hb dX9_init_5 (by decide) ?_
  refine k_newI (N' := 72) tw_67 C hP hD hS (by decide) (by decide) (by decide) (Nat.le_of_ble_eq_true rfl) (Nat.le_of_ble_eq_true rfl) dX9_init_7 (fun qq1 H hP hD hS => ?_)
  have hP : va_P G.1 vwCl [(h0, .inr (9, ofL 6 Fh0)), (qq1, .inl (G.2.1, 72, .inl (fun _ => 0)))] H := hP
  have hD : va_D A [(h0, .inr (9, ofL 6 Fh0)), (qq1, .inl (G.2.1, 72, .inl (fun _ => 0)))] := hD
  refine k_putF fl_X9_9 ft_X9_1 C hnm hP hD hS 0 rfl rfl rfl dX9_init_9 (fun H locs hP hD hS => ?_)
  have hP : va_P G.1 vwCl [(h0, .inr (9, ofL 6 (updV Fh0 1 (.ref qq1)))), (qq1, .inl (G.2.1, 72, .inl (fun _ => 0)))] H := hP
  have hD : va_D A [(h0, .inr (9, ofL 6 (updV Fh0 1 (.ref qq1)))), (qq1, .inl (G.2.1, 72, .inl (fun _ => 0)))] := hD
  refine lv_aload_n hx hb dX9_init_12 rfl (lv_at hl 0 rfl) ?_
  refine lv_bipush (v := 72) hx hb dX9_init_13 (by decide) ?_
  refine k_newI (N' := 72) tw_67 C hP hD hS (by decide) (by decide) (by decide) (Nat.le_of_ble_eq_true rfl) (Nat.le_of_ble_eq_true rfl) dX9_init_15 (fun qq2 H hP hD hS => ?_)
  have hP : va_P G.1 vwCl [(h0, .inr (9, ofL 6 (updV Fh0 1 (.ref qq1)))), (qq1, .inl (G.2.1, 72, .inl (fun _ => 0))), (qq2, .inl (G.2.1, 72, .inl (fun _ => 0)))] H := hP
  have hD : va_D A [(h0, .inr (9, ofL 6 (updV Fh0 1 (.ref qq1)))), (qq1, .inl (G.2.1, 72, .inl (fun _ => 0))), (qq2, .inl (G.2.1, 72, .inl (fun _ => 0)))] := hD
  refine k_putF fl_X9_15 ft_X9_2 C hnm hP hD hS 0 rfl rfl rfl dX9_init_17 (fun H locs hP hD hS => ?_)
  have hP : va_P G.1 vwCl [(h0, .inr (9, ofL 6 (updV (updV Fh0 1 (.ref qq1)) 2 (.ref qq2)))), (qq1, .inl (G.2.1, 72, .inl (fun _ => 0))), (qq2, .inl (G.2.1, 72, .inl (fun _ => 0)))] H := hP
  have hD : va_D A [(h0, .inr (9, ofL 6 (updV (updV Fh0 1 (.ref qq1)) 2 (.ref qq2)))), (qq1, .inl (G.2.1, 72, .inl (fun _ => 0))), (qq2, .inl (G.2.1, 72, .inl (fun _ => 0)))] := hD
  refine lv_aload_n hx hb dX9_init_20 rfl (lv_at hl 0 rfl) ?_
  refine lv_bipush (v := 72) hx hb dX9_init_21 (by decide) ?_
  refine k_newI (N' := 72) tw_67 C hP hD hS (by decide) (by decide) (by decide) (Nat.le_of_ble_eq_true rfl) (Nat.le_of_ble_eq_true rfl) dX9_init_23 (fun qq3 H hP hD hS => ?_)
  have hP : va_P G.1 vwCl [(h0, .inr (9, ofL 6 (updV (updV Fh0 1 (.ref qq1)) 2 (.ref qq2)))), (qq1, .inl (G.2.1, 72, .inl (fun _ => 0))), (qq2, .inl (G.2.1, 72, .inl (fun _ => 0))), (qq3, .inl (G.2.1, 72, .inl (fun _ => 0)))] H := hP
  have hD : va_D A [(h0, .inr (9, ofL 6 (updV (updV Fh0 1 (.ref qq1)) 2 (.ref qq2)))), (qq1, .inl (G.2.1, 72, .inl (fun _ => 0))), (qq2, .inl (G.2.1, 72, .inl (fun _ => 0))), (qq3, .inl (G.2.1, 72, .inl (fun _ => 0)))] := hD
  refine k_putF fl_X9_18 ft_X9_3 C hnm hP hD hS 0 rfl rfl rfl dX9_init_25 (fun H locs hP hD hS => ?_)
  have hP : va_P G.1 vwCl [(h0, .inr (9, ofL 6 (updV (updV (updV Fh0 1 (.ref qq1)) 2 (.ref qq2)) 3 (.ref qq3)))), (qq1, .inl (G.2.1, 72, .inl (fun _ => 0))), (qq2, .inl (G.2.1, 72, .inl (fun _ => 0))), (qq3, .inl (G.2.1, 72, .inl (fun _ => 0)))] H := hP
  have hD : va_D A [(h0, .inr (9, ofL 6 (updV (updV (updV Fh0 1 (.ref qq1)) 2 (.ref qq2)) 3 (.ref qq3)))), (qq1, .inl (G.2.1, 72, .inl (fun _ => 0))), (qq2, .inl (G.2.1, 72, .inl (fun _ => 0))), (qq3, .inl (G.2.1, 72, .inl (fun _ => 0)))] := hD
  refine lv_aload_n hx hb dX9_init_28 rfl (lv_at hl 0 rfl) ?_
  refine lv_bipush (v := 72) hx hb dX9_init_29 (by decide) ?_
  refine k_newZ (N' := 72) tw_484 C hP hD hS (by decide) (by decide) (by decide) (Nat.le_of_ble_eq_true rfl) (Nat.le_of_ble_eq_true rfl) dX9_init_31 (fun qq4 H hP hD hS => ?_)
  have hP : va_P G.1 vwCl [(h0, .inr (9, ofL 6 (updV (updV (updV Fh0 1 (.ref qq1)) 2 (.ref qq2)) 3 (.ref qq3)))), (qq1, .inl (G.2.1, 72, .inl (fun _ => 0))), (qq2, .inl (G.2.1, 72, .inl (fun _ => 0))), (qq3, .inl (G.2.1, 72, .inl (fun _ => 0))), (qq4, .inl (G.2.2.1, 72, .inl (fun _ => 0)))] H := hP
  have hD : va_D A [(h0, .inr (9, ofL 6 (updV (updV (updV Fh0 1 (.ref qq1)) 2 (.ref qq2)) 3 (.ref qq3)))), (qq1, .inl (G.2.1, 72, .inl (fun _ => 0))), (qq2, .inl (G.2.1, 72, .inl (fun _ => 0))), (qq3, .inl (G.2.1, 72, .inl (fun _ => 0))), (qq4, .inl (G.2.2.1, 72, .inl (fun _ => 0)))] := hD
  refine k_putF fl_X9_21 ft_X9_4 C hnm hP hD hS 0 rfl rfl rfl dX9_init_33 (fun H locs hP hD hS => ?_)
  have hP : va_P G.1 vwCl [(h0, .inr (9, ofL 6 (updV (updV (updV (updV Fh0 1 (.ref qq1)) 2 (.ref qq2)) 3 (.ref qq3)) 4 (.ref qq4)))), (qq1, .inl (G.2.1, 72, .inl (fun _ => 0))), (qq2, .inl (G.2.1, 72, .inl (fun _ => 0))), (qq3, .inl (G.2.1, 72, .inl (fun _ => 0))), (qq4, .inl (G.2.2.1, 72, .inl (fun _ => 0)))] H := hP
  have hD : va_D A [(h0, .inr (9, ofL 6 (updV (updV (updV (updV Fh0 1 (.ref qq1)) 2 (.ref qq2)) 3 (.ref qq3)) 4 (.ref qq4)))), (qq1, .inl (G.2.1, 72, .inl (fun _ => 0))), (qq2, .inl (G.2.1, 72, .inl (fun _ => 0))), (qq3, .inl (G.2.1, 72, .inl (fun _ => 0))), (qq4, .inl (G.2.2.1, 72, .inl (fun _ => 0)))] := hD
  refine lv_aload_n hx hb dX9_init_36 rfl (lv_at hl 0 rfl) ?_
  refine lv_aload_n hx hb dX9_init_37 rfl (lv_at hl 1 rfl) ?_
  refine k_putF fl_X9_25 ft_X9_0 C hnm hP hD hS 0 rfl rfl rfl dX9_init_38 (fun H locs hP hD hS => ?_)
  have hP : va_P G.1 vwCl [(h0, .inr (9, ofL 6 (updV (updV (updV (updV (updV Fh0 1 (.ref qq1)) 2 (.ref qq2)) 3 (.ref qq3)) 4 (.ref qq4)) 0 (.ref h1)))), (qq1, .inl (G.2.1, 72, .inl (fun _ => 0))), (qq2, .inl (G.2.1, 72, .inl (fun _ => 0))), (qq3, .inl (G.2.1, 72, .inl (fun _ => 0))), (qq4, .inl (G.2.2.1, 72, .inl (fun _ => 0)))] H := hP
  have hD : va_D A [(h0, .inr (9, ofL 6 (updV (updV (updV (updV (updV Fh0 1 (.ref qq1)) 2 (.ref qq2)) 3 (.ref qq3)) 4 (.ref qq4)) 0 (.ref h1)))), (qq1, .inl (G.2.1, 72, .inl (fun _ => 0))), (qq2, .inl (G.2.1, 72, .inl (fun _ => 0))), (qq3, .inl (G.2.1, 72, .inl (fun _ => 0))), (qq4, .inl (G.2.2.1, 72, .inl (fun _ => 0)))] := hD
  exact k_vret C hr hlk hP hD hS (fun k => match k with | 0 => qq1 | 1 => qq2 | 2 => qq3 | 3 => qq4 | _ => 0) (trivial) [0, 1, 2, 3, 4] rfl rfl (Nat.le_of_ble_eq_true rfl) (Nat.le_of_ble_eq_true rfl) dX9_init_41
