theorem dX12_works_0 : decode cX12_works 0 = .ok (.iload_n 0, 1) := by decide +kernel
theorem dX12_works_1 : decode cX12_works 1 = .ok (.tableswitch 105 4 10 #[43, 57, 71, 82, 93, 97, 101], 43) := by decide +kernel
theorem dX12_works_44 : decode cX12_works 44 = .ok (.iload_n 1, 1) := by decide +kernel
theorem dX12_works_57 : decode cX12_works 57 = .ok (.ireturn, 1) := by decide +kernel
theorem dX12_works_56 : decode cX12_works 56 = .ok (.iconst 0, 1) := by decide +kernel
theorem dX12_works_45 : decode cX12_works 45 = .ok (.ifCond .eq 11, 3) := by decide +kernel
theorem dX12_works_48 : decode cX12_works 48 = .ok (.iload_n 2, 1) := by decide +kernel
theorem dX12_works_49 : decode cX12_works 49 = .ok (.ifCond .eq 7, 3) := by decide +kernel
theorem dX12_works_52 : decode cX12_works 52 = .ok (.iconst 1, 1) := by decide +kernel
theorem dX12_works_53 : decode cX12_works 53 = .ok (.goto 4, 3) := by decide +kernel
theorem dX12_works_58 : decode cX12_works 58 = .ok (.iload_n 1, 1) := by decide +kernel
theorem dX12_works_71 : decode cX12_works 71 = .ok (.ireturn, 1) := by decide +kernel
theorem dX12_works_66 : decode cX12_works 66 = .ok (.iconst 1, 1) := by decide +kernel
theorem dX12_works_67 : decode cX12_works 67 = .ok (.goto 4, 3) := by decide +kernel
theorem dX12_works_59 : decode cX12_works 59 = .ok (.ifCond .ne 7, 3) := by decide +kernel
theorem dX12_works_62 : decode cX12_works 62 = .ok (.iload_n 2, 1) := by decide +kernel
theorem dX12_works_63 : decode cX12_works 63 = .ok (.ifCond .eq 7, 3) := by decide +kernel
theorem dX12_works_70 : decode cX12_works 70 = .ok (.iconst 0, 1) := by decide +kernel
theorem dX12_works_72 : decode cX12_works 72 = .ok (.iload_n 1, 1) := by decide +kernel
theorem dX12_works_73 : decode cX12_works 73 = .ok (.iload_n 2, 1) := by decide +kernel
theorem dX12_works_82 : decode cX12_works 82 = .ok (.ireturn, 1) := by decide +kernel
theorem dX12_works_74 : decode cX12_works 74 = .ok (.if_icmp .ge 7, 3) := by decide +kernel
theorem dX12_works_81 : decode cX12_works 81 = .ok (.iconst 0, 1) := by decide +kernel
theorem dX12_works_77 : decode cX12_works 77 = .ok (.iconst 1, 1) := by decide +kernel
theorem dX12_works_78 : decode cX12_works 78 = .ok (.goto 4, 3) := by decide +kernel
theorem dX12_works_83 : decode cX12_works 83 = .ok (.iload_n 1, 1) := by decide +kernel
theorem dX12_works_84 : decode cX12_works 84 = .ok (.iload_n 2, 1) := by decide +kernel
theorem dX12_works_93 : decode cX12_works 93 = .ok (.ireturn, 1) := by decide +kernel
theorem dX12_works_85 : decode cX12_works 85 = .ok (.if_icmp .ne 7, 3) := by decide +kernel
theorem dX12_works_92 : decode cX12_works 92 = .ok (.iconst 0, 1) := by decide +kernel
theorem dX12_works_88 : decode cX12_works 88 = .ok (.iconst 1, 1) := by decide +kernel
theorem dX12_works_89 : decode cX12_works 89 = .ok (.goto 4, 3) := by decide +kernel
theorem dX12_works_94 : decode cX12_works 94 = .ok (.iload_n 1, 1) := by decide +kernel
theorem dX12_works_95 : decode cX12_works 95 = .ok (.iload_n 2, 1) := by decide +kernel
theorem dX12_works_96 : decode cX12_works 96 = .ok (.iadd, 1) := by decide +kernel
theorem dX12_works_97 : decode cX12_works 97 = .ok (.ireturn, 1) := by decide +kernel
theorem dX12_works_98 : decode cX12_works 98 = .ok (.iload_n 1, 1) := by decide +kernel
theorem dX12_works_99 : decode cX12_works 99 = .ok (.iload_n 2, 1) := by decide +kernel
theorem dX12_works_100 : decode cX12_works 100 = .ok (.isub, 1) := by decide +kernel
theorem dX12_works_101 : decode cX12_works 101 = .ok (.ireturn, 1) := by decide +kernel
theorem dX12_works_102 : decode cX12_works 102 = .ok (.iload_n 1, 1) := by decide +kernel
theorem dX12_works_103 : decode cX12_works 103 = .ok (.iload_n 2, 1) := by decide +kernel
theorem dX12_works_104 : decode cX12_works 104 = .ok (.imul, 1) := by decide +kernel
theorem dX12_works_105 : decode cX12_works 105 = .ok (.ireturn, 1) := by decide +kernel
theorem dX12_works_106 : decode cX12_works 106 = .ok (.iload_n 2, 1) := by decide +kernel
theorem dX12_works_117 : decode cX12_works 117 = .ok (.ireturn, 1) := by decide +kernel
theorem dX12_works_107 : decode cX12_works 107 = .ok (.ifCond .ne 7, 3) := by decide +kernel
theorem dX12_works_114 : decode cX12_works 114 = .ok (.iload_n 1, 1) := by decide +kernel
theorem dX12_works_115 : decode cX12_works 115 = .ok (.iload_n 2, 1) := by decide +kernel
theorem dX12_works_116 : decode cX12_works 116 = .ok (.idiv, 1) := by decide +kernel
theorem dX12_works_110 : decode cX12_works 110 = .ok (.iconst 0, 1) := by decide +kernel
theorem dX12_works_111 : decode cX12_works 111 = .ok (.goto 6, 3) := by decide +kernel
theorem tw_1477 : (Jvm.Cond.fieldLink "MarshBellsModel" (111 : Nat) "MarshBellsModel" "pile" "[I") ∈ lw_tbl := tk_7 (List.mem_of_getElem? (i := 37) rfl)
theorem fl_X12_111 : kFL RX12 111 12 88 54 := ⟨RX12, TX12, rfl, by decide, inWX12, tw_1477⟩
theorem tw_1476 : (Jvm.Cond.fieldLink "MarshBellsModel" (108 : Nat) "MarshBellsModel" "told" "[I") ∈ lw_tbl := tk_7 (List.mem_of_getElem? (i := 36) rfl)
theorem fl_X12_108 : kFL RX12 108 12 88 53 := ⟨RX12, TX12, rfl, by decide, inWX12, tw_1476⟩
theorem dX12_reckons_0 : decode cX12_reckons 0 = .ok (.iconst 0, 1) := by decide +kernel
theorem dX12_reckons_1 : decode cX12_reckons 1 = .ok (.istore_n 2, 1) := by decide +kernel
theorem dX12_reckons_2 : decode cX12_reckons 2 = .ok (.iload_n 1, 1) := by decide +kernel
theorem dX12_reckons_3 : decode cX12_reckons 3 = .ok (.istore_n 3, 1) := by decide +kernel
theorem dX12_reckons_4 : decode cX12_reckons 4 = .ok (.aload_n 0, 1) := by decide +kernel
theorem dX12_reckons_5 : decode cX12_reckons 5 = .ok (.getfield 47, 3) := by decide +kernel
theorem dX12_reckons_8 : decode cX12_reckons 8 = .ok (.iload_n 3, 1) := by decide +kernel
theorem dX12_reckons_9 : decode cX12_reckons 9 = .ok (.iaload, 1) := by decide +kernel
theorem dX12_reckons_10 : decode cX12_reckons 10 = .ok (.ifCond .eq 133, 3) := by decide +kernel
theorem dX12_reckons_143 : decode cX12_reckons 143 = .ok (.aload_n 0, 1) := by decide +kernel
theorem dX12_reckons_144 : decode cX12_reckons 144 = .ok (.getfield 111, 3) := by decide +kernel
theorem dX12_reckons_147 : decode cX12_reckons 147 = .ok (.iconst 0, 1) := by decide +kernel
theorem dX12_reckons_148 : decode cX12_reckons 148 = .ok (.iaload, 1) := by decide +kernel
theorem dX12_reckons_149 : decode cX12_reckons 149 = .ok (.ireturn, 1) := by decide +kernel
theorem dX12_reckons_13 : decode cX12_reckons 13 = .ok (.aload_n 0, 1) := by decide +kernel
theorem dX12_reckons_14 : decode cX12_reckons 14 = .ok (.getfield 47, 3) := by decide +kernel
theorem dX12_reckons_17 : decode cX12_reckons 17 = .ok (.iload_n 3, 1) := by decide +kernel
theorem dX12_reckons_18 : decode cX12_reckons 18 = .ok (.iaload, 1) := by decide +kernel
theorem dX12_reckons_19 : decode cX12_reckons 19 = .ok (.istore 4, 2) := by decide +kernel
theorem dX12_reckons_21 : decode cX12_reckons 21 = .ok (.iinc 3 1, 3) := by decide +kernel
theorem dX12_reckons_24 : decode cX12_reckons 24 = .ok (.iload 4, 2) := by decide +kernel
theorem dX12_reckons_26 : decode cX12_reckons 26 = .ok (.iconst 1, 1) := by decide +kernel
theorem dX12_reckons_140 : decode cX12_reckons 140 = .ok (.goto (-136), 3) := by decide +kernel
theorem dX12_reckons_36 : decode cX12_reckons 36 = .ok (.aload_n 0, 1) := by decide +kernel
theorem dX12_reckons_37 : decode cX12_reckons 37 = .ok (.getfield 111, 3) := by decide +kernel
theorem dX12_reckons_40 : decode cX12_reckons 40 = .ok (.iload_n 2, 1) := by decide +kernel
theorem dX12_reckons_41 : decode cX12_reckons 41 = .ok (.iload 4, 2) := by decide +kernel
theorem dX12_reckons_43 : decode cX12_reckons 43 = .ok (.iconst 1, 1) := by decide +kernel
theorem dX12_reckons_67 : decode cX12_reckons 67 = .ok (.iastore, 1) := by decide +kernel
theorem dX12_reckons_68 : decode cX12_reckons 68 = .ok (.iinc 3 1, 3) := by decide +kernel
theorem dX12_reckons_71 : decode cX12_reckons 71 = .ok (.iinc 2 1, 3) := by decide +kernel
theorem dX12_reckons_74 : decode cX12_reckons 74 = .ok (.goto 66, 3) := by decide +kernel
theorem dX12_reckons_44 : decode cX12_reckons 44 = .ok (.if_icmp .ne 12, 3) := by decide +kernel
theorem dX12_reckons_56 : decode cX12_reckons 56 = .ok (.aload_n 0, 1) := by decide +kernel
theorem dX12_reckons_57 : decode cX12_reckons 57 = .ok (.getfield 108, 3) := by decide +kernel
theorem dX12_reckons_60 : decode cX12_reckons 60 = .ok (.aload_n 0, 1) := by decide +kernel
theorem dX12_reckons_61 : decode cX12_reckons 61 = .ok (.getfield 47, 3) := by decide +kernel
theorem dX12_reckons_64 : decode cX12_reckons 64 = .ok (.iload_n 3, 1) := by decide +kernel
theorem dX12_reckons_65 : decode cX12_reckons 65 = .ok (.iaload, 1) := by decide +kernel
theorem dX12_reckons_66 : decode cX12_reckons 66 = .ok (.iaload, 1) := by decide +kernel
theorem dX12_reckons_47 : decode cX12_reckons 47 = .ok (.aload_n 0, 1) := by decide +kernel
theorem dX12_reckons_48 : decode cX12_reckons 48 = .ok (.getfield 47, 3) := by decide +kernel
theorem dX12_reckons_51 : decode cX12_reckons 51 = .ok (.iload_n 3, 1) := by decide +kernel
theorem dX12_reckons_52 : decode cX12_reckons 52 = .ok (.iaload, 1) := by decide +kernel
theorem dX12_reckons_53 : decode cX12_reckons 53 = .ok (.goto 14, 3) := by decide +kernel
theorem dX12_reckons_27 : decode cX12_reckons 27 = .ok (.if_icmp .eq 9, 3) := by decide +kernel
theorem dX12_reckons_30 : decode cX12_reckons 30 = .ok (.iload 4, 2) := by decide +kernel
theorem dX12_reckons_32 : decode cX12_reckons 32 = .ok (.iconst 2, 1) := by decide +kernel
theorem dX12_reckons_33 : decode cX12_reckons 33 = .ok (.if_icmp .ne 44, 3) := by decide +kernel
theorem dX12_reckons_77 : decode cX12_reckons 77 = .ok (.iload 4, 2) := by decide +kernel
theorem dX12_reckons_79 : decode cX12_reckons 79 = .ok (.iconst 3, 1) := by decide +kernel
theorem dX12_reckons_80 : decode cX12_reckons 80 = .ok (.if_icmp .ne 30, 3) := by decide +kernel
theorem dX12_reckons_110 : decode cX12_reckons 110 = .ok (.iinc 2 (-1), 3) := by decide +kernel
theorem dX12_reckons_113 : decode cX12_reckons 113 = .ok (.aload_n 0, 1) := by decide +kernel
theorem dX12_reckons_114 : decode cX12_reckons 114 = .ok (.getfield 111, 3) := by decide +kernel
theorem dX12_reckons_117 : decode cX12_reckons 117 = .ok (.iload_n 2, 1) := by decide +kernel
theorem dX12_reckons_118 : decode cX12_reckons 118 = .ok (.iconst 1, 1) := by decide +kernel
theorem dX12_reckons_119 : decode cX12_reckons 119 = .ok (.isub, 1) := by decide +kernel
theorem dX12_reckons_120 : decode cX12_reckons 120 = .ok (.iload 4, 2) := by decide +kernel
theorem dX12_reckons_122 : decode cX12_reckons 122 = .ok (.aload_n 0, 1) := by decide +kernel
theorem dX12_reckons_123 : decode cX12_reckons 123 = .ok (.getfield 111, 3) := by decide +kernel
theorem dX12_reckons_126 : decode cX12_reckons 126 = .ok (.iload_n 2, 1) := by decide +kernel
theorem dX12_reckons_127 : decode cX12_reckons 127 = .ok (.iconst 1, 1) := by decide +kernel
theorem dX12_reckons_128 : decode cX12_reckons 128 = .ok (.isub, 1) := by decide +kernel
theorem dX12_reckons_129 : decode cX12_reckons 129 = .ok (.iaload, 1) := by decide +kernel
theorem dX12_reckons_130 : decode cX12_reckons 130 = .ok (.aload_n 0, 1) := by decide +kernel
theorem dX12_reckons_131 : decode cX12_reckons 131 = .ok (.getfield 111, 3) := by decide +kernel
theorem dX12_reckons_134 : decode cX12_reckons 134 = .ok (.iload_n 2, 1) := by decide +kernel
theorem dX12_reckons_135 : decode cX12_reckons 135 = .ok (.iaload, 1) := by decide +kernel
theorem tw_1860 : (Jvm.Cond.methodLink "MarshBellsModel" (358 : Nat) ({ cls := "MarshBellsModel", name := "works", desc := "(III)I" } : Jvm.MethodName)) ∈ lw_tbl := tk_8 (List.mem_of_getElem? (i := 180) rfl)
theorem tw_1862 : (Jvm.Cond.code ({ cls := "MarshBellsModel", name := "works", desc := "(III)I" } : Jvm.MethodName) prog_14_method_38_code (3 : Nat) (Option.some Jvm.ClassFile.FieldType.int)) ∈ lw_tbl := tk_8 (List.mem_of_getElem? (i := 182) rfl)
theorem tw_1861 : (Jvm.Cond.static ({ cls := "MarshBellsModel", name := "works", desc := "(III)I" } : Jvm.MethodName)) ∈ lw_tbl := tk_8 (List.mem_of_getElem? (i := 181) rfl)
theorem li_X12_358 : kLS RX12 358 yX12_works cX12_works 3 (some .int) 3 := ⟨tw_1860, tw_1861, tw_1862, tw_13, by decide +kernel⟩
theorem dX12_reckons_136 : decode cX12_reckons 136 = .ok (.invokestatic 358, 3) := by decide +kernel
theorem dX12_reckons_139 : decode cX12_reckons 139 = .ok (.iastore, 1) := by decide +kernel
theorem dX12_reckons_83 : decode cX12_reckons 83 = .ok (.aload_n 0, 1) := by decide +kernel
theorem dX12_reckons_84 : decode cX12_reckons 84 = .ok (.getfield 111, 3) := by decide +kernel
theorem dX12_reckons_87 : decode cX12_reckons 87 = .ok (.iload_n 2, 1) := by decide +kernel
theorem dX12_reckons_88 : decode cX12_reckons 88 = .ok (.iconst 1, 1) := by decide +kernel
theorem dX12_reckons_89 : decode cX12_reckons 89 = .ok (.isub, 1) := by decide +kernel
theorem dX12_reckons_90 : decode cX12_reckons 90 = .ok (.aload_n 0, 1) := by decide +kernel
theorem dX12_reckons_91 : decode cX12_reckons 91 = .ok (.getfield 111, 3) := by decide +kernel
theorem dX12_reckons_94 : decode cX12_reckons 94 = .ok (.iload_n 2, 1) := by decide +kernel
theorem dX12_reckons_95 : decode cX12_reckons 95 = .ok (.iconst 1, 1) := by decide +kernel
theorem dX12_reckons_96 : decode cX12_reckons 96 = .ok (.isub, 1) := by decide +kernel
theorem dX12_reckons_97 : decode cX12_reckons 97 = .ok (.iaload, 1) := by decide +kernel
theorem dX12_reckons_106 : decode cX12_reckons 106 = .ok (.iastore, 1) := by decide +kernel
theorem dX12_reckons_107 : decode cX12_reckons 107 = .ok (.goto 33, 3) := by decide +kernel
theorem dX12_reckons_98 : decode cX12_reckons 98 = .ok (.ifCond .ne 7, 3) := by decide +kernel
theorem dX12_reckons_105 : decode cX12_reckons 105 = .ok (.iconst 0, 1) := by decide +kernel
theorem dX12_reckons_101 : decode cX12_reckons 101 = .ok (.iconst 1, 1) := by decide +kernel
theorem dX12_reckons_102 : decode cX12_reckons 102 = .ok (.goto 4, 3) := by decide +kernel
theorem dX12_off_0 : decode cX12_off 0 = .ok (.iload_n 0, 1) := by decide +kernel
theorem dX12_off_1 : decode cX12_off 1 = .ok (.iload_n 1, 1) := by decide +kernel
theorem dX12_off_14 : decode cX12_off 14 = .ok (.ireturn, 1) := by decide +kernel
theorem dX12_off_2 : decode cX12_off 2 = .ok (.if_icmp .ge 9, 3) := by decide +kernel
theorem dX12_off_11 : decode cX12_off 11 = .ok (.iload_n 0, 1) := by decide +kernel
theorem dX12_off_12 : decode cX12_off 12 = .ok (.iload_n 1, 1) := by decide +kernel
theorem dX12_off_13 : decode cX12_off 13 = .ok (.isub, 1) := by decide +kernel
theorem dX12_off_5 : decode cX12_off 5 = .ok (.iload_n 1, 1) := by decide +kernel
theorem dX12_off_6 : decode cX12_off 6 = .ok (.iload_n 0, 1) := by decide +kernel
theorem dX12_off_7 : decode cX12_off 7 = .ok (.isub, 1) := by decide +kernel
theorem dX12_off_8 : decode cX12_off 8 = .ok (.goto 6, 3) := by decide +kernel
theorem dX12_isStair_0 : decode cX12_isStair 0 = .ok (.iload_n 0, 1) := by decide +kernel
theorem dX12_isStair_1 : decode cX12_isStair 1 = .ok (.iconst 5, 1) := by decide +kernel
theorem dX12_isStair_10 : decode cX12_isStair 10 = .ok (.iload_n 1, 1) := by decide +kernel
theorem dX12_isStair_11 : decode cX12_isStair 11 = .ok (.iconst 5, 1) := by decide +kernel
theorem dX12_isStair_28 : decode cX12_isStair 28 = .ok (.ireturn, 1) := by decide +kernel
theorem dX12_isStair_20 : decode cX12_isStair 20 = .ok (.if_icmp .eq 7, 3) := by decide +kernel
theorem dX12_isStair_27 : decode cX12_isStair 27 = .ok (.iconst 0, 1) := by decide +kernel
theorem dX12_isStair_23 : decode cX12_isStair 23 = .ok (.iconst 1, 1) := by decide +kernel
theorem dX12_isStair_24 : decode cX12_isStair 24 = .ok (.goto 4, 3) := by decide +kernel
theorem dX12_isStair_12 : decode cX12_isStair 12 = .ok (.if_icmp .ge 7, 3) := by decide +kernel
theorem dX12_isStair_19 : decode cX12_isStair 19 = .ok (.iconst 0, 1) := by decide +kernel
theorem dX12_isStair_15 : decode cX12_isStair 15 = .ok (.iconst 1, 1) := by decide +kernel
theorem dX12_isStair_16 : decode cX12_isStair 16 = .ok (.goto 4, 3) := by decide +kernel
theorem dX12_isStair_2 : decode cX12_isStair 2 = .ok (.if_icmp .ge 7, 3) := by decide +kernel
theorem dX12_isStair_9 : decode cX12_isStair 9 = .ok (.iconst 0, 1) := by decide +kernel
theorem dX12_isStair_5 : decode cX12_isStair 5 = .ok (.iconst 1, 1) := by decide +kernel
theorem dX12_isStair_6 : decode cX12_isStair 6 = .ok (.goto 4, 3) := by decide +kernel
theorem dX12_way_0 : decode cX12_way 0 = .ok (.aload_n 0, 1) := by decide +kernel
theorem dX12_way_1 : decode cX12_way 1 = .ok (.getfield 50, 3) := by decide +kernel
theorem dX12_way_4 : decode cX12_way 4 = .ok (.bipush 24, 2) := by decide +kernel
theorem dX12_way_6 : decode cX12_way 6 = .ok (.iload_n 1, 1) := by decide +kernel
theorem dX12_way_7 : decode cX12_way 7 = .ok (.iadd, 1) := by decide +kernel
theorem dX12_way_8 : decode cX12_way 8 = .ok (.iaload, 1) := by decide +kernel
theorem dX12_way_9 : decode cX12_way 9 = .ok (.istore_n 3, 1) := by decide +kernel
theorem dX12_way_10 : decode cX12_way 10 = .ok (.aload_n 0, 1) := by decide +kernel
theorem dX12_way_11 : decode cX12_way 11 = .ok (.getfield 50, 3) := by decide +kernel
theorem dX12_way_14 : decode cX12_way 14 = .ok (.bipush 24, 2) := by decide +kernel
theorem dX12_way_16 : decode cX12_way 16 = .ok (.iload_n 2, 1) := by decide +kernel
theorem dX12_way_17 : decode cX12_way 17 = .ok (.iadd, 1) := by decide +kernel
theorem dX12_way_18 : decode cX12_way 18 = .ok (.iaload, 1) := by decide +kernel
theorem dX12_way_19 : decode cX12_way 19 = .ok (.istore 4, 2) := by decide +kernel
theorem dX12_way_21 : decode cX12_way 21 = .ok (.aload_n 0, 1) := by decide +kernel
theorem dX12_way_22 : decode cX12_way 22 = .ok (.getfield 7, 3) := by decide +kernel
theorem dX12_way_25 : decode cX12_way 25 = .ok (.iload_n 3, 1) := by decide +kernel
theorem dX12_way_26 : decode cX12_way 26 = .ok (.iload 4, 2) := by decide +kernel
theorem tw_1846 : (Jvm.Cond.methodLink "MarshBellsModel" (361 : Nat) ({ cls := "MarshBellsModel", name := "off", desc := "(II)I" } : Jvm.MethodName)) ∈ lw_tbl := tk_8 (List.mem_of_getElem? (i := 166) rfl)
theorem tw_1848 : (Jvm.Cond.code ({ cls := "MarshBellsModel", name := "off", desc := "(II)I" } : Jvm.MethodName) prog_14_method_5_code (2 : Nat) (Option.some Jvm.ClassFile.FieldType.int)) ∈ lw_tbl := tk_8 (List.mem_of_getElem? (i := 168) rfl)
theorem tw_1847 : (Jvm.Cond.static ({ cls := "MarshBellsModel", name := "off", desc := "(II)I" } : Jvm.MethodName)) ∈ lw_tbl := tk_8 (List.mem_of_getElem? (i := 167) rfl)
theorem li_X12_361 : kLS RX12 361 yX12_off cX12_off 2 (some .int) 2 := ⟨tw_1846, tw_1847, tw_1848, tw_13, by decide +kernel⟩
theorem dX12_way_28 : decode cX12_way 28 = .ok (.invokestatic 361, 3) := by decide +kernel
theorem dX12_way_31 : decode cX12_way 31 = .ok (.imul, 1) := by decide +kernel
theorem dX12_way_32 : decode cX12_way 32 = .ok (.iload_n 3, 1) := by decide +kernel
theorem dX12_way_33 : decode cX12_way 33 = .ok (.iload 4, 2) := by decide +kernel
theorem tw_1849 : (Jvm.Cond.methodLink "MarshBellsModel" (364 : Nat) ({ cls := "MarshBellsModel", name := "isStair", desc := "(II)Z" } : Jvm.MethodName)) ∈ lw_tbl := tk_8 (List.mem_of_getElem? (i := 169) rfl)
theorem tw_1851 : (Jvm.Cond.code ({ cls := "MarshBellsModel", name := "isStair", desc := "(II)Z" } : Jvm.MethodName) prog_14_method_41_code (2 : Nat) (Option.some Jvm.ClassFile.FieldType.boolean)) ∈ lw_tbl := tk_8 (List.mem_of_getElem? (i := 171) rfl)
theorem tw_1850 : (Jvm.Cond.static ({ cls := "MarshBellsModel", name := "isStair", desc := "(II)Z" } : Jvm.MethodName)) ∈ lw_tbl := tk_8 (List.mem_of_getElem? (i := 170) rfl)
theorem li_X12_364 : kLS RX12 364 yX12_isStair cX12_isStair 2 (some .boolean) 2 := ⟨tw_1849, tw_1850, tw_1851, tw_13, by decide +kernel⟩
theorem dX12_way_35 : decode cX12_way 35 = .ok (.invokestatic 364, 3) := by decide +kernel
theorem dX12_way_63 : decode cX12_way 63 = .ok (.iadd, 1) := by decide +kernel
theorem dX12_way_64 : decode cX12_way 64 = .ok (.ireturn, 1) := by decide +kernel
theorem dX12_way_38 : decode cX12_way 38 = .ok (.ifCond .eq 24, 3) := by decide +kernel
theorem dX12_way_62 : decode cX12_way 62 = .ok (.iconst 0, 1) := by decide +kernel
theorem dX12_way_41 : decode cX12_way 41 = .ok (.aload_n 0, 1) := by decide +kernel
theorem dX12_way_42 : decode cX12_way 42 = .ok (.getfield 26, 3) := by decide +kernel
theorem dX12_way_45 : decode cX12_way 45 = .ok (.iload_n 1, 1) := by decide +kernel
theorem dX12_way_46 : decode cX12_way 46 = .ok (.iaload, 1) := by decide +kernel
theorem dX12_way_47 : decode cX12_way 47 = .ok (.aload_n 0, 1) := by decide +kernel
theorem dX12_way_48 : decode cX12_way 48 = .ok (.getfield 13, 3) := by decide +kernel
theorem dX12_way_51 : decode cX12_way 51 = .ok (.iadd, 1) := by decide +kernel
theorem dX12_way_52 : decode cX12_way 52 = .ok (.iconst 1, 1) := by decide +kernel
theorem dX12_way_53 : decode cX12_way 53 = .ok (.isub, 1) := by decide +kernel
theorem dX12_way_54 : decode cX12_way 54 = .ok (.aload_n 0, 1) := by decide +kernel
theorem dX12_way_55 : decode cX12_way 55 = .ok (.getfield 13, 3) := by decide +kernel
theorem dX12_way_58 : decode cX12_way 58 = .ok (.idiv, 1) := by decide +kernel
theorem dX12_way_59 : decode cX12_way 59 = .ok (.goto 4, 3) := by decide +kernel
theorem tw_1479 : (Jvm.Cond.fieldLink "MarshBellsModel" (117 : Nat) "MarshBellsModel" "ends" "[I") ∈ lw_tbl := tk_7 (List.mem_of_getElem? (i := 39) rfl)
theorem fl_X12_117 : kFL RX12 117 12 88 56 := ⟨RX12, TX12, rfl, by decide, inWX12, tw_1479⟩
theorem dX12_comes_0 : decode cX12_comes 0 = .ok (.aload_n 0, 1) := by decide +kernel
theorem dX12_comes_1 : decode cX12_comes 1 = .ok (.getfield 117, 3) := by decide +kernel
theorem dX12_comes_4 : decode cX12_comes 4 = .ok (.iload_n 1, 1) := by decide +kernel
theorem dX12_comes_5 : decode cX12_comes 5 = .ok (.iaload, 1) := by decide +kernel
theorem dX12_comes_6 : decode cX12_comes 6 = .ok (.aload_n 0, 1) := by decide +kernel
theorem dX12_comes_7 : decode cX12_comes 7 = .ok (.iload_n 1, 1) := by decide +kernel
theorem dX12_comes_8 : decode cX12_comes 8 = .ok (.iload_n 2, 1) := by decide +kernel
theorem tw_1842 : (Jvm.Cond.methodLink "MarshBellsModel" (368 : Nat) ({ cls := "MarshBellsModel", name := "way", desc := "(II)I" } : Jvm.MethodName)) ∈ lw_tbl := tk_8 (List.mem_of_getElem? (i := 162) rfl)
theorem tw_1845 : (Jvm.Cond.code ({ cls := "MarshBellsModel", name := "way", desc := "(II)I" } : Jvm.MethodName) prog_14_method_40_code (5 : Nat) (Option.some Jvm.ClassFile.FieldType.int)) ∈ lw_tbl := tk_8 (List.mem_of_getElem? (i := 165) rfl)
theorem tw_1844 : (Jvm.Cond.instanceMethod ({ cls := "MarshBellsModel", name := "way", desc := "(II)I" } : Jvm.MethodName)) ∈ lw_tbl := tk_8 (List.mem_of_getElem? (i := 164) rfl)
theorem se_X12_way : Cond.selects RX12 yX12_way yX12_way ∈ lw_tbl := List.mem_append_left _ (List.mem_of_getElem? (i := 136) rfl)
theorem li_X12_368 : kLV RX12 368 RX12 yX12_way cX12_way 5 (some .int) 2 := ⟨tw_1842, tw_1844, se_X12_way, tw_1845, tw_13, by decide +kernel⟩
theorem dX12_comes_9 : decode cX12_comes 9 = .ok (.invokevirtual 368, 3) := by decide +kernel
theorem dX12_comes_12 : decode cX12_comes 12 = .ok (.iadd, 1) := by decide +kernel
theorem dX12_comes_13 : decode cX12_comes 13 = .ok (.aload_n 0, 1) := by decide +kernel
theorem dX12_comes_14 : decode cX12_comes 14 = .ok (.getfield 50, 3) := by decide +kernel
theorem dX12_comes_17 : decode cX12_comes 17 = .ok (.bipush 12, 2) := by decide +kernel
theorem dX12_comes_19 : decode cX12_comes 19 = .ok (.iload_n 2, 1) := by decide +kernel
theorem dX12_comes_20 : decode cX12_comes 20 = .ok (.iadd, 1) := by decide +kernel
theorem dX12_comes_21 : decode cX12_comes 21 = .ok (.iaload, 1) := by decide +kernel
theorem dX12_comes_22 : decode cX12_comes 22 = .ok (.isub, 1) := by decide +kernel
theorem dX12_comes_23 : decode cX12_comes 23 = .ok (.ireturn, 1) := by decide +kernel
theorem tw_1482 : (Jvm.Cond.fieldLink "MarshBellsModel" (126 : Nat) "MarshBellsModel" "coming" "[I") ∈ lw_tbl := tk_7 (List.mem_of_getElem? (i := 42) rfl)
theorem fl_X12_126 : kFL RX12 126 12 88 59 := ⟨RX12, TX12, rfl, by decide, inWX12, tw_1482⟩
theorem dX12_thereBy_0 : decode cX12_thereBy 0 = .ok (.aload_n 0, 1) := by decide +kernel
theorem dX12_thereBy_1 : decode cX12_thereBy 1 = .ok (.getfield 38, 3) := by decide +kernel
theorem dX12_thereBy_4 : decode cX12_thereBy 4 = .ok (.iload_n 1, 1) := by decide +kernel
theorem dX12_thereBy_5 : decode cX12_thereBy 5 = .ok (.iaload, 1) := by decide +kernel
theorem dX12_thereBy_6 : decode cX12_thereBy 6 = .ok (.istore_n 3, 1) := by decide +kernel
theorem dX12_thereBy_7 : decode cX12_thereBy 7 = .ok (.iconst 0, 1) := by decide +kernel
theorem dX12_thereBy_8 : decode cX12_thereBy 8 = .ok (.istore 4, 2) := by decide +kernel
theorem dX12_thereBy_10 : decode cX12_thereBy 10 = .ok (.iload 4, 2) := by decide +kernel
theorem dX12_thereBy_12 : decode cX12_thereBy 12 = .ok (.iload_n 3, 1) := by decide +kernel
theorem dX12_thereBy_13 : decode cX12_thereBy 13 = .ok (.if_icmp .ge 82, 3) := by decide +kernel
theorem dX12_thereBy_95 : decode cX12_thereBy 95 = .ok (.aload_n 0, 1) := by decide +kernel
theorem dX12_thereBy_96 : decode cX12_thereBy 96 = .ok (.getfield 126, 3) := by decide +kernel
theorem dX12_thereBy_99 : decode cX12_thereBy 99 = .ok (.iload_n 2, 1) := by decide +kernel
theorem dX12_thereBy_100 : decode cX12_thereBy 100 = .ok (.iconst 1, 1) := by decide +kernel
theorem dX12_thereBy_101 : decode cX12_thereBy 101 = .ok (.isub, 1) := by decide +kernel
theorem dX12_thereBy_102 : decode cX12_thereBy 102 = .ok (.iaload, 1) := by decide +kernel
theorem dX12_thereBy_103 : decode cX12_thereBy 103 = .ok (.ireturn, 1) := by decide +kernel
theorem dX12_thereBy_16 : decode cX12_thereBy 16 = .ok (.aload_n 0, 1) := by decide +kernel
theorem dX12_thereBy_17 : decode cX12_thereBy 17 = .ok (.aload_n 0, 1) := by decide +kernel
theorem dX12_thereBy_18 : decode cX12_thereBy 18 = .ok (.getfield 41, 3) := by decide +kernel
theorem dX12_thereBy_21 : decode cX12_thereBy 21 = .ok (.bipush 6, 2) := by decide +kernel
theorem dX12_thereBy_23 : decode cX12_thereBy 23 = .ok (.iload_n 1, 1) := by decide +kernel
theorem dX12_thereBy_24 : decode cX12_thereBy 24 = .ok (.imul, 1) := by decide +kernel
theorem dX12_thereBy_25 : decode cX12_thereBy 25 = .ok (.iload 4, 2) := by decide +kernel
theorem dX12_thereBy_27 : decode cX12_thereBy 27 = .ok (.iadd, 1) := by decide +kernel
theorem dX12_thereBy_28 : decode cX12_thereBy 28 = .ok (.iaload, 1) := by decide +kernel
theorem dX12_thereBy_29 : decode cX12_thereBy 29 = .ok (.iload_n 1, 1) := by decide +kernel
theorem tw_1838 : (Jvm.Cond.methodLink "MarshBellsModel" (371 : Nat) ({ cls := "MarshBellsModel", name := "comes", desc := "(II)I" } : Jvm.MethodName)) ∈ lw_tbl := tk_8 (List.mem_of_getElem? (i := 158) rfl)
theorem tw_1841 : (Jvm.Cond.code ({ cls := "MarshBellsModel", name := "comes", desc := "(II)I" } : Jvm.MethodName) prog_14_method_42_code (3 : Nat) (Option.some Jvm.ClassFile.FieldType.int)) ∈ lw_tbl := tk_8 (List.mem_of_getElem? (i := 161) rfl)
theorem tw_1840 : (Jvm.Cond.instanceMethod ({ cls := "MarshBellsModel", name := "comes", desc := "(II)I" } : Jvm.MethodName)) ∈ lw_tbl := tk_8 (List.mem_of_getElem? (i := 160) rfl)
theorem se_X12_comes : Cond.selects RX12 yX12_comes yX12_comes ∈ lw_tbl := List.mem_append_left _ (List.mem_of_getElem? (i := 135) rfl)
theorem li_X12_371 : kLV RX12 371 RX12 yX12_comes cX12_comes 3 (some .int) 2 := ⟨tw_1838, tw_1840, se_X12_comes, tw_1841, tw_13, by decide +kernel⟩
theorem dX12_thereBy_30 : decode cX12_thereBy 30 = .ok (.invokevirtual 371, 3) := by decide +kernel
theorem dX12_thereBy_33 : decode cX12_thereBy 33 = .ok (.istore 5, 2) := by decide +kernel
theorem dX12_thereBy_35 : decode cX12_thereBy 35 = .ok (.iload 4, 2) := by decide +kernel
theorem dX12_thereBy_37 : decode cX12_thereBy 37 = .ok (.istore 6, 2) := by decide +kernel
theorem dX12_thereBy_39 : decode cX12_thereBy 39 = .ok (.iload 6, 2) := by decide +kernel
theorem dX12_thereBy_80 : decode cX12_thereBy 80 = .ok (.aload_n 0, 1) := by decide +kernel
theorem dX12_thereBy_81 : decode cX12_thereBy 81 = .ok (.getfield 126, 3) := by decide +kernel
theorem dX12_thereBy_84 : decode cX12_thereBy 84 = .ok (.iload 6, 2) := by decide +kernel
theorem dX12_thereBy_86 : decode cX12_thereBy 86 = .ok (.iload 5, 2) := by decide +kernel
theorem dX12_thereBy_88 : decode cX12_thereBy 88 = .ok (.iastore, 1) := by decide +kernel
theorem dX12_thereBy_89 : decode cX12_thereBy 89 = .ok (.iinc 4 1, 3) := by decide +kernel
theorem dX12_thereBy_92 : decode cX12_thereBy 92 = .ok (.goto (-82), 3) := by decide +kernel
theorem dX12_thereBy_41 : decode cX12_thereBy 41 = .ok (.ifCond .le 39, 3) := by decide +kernel
theorem dX12_thereBy_44 : decode cX12_thereBy 44 = .ok (.aload_n 0, 1) := by decide +kernel
theorem dX12_thereBy_45 : decode cX12_thereBy 45 = .ok (.getfield 126, 3) := by decide +kernel
theorem dX12_thereBy_48 : decode cX12_thereBy 48 = .ok (.iload 6, 2) := by decide +kernel
theorem dX12_thereBy_50 : decode cX12_thereBy 50 = .ok (.iconst 1, 1) := by decide +kernel
theorem dX12_thereBy_51 : decode cX12_thereBy 51 = .ok (.isub, 1) := by decide +kernel
theorem dX12_thereBy_52 : decode cX12_thereBy 52 = .ok (.iaload, 1) := by decide +kernel
theorem dX12_thereBy_53 : decode cX12_thereBy 53 = .ok (.iload 5, 2) := by decide +kernel
theorem dX12_thereBy_55 : decode cX12_thereBy 55 = .ok (.if_icmp .le 25, 3) := by decide +kernel
theorem dX12_thereBy_58 : decode cX12_thereBy 58 = .ok (.aload_n 0, 1) := by decide +kernel
theorem dX12_thereBy_59 : decode cX12_thereBy 59 = .ok (.getfield 126, 3) := by decide +kernel
theorem dX12_thereBy_62 : decode cX12_thereBy 62 = .ok (.iload 6, 2) := by decide +kernel
theorem dX12_thereBy_64 : decode cX12_thereBy 64 = .ok (.aload_n 0, 1) := by decide +kernel
theorem dX12_thereBy_65 : decode cX12_thereBy 65 = .ok (.getfield 126, 3) := by decide +kernel
theorem dX12_thereBy_68 : decode cX12_thereBy 68 = .ok (.iload 6, 2) := by decide +kernel
theorem dX12_thereBy_70 : decode cX12_thereBy 70 = .ok (.iconst 1, 1) := by decide +kernel
theorem dX12_thereBy_71 : decode cX12_thereBy 71 = .ok (.isub, 1) := by decide +kernel
theorem dX12_thereBy_72 : decode cX12_thereBy 72 = .ok (.iaload, 1) := by decide +kernel
theorem dX12_thereBy_73 : decode cX12_thereBy 73 = .ok (.iastore, 1) := by decide +kernel
theorem dX12_thereBy_74 : decode cX12_thereBy 74 = .ok (.iinc 6 (-1), 3) := by decide +kernel
theorem dX12_thereBy_77 : decode cX12_thereBy 77 = .ok (.goto (-38), 3) := by decide +kernel
theorem tw_1483 : (Jvm.Cond.fieldLink "MarshBellsModel" (374 : Nat) "MarshBellsModel" "still" "I") ∈ lw_tbl := tk_7 (List.mem_of_getElem? (i := 43) rfl)
theorem fl_X12_374 : kFL RX12 374 12 88 60 := ⟨RX12, TX12, rfl, by decide, inWX12, tw_1483⟩
theorem tw_1484 : (Jvm.Cond.fieldLink "MarshBellsModel" (129 : Nat) "MarshBellsModel" "great" "I") ∈ lw_tbl := tk_7 (List.mem_of_getElem? (i := 44) rfl)
theorem fl_X12_129 : kFL RX12 129 12 88 61 := ⟨RX12, TX12, rfl, by decide, inWX12, tw_1484⟩
theorem tw_1478 : (Jvm.Cond.fieldLink "MarshBellsModel" (114 : Nat) "MarshBellsModel" "begins" "[I") ∈ lw_tbl := tk_7 (List.mem_of_getElem? (i := 38) rfl)
theorem fl_X12_114 : kFL RX12 114 12 88 55 := ⟨RX12, TX12, rfl, by decide, inWX12, tw_1478⟩
theorem dX12_runsOver_0 : decode cX12_runsOver 0 = .ok (.aload_n 0, 1) := by decide +kernel
theorem dX12_runsOver_1 : decode cX12_runsOver 1 = .ok (.getfield 374, 3) := by decide +kernel
theorem dX12_runsOver_4 : decode cX12_runsOver 4 = .ok (.iload_n 1, 1) := by decide +kernel
theorem dX12_runsOver_5 : decode cX12_runsOver 5 = .ok (.ishr, 1) := by decide +kernel
theorem dX12_runsOver_6 : decode cX12_runsOver 6 = .ok (.iconst 1, 1) := by decide +kernel
theorem dX12_runsOver_7 : decode cX12_runsOver 7 = .ok (.iand, 1) := by decide +kernel
theorem dX12_runsOver_8 : decode cX12_runsOver 8 = .ok (.iconst 1, 1) := by decide +kernel
theorem dX12_runsOver_9 : decode cX12_runsOver 9 = .ok (.if_icmp .ne 5, 3) := by decide +kernel
theorem dX12_runsOver_14 : decode cX12_runsOver 14 = .ok (.aload_n 0, 1) := by decide +kernel
theorem dX12_runsOver_15 : decode cX12_runsOver 15 = .ok (.getfield 50, 3) := by decide +kernel
theorem dX12_runsOver_18 : decode cX12_runsOver 18 = .ok (.iconst 0, 1) := by decide +kernel
theorem dX12_runsOver_19 : decode cX12_runsOver 19 = .ok (.iload_n 1, 1) := by decide +kernel
theorem dX12_runsOver_20 : decode cX12_runsOver 20 = .ok (.iadd, 1) := by decide +kernel
theorem dX12_runsOver_21 : decode cX12_runsOver 21 = .ok (.iaload, 1) := by decide +kernel
theorem dX12_runsOver_22 : decode cX12_runsOver 22 = .ok (.istore_n 2, 1) := by decide +kernel
theorem dX12_runsOver_23 : decode cX12_runsOver 23 = .ok (.aload_n 0, 1) := by decide +kernel
theorem dX12_runsOver_24 : decode cX12_runsOver 24 = .ok (.getfield 105, 3) := by decide +kernel
theorem dX12_runsOver_27 : decode cX12_runsOver 27 = .ok (.iconst (-1), 1) := by decide +kernel
theorem dX12_runsOver_117 : decode cX12_runsOver 117 = .ok (.aload_n 0, 1) := by decide +kernel
theorem dX12_runsOver_118 : decode cX12_runsOver 118 = .ok (.getfield 129, 3) := by decide +kernel
theorem dX12_runsOver_121 : decode cX12_runsOver 121 = .ok (.iload_n 1, 1) := by decide +kernel
theorem dX12_runsOver_133 : decode cX12_runsOver 133 = .ok (.istore_n 3, 1) := by decide +kernel
theorem dX12_runsOver_134 : decode cX12_runsOver 134 = .ok (.iload_n 2, 1) := by decide +kernel
theorem dX12_runsOver_152 : decode cX12_runsOver 152 = .ok (.ireturn, 1) := by decide +kernel
theorem dX12_runsOver_135 : decode cX12_runsOver 135 = .ok (.ifCond .ge 7, 3) := by decide +kernel
theorem dX12_runsOver_142 : decode cX12_runsOver 142 = .ok (.iload_n 2, 1) := by decide +kernel
theorem dX12_runsOver_143 : decode cX12_runsOver 143 = .ok (.iload_n 3, 1) := by decide +kernel
theorem dX12_runsOver_144 : decode cX12_runsOver 144 = .ok (.if_icmp .le 7, 3) := by decide +kernel
theorem dX12_runsOver_151 : decode cX12_runsOver 151 = .ok (.iload_n 2, 1) := by decide +kernel
theorem dX12_runsOver_147 : decode cX12_runsOver 147 = .ok (.iload_n 3, 1) := by decide +kernel
theorem dX12_runsOver_148 : decode cX12_runsOver 148 = .ok (.goto 4, 3) := by decide +kernel
theorem dX12_runsOver_138 : decode cX12_runsOver 138 = .ok (.iconst 0, 1) := by decide +kernel
theorem dX12_runsOver_139 : decode cX12_runsOver 139 = .ok (.goto 13, 3) := by decide +kernel
theorem dX12_runsOver_122 : decode cX12_runsOver 122 = .ok (.if_icmp .ne 9, 3) := by decide +kernel
theorem dX12_runsOver_131 : decode cX12_runsOver 131 = .ok (.bipush 60, 2) := by decide +kernel
theorem dX12_runsOver_125 : decode cX12_runsOver 125 = .ok (.sipush 180, 3) := by decide +kernel
theorem dX12_runsOver_128 : decode cX12_runsOver 128 = .ok (.goto 5, 3) := by decide +kernel
theorem dX12_runsOver_28 : decode cX12_runsOver 28 = .ok (.if_icmp .eq 89, 3) := by decide +kernel
theorem dX12_runsOver_31 : decode cX12_runsOver 31 = .ok (.aload_n 0, 1) := by decide +kernel
theorem dX12_runsOver_32 : decode cX12_runsOver 32 = .ok (.getfield 108, 3) := by decide +kernel
theorem dX12_runsOver_35 : decode cX12_runsOver 35 = .ok (.iconst 0, 1) := by decide +kernel
theorem dX12_runsOver_36 : decode cX12_runsOver 36 = .ok (.iload_n 2, 1) := by decide +kernel
theorem dX12_runsOver_37 : decode cX12_runsOver 37 = .ok (.iastore, 1) := by decide +kernel
theorem dX12_runsOver_38 : decode cX12_runsOver 38 = .ok (.aload_n 0, 1) := by decide +kernel
theorem dX12_runsOver_39 : decode cX12_runsOver 39 = .ok (.getfield 108, 3) := by decide +kernel
theorem dX12_runsOver_42 : decode cX12_runsOver 42 = .ok (.iconst 1, 1) := by decide +kernel
theorem dX12_runsOver_43 : decode cX12_runsOver 43 = .ok (.aload_n 0, 1) := by decide +kernel
theorem dX12_runsOver_44 : decode cX12_runsOver 44 = .ok (.getfield 114, 3) := by decide +kernel
theorem dX12_runsOver_47 : decode cX12_runsOver 47 = .ok (.iload_n 1, 1) := by decide +kernel
theorem dX12_runsOver_48 : decode cX12_runsOver 48 = .ok (.iaload, 1) := by decide +kernel
theorem dX12_runsOver_49 : decode cX12_runsOver 49 = .ok (.aload_n 0, 1) := by decide +kernel
theorem dX12_runsOver_50 : decode cX12_runsOver 50 = .ok (.getfield 16, 3) := by decide +kernel
theorem dX12_runsOver_53 : decode cX12_runsOver 53 = .ok (.iload_n 1, 1) := by decide +kernel
theorem dX12_runsOver_54 : decode cX12_runsOver 54 = .ok (.iaload, 1) := by decide +kernel
theorem dX12_runsOver_55 : decode cX12_runsOver 55 = .ok (.isub, 1) := by decide +kernel
theorem dX12_runsOver_56 : decode cX12_runsOver 56 = .ok (.iastore, 1) := by decide +kernel
theorem dX12_runsOver_57 : decode cX12_runsOver 57 = .ok (.aload_n 0, 1) := by decide +kernel
theorem dX12_runsOver_58 : decode cX12_runsOver 58 = .ok (.getfield 108, 3) := by decide +kernel
theorem dX12_runsOver_61 : decode cX12_runsOver 61 = .ok (.iconst 2, 1) := by decide +kernel
theorem dX12_runsOver_62 : decode cX12_runsOver 62 = .ok (.aload_n 0, 1) := by decide +kernel
theorem dX12_runsOver_63 : decode cX12_runsOver 63 = .ok (.getfield 114, 3) := by decide +kernel
theorem dX12_runsOver_66 : decode cX12_runsOver 66 = .ok (.iload_n 1, 1) := by decide +kernel
theorem dX12_runsOver_67 : decode cX12_runsOver 67 = .ok (.iaload, 1) := by decide +kernel
theorem dX12_runsOver_68 : decode cX12_runsOver 68 = .ok (.iastore, 1) := by decide +kernel
theorem dX12_runsOver_69 : decode cX12_runsOver 69 = .ok (.aload_n 0, 1) := by decide +kernel
theorem dX12_runsOver_70 : decode cX12_runsOver 70 = .ok (.getfield 108, 3) := by decide +kernel
theorem dX12_runsOver_73 : decode cX12_runsOver 73 = .ok (.iconst 3, 1) := by decide +kernel
theorem dX12_runsOver_74 : decode cX12_runsOver 74 = .ok (.aload_n 0, 1) := by decide +kernel
theorem dX12_runsOver_75 : decode cX12_runsOver 75 = .ok (.getfield 50, 3) := by decide +kernel
theorem dX12_runsOver_78 : decode cX12_runsOver 78 = .ok (.bipush 24, 2) := by decide +kernel
theorem dX12_runsOver_80 : decode cX12_runsOver 80 = .ok (.iload_n 1, 1) := by decide +kernel
theorem dX12_runsOver_81 : decode cX12_runsOver 81 = .ok (.iadd, 1) := by decide +kernel
theorem dX12_runsOver_82 : decode cX12_runsOver 82 = .ok (.iaload, 1) := by decide +kernel
theorem dX12_runsOver_83 : decode cX12_runsOver 83 = .ok (.iastore, 1) := by decide +kernel
theorem dX12_runsOver_84 : decode cX12_runsOver 84 = .ok (.aload_n 0, 1) := by decide +kernel
theorem dX12_runsOver_85 : decode cX12_runsOver 85 = .ok (.getfield 108, 3) := by decide +kernel
theorem dX12_runsOver_88 : decode cX12_runsOver 88 = .ok (.iconst 4, 1) := by decide +kernel
theorem dX12_runsOver_89 : decode cX12_runsOver 89 = .ok (.aload_n 0, 1) := by decide +kernel
theorem dX12_runsOver_90 : decode cX12_runsOver 90 = .ok (.getfield 26, 3) := by decide +kernel
theorem dX12_runsOver_93 : decode cX12_runsOver 93 = .ok (.iload_n 1, 1) := by decide +kernel
theorem dX12_runsOver_94 : decode cX12_runsOver 94 = .ok (.iaload, 1) := by decide +kernel
theorem dX12_runsOver_95 : decode cX12_runsOver 95 = .ok (.iastore, 1) := by decide +kernel
theorem dX12_runsOver_96 : decode cX12_runsOver 96 = .ok (.aload_n 0, 1) := by decide +kernel
theorem dX12_runsOver_97 : decode cX12_runsOver 97 = .ok (.getfield 108, 3) := by decide +kernel
theorem dX12_runsOver_100 : decode cX12_runsOver 100 = .ok (.iconst 5, 1) := by decide +kernel
theorem dX12_runsOver_101 : decode cX12_runsOver 101 = .ok (.iload_n 1, 1) := by decide +kernel
theorem dX12_runsOver_102 : decode cX12_runsOver 102 = .ok (.iastore, 1) := by decide +kernel
theorem dX12_runsOver_103 : decode cX12_runsOver 103 = .ok (.aload_n 0, 1) := by decide +kernel
theorem dX12_runsOver_104 : decode cX12_runsOver 104 = .ok (.aload_n 0, 1) := by decide +kernel
theorem dX12_runsOver_105 : decode cX12_runsOver 105 = .ok (.getfield 44, 3) := by decide +kernel
theorem dX12_runsOver_108 : decode cX12_runsOver 108 = .ok (.aload_n 0, 1) := by decide +kernel
theorem dX12_runsOver_109 : decode cX12_runsOver 109 = .ok (.getfield 105, 3) := by decide +kernel
theorem dX12_runsOver_112 : decode cX12_runsOver 112 = .ok (.iaload, 1) := by decide +kernel
theorem tw_1856 : (Jvm.Cond.methodLink "MarshBellsModel" (377 : Nat) ({ cls := "MarshBellsModel", name := "reckons", desc := "(I)I" } : Jvm.MethodName)) ∈ lw_tbl := tk_8 (List.mem_of_getElem? (i := 176) rfl)
theorem tw_1859 : (Jvm.Cond.code ({ cls := "MarshBellsModel", name := "reckons", desc := "(I)I" } : Jvm.MethodName) prog_14_method_39_code (5 : Nat) (Option.some Jvm.ClassFile.FieldType.int)) ∈ lw_tbl := tk_8 (List.mem_of_getElem? (i := 179) rfl)
theorem tw_1858 : (Jvm.Cond.instanceMethod ({ cls := "MarshBellsModel", name := "reckons", desc := "(I)I" } : Jvm.MethodName)) ∈ lw_tbl := tk_8 (List.mem_of_getElem? (i := 178) rfl)
theorem se_X12_reckons : Cond.selects RX12 yX12_reckons yX12_reckons ∈ lw_tbl := List.mem_append_left _ (List.mem_of_getElem? (i := 138) rfl)
theorem li_X12_377 : kLV RX12 377 RX12 yX12_reckons cX12_reckons 5 (some .int) 1 := ⟨tw_1856, tw_1858, se_X12_reckons, tw_1859, tw_13, by decide +kernel⟩
theorem dX12_runsOver_113 : decode cX12_runsOver 113 = .ok (.invokevirtual 377, 3) := by decide +kernel
theorem dX12_runsOver_116 : decode cX12_runsOver 116 = .ok (.istore_n 2, 1) := by decide +kernel
theorem dX12_runsOver_12 : decode cX12_runsOver 12 = .ok (.iconst 0, 1) := by decide +kernel
theorem dX12_runsOver_13 : decode cX12_runsOver 13 = .ok (.ireturn, 1) := by decide +kernel
theorem tw_1481 : (Jvm.Cond.fieldLink "MarshBellsModel" (123 : Nat) "MarshBellsModel" "byWhom" "[I") ∈ lw_tbl := tk_7 (List.mem_of_getElem? (i := 41) rfl)
theorem fl_X12_123 : kFL RX12 123 12 88 58 := ⟨RX12, TX12, rfl, by decide, inWX12, tw_1481⟩
theorem tw_1480 : (Jvm.Cond.fieldLink "MarshBellsModel" (120 : Nat) "MarshBellsModel" "runs" "[I") ∈ lw_tbl := tk_7 (List.mem_of_getElem? (i := 40) rfl)
theorem fl_X12_120 : kFL RX12 120 12 88 57 := ⟨RX12, TX12, rfl, by decide, inWX12, tw_1480⟩
theorem dX12_works0_0 : decode cX12_works0 0 = .ok (.iconst 0, 1) := by decide +kernel
theorem dX12_works0_1 : decode cX12_works0 1 = .ok (.istore_n 1, 1) := by decide +kernel
theorem dX12_works0_2 : decode cX12_works0 2 = .ok (.iload_n 1, 1) := by decide +kernel
theorem dX12_works0_3 : decode cX12_works0 3 = .ok (.aload_n 0, 1) := by decide +kernel
theorem dX12_works0_4 : decode cX12_works0 4 = .ok (.getfield 335, 3) := by decide +kernel
theorem dX12_works0_7 : decode cX12_works0 7 = .ok (.if_icmp .ge 260, 3) := by decide +kernel
theorem dX12_works0_267 : decode cX12_works0 267 = .ok (.return_, 1) := by decide +kernel
theorem dX12_works0_10 : decode cX12_works0 10 = .ok (.aload_n 0, 1) := by decide +kernel
theorem dX12_works0_11 : decode cX12_works0 11 = .ok (.getfield 16, 3) := by decide +kernel
theorem dX12_works0_14 : decode cX12_works0 14 = .ok (.iload_n 1, 1) := by decide +kernel
theorem dX12_works0_15 : decode cX12_works0 15 = .ok (.iaload, 1) := by decide +kernel
theorem dX12_works0_16 : decode cX12_works0 16 = .ok (.istore_n 2, 1) := by decide +kernel
theorem dX12_works0_17 : decode cX12_works0 17 = .ok (.iconst 0, 1) := by decide +kernel
theorem dX12_works0_18 : decode cX12_works0 18 = .ok (.istore_n 3, 1) := by decide +kernel
theorem dX12_works0_19 : decode cX12_works0 19 = .ok (.aload_n 0, 1) := by decide +kernel
theorem dX12_works0_20 : decode cX12_works0 20 = .ok (.getfield 29, 3) := by decide +kernel
theorem dX12_works0_23 : decode cX12_works0 23 = .ok (.iload_n 1, 1) := by decide +kernel
theorem dX12_works0_24 : decode cX12_works0 24 = .ok (.iaload, 1) := by decide +kernel
theorem dX12_works0_25 : decode cX12_works0 25 = .ok (.iconst 2, 1) := by decide +kernel
theorem dX12_works0_118 : decode cX12_works0 118 = .ok (.aload_n 0, 1) := by decide +kernel
theorem dX12_works0_119 : decode cX12_works0 119 = .ok (.getfield 114, 3) := by decide +kernel
theorem dX12_works0_122 : decode cX12_works0 122 = .ok (.iload_n 1, 1) := by decide +kernel
theorem dX12_works0_123 : decode cX12_works0 123 = .ok (.iload_n 2, 1) := by decide +kernel
theorem dX12_works0_124 : decode cX12_works0 124 = .ok (.iastore, 1) := by decide +kernel
theorem dX12_works0_125 : decode cX12_works0 125 = .ok (.aload_n 0, 1) := by decide +kernel
theorem dX12_works0_126 : decode cX12_works0 126 = .ok (.getfield 123, 3) := by decide +kernel
theorem dX12_works0_129 : decode cX12_works0 129 = .ok (.iload_n 1, 1) := by decide +kernel
theorem dX12_works0_130 : decode cX12_works0 130 = .ok (.iconst (-1), 1) := by decide +kernel
theorem dX12_works0_131 : decode cX12_works0 131 = .ok (.iastore, 1) := by decide +kernel
theorem dX12_works0_132 : decode cX12_works0 132 = .ok (.iconst 0, 1) := by decide +kernel
theorem dX12_works0_133 : decode cX12_works0 133 = .ok (.istore 4, 2) := by decide +kernel
theorem dX12_works0_135 : decode cX12_works0 135 = .ok (.iload 4, 2) := by decide +kernel
theorem dX12_works0_137 : decode cX12_works0 137 = .ok (.aload_n 0, 1) := by decide +kernel
theorem dX12_works0_138 : decode cX12_works0 138 = .ok (.getfield 38, 3) := by decide +kernel
theorem dX12_works0_141 : decode cX12_works0 141 = .ok (.iload_n 1, 1) := by decide +kernel
theorem dX12_works0_142 : decode cX12_works0 142 = .ok (.iaload, 1) := by decide +kernel
theorem dX12_works0_199 : decode cX12_works0 199 = .ok (.aload_n 0, 1) := by decide +kernel
theorem dX12_works0_200 : decode cX12_works0 200 = .ok (.getfield 120, 3) := by decide +kernel
theorem dX12_works0_203 : decode cX12_works0 203 = .ok (.iload_n 1, 1) := by decide +kernel
theorem dX12_works0_204 : decode cX12_works0 204 = .ok (.aload_n 0, 1) := by decide +kernel
theorem dX12_works0_205 : decode cX12_works0 205 = .ok (.iload_n 1, 1) := by decide +kernel
theorem tw_1852 : (Jvm.Cond.methodLink "MarshBellsModel" (383 : Nat) ({ cls := "MarshBellsModel", name := "runsOver", desc := "(I)I" } : Jvm.MethodName)) ∈ lw_tbl := tk_8 (List.mem_of_getElem? (i := 172) rfl)
theorem tw_1855 : (Jvm.Cond.code ({ cls := "MarshBellsModel", name := "runsOver", desc := "(I)I" } : Jvm.MethodName) prog_14_method_44_code (4 : Nat) (Option.some Jvm.ClassFile.FieldType.int)) ∈ lw_tbl := tk_8 (List.mem_of_getElem? (i := 175) rfl)
theorem tw_1854 : (Jvm.Cond.instanceMethod ({ cls := "MarshBellsModel", name := "runsOver", desc := "(I)I" } : Jvm.MethodName)) ∈ lw_tbl := tk_8 (List.mem_of_getElem? (i := 174) rfl)
theorem se_X12_runsOver : Cond.selects RX12 yX12_runsOver yX12_runsOver ∈ lw_tbl := List.mem_append_left _ (List.mem_of_getElem? (i := 137) rfl)
theorem li_X12_383 : kLV RX12 383 RX12 yX12_runsOver cX12_runsOver 4 (some .int) 1 := ⟨tw_1852, tw_1854, se_X12_runsOver, tw_1855, tw_13, by decide +kernel⟩
theorem dX12_works0_206 : decode cX12_works0 206 = .ok (.invokevirtual 383, 3) := by decide +kernel
theorem dX12_works0_209 : decode cX12_works0 209 = .ok (.iastore, 1) := by decide +kernel
theorem dX12_works0_210 : decode cX12_works0 210 = .ok (.iload_n 2, 1) := by decide +kernel
theorem dX12_works0_211 : decode cX12_works0 211 = .ok (.aload_n 0, 1) := by decide +kernel
theorem dX12_works0_212 : decode cX12_works0 212 = .ok (.getfield 23, 3) := by decide +kernel
theorem dX12_works0_215 : decode cX12_works0 215 = .ok (.iload_n 1, 1) := by decide +kernel
theorem dX12_works0_216 : decode cX12_works0 216 = .ok (.iaload, 1) := by decide +kernel
theorem dX12_works0_217 : decode cX12_works0 217 = .ok (.iadd, 1) := by decide +kernel
theorem dX12_works0_218 : decode cX12_works0 218 = .ok (.aload_n 0, 1) := by decide +kernel
theorem dX12_works0_219 : decode cX12_works0 219 = .ok (.getfield 20, 3) := by decide +kernel
theorem dX12_works0_222 : decode cX12_works0 222 = .ok (.iload_n 1, 1) := by decide +kernel
theorem dX12_works0_223 : decode cX12_works0 223 = .ok (.iaload, 1) := by decide +kernel
theorem dX12_works0_244 : decode cX12_works0 244 = .ok (.istore 4, 2) := by decide +kernel
theorem dX12_works0_246 : decode cX12_works0 246 = .ok (.aload_n 0, 1) := by decide +kernel
theorem dX12_works0_247 : decode cX12_works0 247 = .ok (.getfield 117, 3) := by decide +kernel
theorem dX12_works0_250 : decode cX12_works0 250 = .ok (.iload_n 1, 1) := by decide +kernel
theorem dX12_works0_251 : decode cX12_works0 251 = .ok (.iload 4, 2) := by decide +kernel
theorem dX12_works0_253 : decode cX12_works0 253 = .ok (.aload_n 0, 1) := by decide +kernel
theorem dX12_works0_254 : decode cX12_works0 254 = .ok (.getfield 120, 3) := by decide +kernel
theorem dX12_works0_257 : decode cX12_works0 257 = .ok (.iload_n 1, 1) := by decide +kernel
theorem dX12_works0_258 : decode cX12_works0 258 = .ok (.iaload, 1) := by decide +kernel
theorem dX12_works0_259 : decode cX12_works0 259 = .ok (.iadd, 1) := by decide +kernel
theorem dX12_works0_260 : decode cX12_works0 260 = .ok (.iastore, 1) := by decide +kernel
theorem dX12_works0_261 : decode cX12_works0 261 = .ok (.iinc 1 1, 3) := by decide +kernel
theorem dX12_works0_264 : decode cX12_works0 264 = .ok (.goto (-262), 3) := by decide +kernel
theorem dX12_works0_224 : decode cX12_works0 224 = .ok (.if_icmp .le 14, 3) := by decide +kernel
theorem dX12_works0_238 : decode cX12_works0 238 = .ok (.aload_n 0, 1) := by decide +kernel
theorem dX12_works0_239 : decode cX12_works0 239 = .ok (.getfield 20, 3) := by decide +kernel
theorem dX12_works0_242 : decode cX12_works0 242 = .ok (.iload_n 1, 1) := by decide +kernel
theorem dX12_works0_243 : decode cX12_works0 243 = .ok (.iaload, 1) := by decide +kernel
theorem dX12_works0_227 : decode cX12_works0 227 = .ok (.iload_n 2, 1) := by decide +kernel
theorem dX12_works0_228 : decode cX12_works0 228 = .ok (.aload_n 0, 1) := by decide +kernel
theorem dX12_works0_229 : decode cX12_works0 229 = .ok (.getfield 23, 3) := by decide +kernel
theorem dX12_works0_232 : decode cX12_works0 232 = .ok (.iload_n 1, 1) := by decide +kernel
theorem dX12_works0_233 : decode cX12_works0 233 = .ok (.iaload, 1) := by decide +kernel
theorem dX12_works0_234 : decode cX12_works0 234 = .ok (.iadd, 1) := by decide +kernel
theorem dX12_works0_235 : decode cX12_works0 235 = .ok (.goto 9, 3) := by decide +kernel
theorem dX12_works0_143 : decode cX12_works0 143 = .ok (.if_icmp .ge 56, 3) := by decide +kernel
theorem dX12_works0_146 : decode cX12_works0 146 = .ok (.iload_n 3, 1) := by decide +kernel
theorem dX12_works0_147 : decode cX12_works0 147 = .ok (.ifCond .eq 52, 3) := by decide +kernel
theorem dX12_works0_150 : decode cX12_works0 150 = .ok (.aload_n 0, 1) := by decide +kernel
theorem dX12_works0_151 : decode cX12_works0 151 = .ok (.getfield 41, 3) := by decide +kernel
theorem dX12_works0_154 : decode cX12_works0 154 = .ok (.bipush 6, 2) := by decide +kernel
theorem dX12_works0_156 : decode cX12_works0 156 = .ok (.iload_n 1, 1) := by decide +kernel
theorem dX12_works0_157 : decode cX12_works0 157 = .ok (.imul, 1) := by decide +kernel
theorem dX12_works0_158 : decode cX12_works0 158 = .ok (.iload 4, 2) := by decide +kernel
theorem dX12_works0_160 : decode cX12_works0 160 = .ok (.iadd, 1) := by decide +kernel
theorem dX12_works0_161 : decode cX12_works0 161 = .ok (.iaload, 1) := by decide +kernel
theorem dX12_works0_162 : decode cX12_works0 162 = .ok (.istore 5, 2) := by decide +kernel
theorem dX12_works0_164 : decode cX12_works0 164 = .ok (.aload_n 0, 1) := by decide +kernel
theorem dX12_works0_165 : decode cX12_works0 165 = .ok (.getfield 123, 3) := by decide +kernel
theorem dX12_works0_168 : decode cX12_works0 168 = .ok (.iload_n 1, 1) := by decide +kernel
theorem dX12_works0_169 : decode cX12_works0 169 = .ok (.iaload, 1) := by decide +kernel
theorem dX12_works0_170 : decode cX12_works0 170 = .ok (.iconst (-1), 1) := by decide +kernel
theorem dX12_works0_193 : decode cX12_works0 193 = .ok (.iinc 4 1, 3) := by decide +kernel
theorem dX12_works0_196 : decode cX12_works0 196 = .ok (.goto (-61), 3) := by decide +kernel
theorem dX12_works0_171 : decode cX12_works0 171 = .ok (.if_icmp .ne 22, 3) := by decide +kernel
theorem dX12_works0_174 : decode cX12_works0 174 = .ok (.aload_n 0, 1) := by decide +kernel
theorem dX12_works0_175 : decode cX12_works0 175 = .ok (.iload 5, 2) := by decide +kernel
theorem dX12_works0_177 : decode cX12_works0 177 = .ok (.iload_n 1, 1) := by decide +kernel
theorem dX12_works0_178 : decode cX12_works0 178 = .ok (.invokevirtual 371, 3) := by decide +kernel
theorem dX12_works0_181 : decode cX12_works0 181 = .ok (.iload_n 2, 1) := by decide +kernel
theorem dX12_works0_182 : decode cX12_works0 182 = .ok (.if_icmp .ne 11, 3) := by decide +kernel
theorem dX12_works0_185 : decode cX12_works0 185 = .ok (.aload_n 0, 1) := by decide +kernel
theorem dX12_works0_186 : decode cX12_works0 186 = .ok (.getfield 123, 3) := by decide +kernel
theorem dX12_works0_189 : decode cX12_works0 189 = .ok (.iload_n 1, 1) := by decide +kernel
theorem dX12_works0_190 : decode cX12_works0 190 = .ok (.iload 5, 2) := by decide +kernel
theorem dX12_works0_192 : decode cX12_works0 192 = .ok (.iastore, 1) := by decide +kernel
theorem dX12_works0_26 : decode cX12_works0 26 = .ok (.if_icmp .eq 92, 3) := by decide +kernel
theorem dX12_works0_29 : decode cX12_works0 29 = .ok (.aload_n 0, 1) := by decide +kernel
theorem dX12_works0_30 : decode cX12_works0 30 = .ok (.iload_n 1, 1) := by decide +kernel
theorem dX12_works0_31 : decode cX12_works0 31 = .ok (.aload_n 0, 1) := by decide +kernel
theorem dX12_works0_32 : decode cX12_works0 32 = .ok (.getfield 29, 3) := by decide +kernel
theorem dX12_works0_35 : decode cX12_works0 35 = .ok (.iload_n 1, 1) := by decide +kernel
theorem dX12_works0_36 : decode cX12_works0 36 = .ok (.iaload, 1) := by decide +kernel
theorem tw_1834 : (Jvm.Cond.methodLink "MarshBellsModel" (380 : Nat) ({ cls := "MarshBellsModel", name := "thereBy", desc := "(II)I" } : Jvm.MethodName)) ∈ lw_tbl := tk_8 (List.mem_of_getElem? (i := 154) rfl)
theorem tw_1837 : (Jvm.Cond.code ({ cls := "MarshBellsModel", name := "thereBy", desc := "(II)I" } : Jvm.MethodName) prog_14_method_43_code (7 : Nat) (Option.some Jvm.ClassFile.FieldType.int)) ∈ lw_tbl := tk_8 (List.mem_of_getElem? (i := 157) rfl)
theorem tw_1836 : (Jvm.Cond.instanceMethod ({ cls := "MarshBellsModel", name := "thereBy", desc := "(II)I" } : Jvm.MethodName)) ∈ lw_tbl := tk_8 (List.mem_of_getElem? (i := 156) rfl)
theorem se_X12_thereBy : Cond.selects RX12 yX12_thereBy yX12_thereBy ∈ lw_tbl := List.mem_append_left _ (List.mem_of_getElem? (i := 134) rfl)
theorem li_X12_380 : kLV RX12 380 RX12 yX12_thereBy cX12_thereBy 7 (some .int) 2 := ⟨tw_1834, tw_1836, se_X12_thereBy, tw_1837, tw_13, by decide +kernel⟩
theorem dX12_works0_55 : decode cX12_works0 55 = .ok (.invokevirtual 380, 3) := by decide +kernel
theorem dX12_works0_58 : decode cX12_works0 58 = .ok (.istore 4, 2) := by decide +kernel
theorem dX12_works0_60 : decode cX12_works0 60 = .ok (.aload_n 0, 1) := by decide +kernel
theorem dX12_works0_61 : decode cX12_works0 61 = .ok (.getfield 16, 3) := by decide +kernel
theorem dX12_works0_64 : decode cX12_works0 64 = .ok (.iload_n 1, 1) := by decide +kernel
theorem dX12_works0_65 : decode cX12_works0 65 = .ok (.iaload, 1) := by decide +kernel
theorem dX12_works0_66 : decode cX12_works0 66 = .ok (.aload_n 0, 1) := by decide +kernel
theorem dX12_works0_67 : decode cX12_works0 67 = .ok (.getfield 50, 3) := by decide +kernel
theorem dX12_works0_70 : decode cX12_works0 70 = .ok (.bipush 36, 2) := by decide +kernel
theorem dX12_works0_72 : decode cX12_works0 72 = .ok (.iload_n 1, 1) := by decide +kernel
theorem dX12_works0_73 : decode cX12_works0 73 = .ok (.iadd, 1) := by decide +kernel
theorem dX12_works0_74 : decode cX12_works0 74 = .ok (.iaload, 1) := by decide +kernel
theorem dX12_works0_75 : decode cX12_works0 75 = .ok (.iadd, 1) := by decide +kernel
theorem dX12_works0_76 : decode cX12_works0 76 = .ok (.istore 5, 2) := by decide +kernel
theorem dX12_works0_78 : decode cX12_works0 78 = .ok (.iload 4, 2) := by decide +kernel
theorem dX12_works0_80 : decode cX12_works0 80 = .ok (.iload_n 2, 1) := by decide +kernel
theorem dX12_works0_96 : decode cX12_works0 96 = .ok (.istore_n 3, 1) := by decide +kernel
theorem dX12_works0_97 : decode cX12_works0 97 = .ok (.iload 4, 2) := by decide +kernel
theorem dX12_works0_99 : decode cX12_works0 99 = .ok (.iload_n 2, 1) := by decide +kernel
theorem dX12_works0_100 : decode cX12_works0 100 = .ok (.if_icmp .le 18, 3) := by decide +kernel
theorem dX12_works0_103 : decode cX12_works0 103 = .ok (.iload 4, 2) := by decide +kernel
theorem dX12_works0_105 : decode cX12_works0 105 = .ok (.iload 5, 2) := by decide +kernel
theorem dX12_works0_117 : decode cX12_works0 117 = .ok (.istore_n 2, 1) := by decide +kernel
theorem dX12_works0_107 : decode cX12_works0 107 = .ok (.if_icmp .ge 8, 3) := by decide +kernel
theorem dX12_works0_115 : decode cX12_works0 115 = .ok (.iload 5, 2) := by decide +kernel
theorem dX12_works0_110 : decode cX12_works0 110 = .ok (.iload 4, 2) := by decide +kernel
theorem dX12_works0_112 : decode cX12_works0 112 = .ok (.goto 5, 3) := by decide +kernel
theorem dX12_works0_95 : decode cX12_works0 95 = .ok (.iconst 0, 1) := by decide +kernel
theorem dX12_works0_81 : decode cX12_works0 81 = .ok (.if_icmp .le 14, 3) := by decide +kernel
theorem dX12_works0_84 : decode cX12_works0 84 = .ok (.iload 4, 2) := by decide +kernel
theorem dX12_works0_86 : decode cX12_works0 86 = .ok (.iload 5, 2) := by decide +kernel
theorem dX12_works0_88 : decode cX12_works0 88 = .ok (.if_icmp .gt 7, 3) := by decide +kernel
theorem dX12_works0_91 : decode cX12_works0 91 = .ok (.iconst 1, 1) := by decide +kernel
theorem dX12_works0_92 : decode cX12_works0 92 = .ok (.goto 4, 3) := by decide +kernel
theorem dX12_works0_37 : decode cX12_works0 37 = .ok (.ifCond .ne 12, 3) := by decide +kernel
theorem dX12_works0_49 : decode cX12_works0 49 = .ok (.aload_n 0, 1) := by decide +kernel
theorem dX12_works0_50 : decode cX12_works0 50 = .ok (.getfield 32, 3) := by decide +kernel
theorem dX12_works0_53 : decode cX12_works0 53 = .ok (.iload_n 1, 1) := by decide +kernel
theorem dX12_works0_54 : decode cX12_works0 54 = .ok (.iaload, 1) := by decide +kernel
theorem dX12_works0_40 : decode cX12_works0 40 = .ok (.aload_n 0, 1) := by decide +kernel
theorem dX12_works0_41 : decode cX12_works0 41 = .ok (.getfield 38, 3) := by decide +kernel
theorem dX12_works0_44 : decode cX12_works0 44 = .ok (.iload_n 1, 1) := by decide +kernel
theorem dX12_works0_45 : decode cX12_works0 45 = .ok (.iaload, 1) := by decide +kernel
theorem dX12_works0_46 : decode cX12_works0 46 = .ok (.goto 9, 3) := by decide +kernel
theorem dX12_late_0 : decode cX12_late 0 = .ok (.aload_n 0, 1) := by decide +kernel
theorem dX12_late_1 : decode cX12_late 1 = .ok (.getfield 117, 3) := by decide +kernel
theorem dX12_late_4 : decode cX12_late 4 = .ok (.iload_n 1, 1) := by decide +kernel
theorem dX12_late_5 : decode cX12_late 5 = .ok (.iaload, 1) := by decide +kernel
theorem dX12_late_6 : decode cX12_late 6 = .ok (.aload_n 0, 1) := by decide +kernel
theorem dX12_late_7 : decode cX12_late 7 = .ok (.getfield 20, 3) := by decide +kernel
theorem dX12_late_10 : decode cX12_late 10 = .ok (.iload_n 1, 1) := by decide +kernel
theorem dX12_late_11 : decode cX12_late 11 = .ok (.iaload, 1) := by decide +kernel
theorem dX12_late_12 : decode cX12_late 12 = .ok (.isub, 1) := by decide +kernel
theorem dX12_late_13 : decode cX12_late 13 = .ok (.ireturn, 1) := by decide +kernel
theorem dX12_lost_0 : decode cX12_lost 0 = .ok (.aload_n 0, 1) := by decide +kernel
theorem tw_1830 : (Jvm.Cond.methodLink "MarshBellsModel" (386 : Nat) ({ cls := "MarshBellsModel", name := "works0", desc := "()V" } : Jvm.MethodName)) ∈ lw_tbl := tk_8 (List.mem_of_getElem? (i := 150) rfl)
theorem tw_1833 : (Jvm.Cond.code ({ cls := "MarshBellsModel", name := "works0", desc := "()V" } : Jvm.MethodName) prog_14_method_45_code (6 : Nat) (Option.none : Option Jvm.ClassFile.FieldType)) ∈ lw_tbl := tk_8 (List.mem_of_getElem? (i := 153) rfl)
theorem tw_1832 : (Jvm.Cond.instanceMethod ({ cls := "MarshBellsModel", name := "works0", desc := "()V" } : Jvm.MethodName)) ∈ lw_tbl := tk_8 (List.mem_of_getElem? (i := 152) rfl)
theorem se_X12_works0 : Cond.selects RX12 yX12_works0 yX12_works0 ∈ lw_tbl := List.mem_append_left _ (List.mem_of_getElem? (i := 133) rfl)
theorem li_X12_386 : kLV RX12 386 RX12 yX12_works0 cX12_works0 6 none 0 := ⟨tw_1830, tw_1832, se_X12_works0, tw_1833, tw_13, by decide +kernel⟩
theorem dX12_lost_1 : decode cX12_lost 1 = .ok (.invokevirtual 386, 3) := by decide +kernel
theorem dX12_lost_4 : decode cX12_lost 4 = .ok (.iconst 0, 1) := by decide +kernel
theorem dX12_lost_5 : decode cX12_lost 5 = .ok (.istore_n 1, 1) := by decide +kernel
theorem dX12_lost_6 : decode cX12_lost 6 = .ok (.iconst 0, 1) := by decide +kernel
theorem dX12_lost_7 : decode cX12_lost 7 = .ok (.istore_n 2, 1) := by decide +kernel
theorem dX12_lost_8 : decode cX12_lost 8 = .ok (.iload_n 2, 1) := by decide +kernel
theorem dX12_lost_9 : decode cX12_lost 9 = .ok (.aload_n 0, 1) := by decide +kernel
theorem dX12_lost_10 : decode cX12_lost 10 = .ok (.getfield 335, 3) := by decide +kernel
theorem dX12_lost_13 : decode cX12_lost 13 = .ok (.if_icmp .ge 24, 3) := by decide +kernel
theorem dX12_lost_37 : decode cX12_lost 37 = .ok (.iload_n 1, 1) := by decide +kernel
theorem dX12_lost_38 : decode cX12_lost 38 = .ok (.ireturn, 1) := by decide +kernel
theorem dX12_lost_16 : decode cX12_lost 16 = .ok (.iload_n 1, 1) := by decide +kernel
theorem dX12_lost_17 : decode cX12_lost 17 = .ok (.aload_n 0, 1) := by decide +kernel
theorem dX12_lost_18 : decode cX12_lost 18 = .ok (.getfield 26, 3) := by decide +kernel
theorem dX12_lost_21 : decode cX12_lost 21 = .ok (.iload_n 2, 1) := by decide +kernel
theorem dX12_lost_22 : decode cX12_lost 22 = .ok (.iaload, 1) := by decide +kernel
theorem dX12_lost_23 : decode cX12_lost 23 = .ok (.aload_n 0, 1) := by decide +kernel
theorem dX12_lost_24 : decode cX12_lost 24 = .ok (.iload_n 2, 1) := by decide +kernel
theorem tw_1863 : (Jvm.Cond.methodLink "MarshBellsModel" (389 : Nat) ({ cls := "MarshBellsModel", name := "late", desc := "(I)I" } : Jvm.MethodName)) ∈ lw_tbl := tk_8 (List.mem_of_getElem? (i := 183) rfl)
theorem tw_1866 : (Jvm.Cond.code ({ cls := "MarshBellsModel", name := "late", desc := "(I)I" } : Jvm.MethodName) prog_14_method_46_code (2 : Nat) (Option.some Jvm.ClassFile.FieldType.int)) ∈ lw_tbl := tk_8 (List.mem_of_getElem? (i := 186) rfl)
theorem tw_1865 : (Jvm.Cond.instanceMethod ({ cls := "MarshBellsModel", name := "late", desc := "(I)I" } : Jvm.MethodName)) ∈ lw_tbl := tk_8 (List.mem_of_getElem? (i := 185) rfl)
theorem se_X12_late : Cond.selects RX12 yX12_late yX12_late ∈ lw_tbl := List.mem_append_left _ (List.mem_of_getElem? (i := 139) rfl)
theorem li_X12_389 : kLV RX12 389 RX12 yX12_late cX12_late 2 (some .int) 1 := ⟨tw_1863, tw_1865, se_X12_late, tw_1866, tw_13, by decide +kernel⟩
theorem dX12_lost_25 : decode cX12_lost 25 = .ok (.invokevirtual 389, 3) := by decide +kernel
theorem dX12_lost_28 : decode cX12_lost 28 = .ok (.imul, 1) := by decide +kernel
theorem dX12_lost_29 : decode cX12_lost 29 = .ok (.iadd, 1) := by decide +kernel
theorem dX12_lost_30 : decode cX12_lost 30 = .ok (.istore_n 1, 1) := by decide +kernel
theorem dX12_lost_31 : decode cX12_lost 31 = .ok (.iinc 2 1, 3) := by decide +kernel
theorem dX12_lost_34 : decode cX12_lost 34 = .ok (.goto (-26), 3) := by decide +kernel
theorem dX12_lates_0 : decode cX12_lates 0 = .ok (.iconst 0, 1) := by decide +kernel
theorem dX12_lates_1 : decode cX12_lates 1 = .ok (.istore_n 1, 1) := by decide +kernel
theorem dX12_lates_2 : decode cX12_lates 2 = .ok (.iconst 0, 1) := by decide +kernel
theorem dX12_lates_3 : decode cX12_lates 3 = .ok (.istore_n 2, 1) := by decide +kernel
theorem dX12_lates_4 : decode cX12_lates 4 = .ok (.iload_n 2, 1) := by decide +kernel
theorem dX12_lates_5 : decode cX12_lates 5 = .ok (.aload_n 0, 1) := by decide +kernel
theorem dX12_lates_6 : decode cX12_lates 6 = .ok (.getfield 335, 3) := by decide +kernel
theorem dX12_lates_9 : decode cX12_lates 9 = .ok (.if_icmp .ge 17, 3) := by decide +kernel
theorem dX12_lates_26 : decode cX12_lates 26 = .ok (.iload_n 1, 1) := by decide +kernel
theorem dX12_lates_27 : decode cX12_lates 27 = .ok (.ireturn, 1) := by decide +kernel
theorem dX12_lates_12 : decode cX12_lates 12 = .ok (.iload_n 1, 1) := by decide +kernel
theorem dX12_lates_13 : decode cX12_lates 13 = .ok (.aload_n 0, 1) := by decide +kernel
theorem dX12_lates_14 : decode cX12_lates 14 = .ok (.iload_n 2, 1) := by decide +kernel
theorem dX12_lates_15 : decode cX12_lates 15 = .ok (.invokevirtual 389, 3) := by decide +kernel
theorem dX12_lates_18 : decode cX12_lates 18 = .ok (.iadd, 1) := by decide +kernel
theorem dX12_lates_19 : decode cX12_lates 19 = .ok (.istore_n 1, 1) := by decide +kernel
theorem dX12_lates_20 : decode cX12_lates 20 = .ok (.iinc 2 1, 3) := by decide +kernel
theorem dX12_lates_23 : decode cX12_lates 23 = .ok (.goto (-19), 3) := by decide +kernel
theorem dX12_lateness_0 : decode cX12_lateness 0 = .ok (.aload_n 0, 1) := by decide +kernel
theorem dX12_lateness_1 : decode cX12_lateness 1 = .ok (.invokevirtual 386, 3) := by decide +kernel
theorem dX12_lateness_4 : decode cX12_lateness 4 = .ok (.iconst 0, 1) := by decide +kernel
theorem dX12_lateness_5 : decode cX12_lateness 5 = .ok (.istore_n 2, 1) := by decide +kernel
theorem dX12_lateness_6 : decode cX12_lateness 6 = .ok (.iconst 0, 1) := by decide +kernel
theorem dX12_lateness_7 : decode cX12_lateness 7 = .ok (.istore_n 3, 1) := by decide +kernel
theorem dX12_lateness_8 : decode cX12_lateness 8 = .ok (.iload_n 3, 1) := by decide +kernel
theorem dX12_lateness_9 : decode cX12_lateness 9 = .ok (.aload_n 0, 1) := by decide +kernel
theorem dX12_lateness_10 : decode cX12_lateness 10 = .ok (.getfield 335, 3) := by decide +kernel
theorem dX12_lateness_13 : decode cX12_lateness 13 = .ok (.if_icmp .ge 77, 3) := by decide +kernel
theorem dX12_lateness_90 : decode cX12_lateness 90 = .ok (.iload_n 2, 1) := by decide +kernel
theorem dX12_lateness_91 : decode cX12_lateness 91 = .ok (.ireturn, 1) := by decide +kernel
theorem dX12_lateness_16 : decode cX12_lateness 16 = .ok (.iload_n 1, 1) := by decide +kernel
theorem dX12_lateness_17 : decode cX12_lateness 17 = .ok (.bipush 13, 2) := by decide +kernel
theorem dX12_lateness_84 : decode cX12_lateness 84 = .ok (.iinc 3 1, 3) := by decide +kernel
theorem dX12_lateness_87 : decode cX12_lateness 87 = .ok (.goto (-79), 3) := by decide +kernel
theorem dX12_lateness_19 : decode cX12_lateness 19 = .ok (.if_icmp .ne 25, 3) := by decide +kernel
theorem dX12_lateness_44 : decode cX12_lateness 44 = .ok (.iload_n 2, 1) := by decide +kernel
theorem dX12_lateness_45 : decode cX12_lateness 45 = .ok (.iload_n 1, 1) := by decide +kernel
theorem dX12_lateness_46 : decode cX12_lateness 46 = .ok (.bipush 12, 2) := by decide +kernel
theorem dX12_lateness_82 : decode cX12_lateness 82 = .ok (.iadd, 1) := by decide +kernel
theorem dX12_lateness_83 : decode cX12_lateness 83 = .ok (.istore_n 2, 1) := by decide +kernel
theorem dX12_lateness_77 : decode cX12_lateness 77 = .ok (.iconst 1, 1) := by decide +kernel
theorem dX12_lateness_78 : decode cX12_lateness 78 = .ok (.goto 4, 3) := by decide +kernel
theorem dX12_lateness_81 : decode cX12_lateness 81 = .ok (.iconst 0, 1) := by decide +kernel
theorem dX12_lateness_48 : decode cX12_lateness 48 = .ok (.if_icmp .ne 14, 3) := by decide +kernel
theorem dX12_lateness_62 : decode cX12_lateness 62 = .ok (.aload_n 0, 1) := by decide +kernel
theorem dX12_lateness_63 : decode cX12_lateness 63 = .ok (.getfield 114, 3) := by decide +kernel
theorem dX12_lateness_66 : decode cX12_lateness 66 = .ok (.iload_n 3, 1) := by decide +kernel
theorem dX12_lateness_67 : decode cX12_lateness 67 = .ok (.iaload, 1) := by decide +kernel
theorem dX12_lateness_68 : decode cX12_lateness 68 = .ok (.aload_n 0, 1) := by decide +kernel
theorem dX12_lateness_69 : decode cX12_lateness 69 = .ok (.getfield 16, 3) := by decide +kernel
theorem dX12_lateness_72 : decode cX12_lateness 72 = .ok (.iload_n 3, 1) := by decide +kernel
theorem dX12_lateness_73 : decode cX12_lateness 73 = .ok (.iaload, 1) := by decide +kernel
theorem dX12_lateness_74 : decode cX12_lateness 74 = .ok (.if_icmp .le 7, 3) := by decide +kernel
theorem dX12_lateness_51 : decode cX12_lateness 51 = .ok (.aload_n 0, 1) := by decide +kernel
theorem dX12_lateness_52 : decode cX12_lateness 52 = .ok (.iload_n 3, 1) := by decide +kernel
theorem dX12_lateness_53 : decode cX12_lateness 53 = .ok (.invokevirtual 389, 3) := by decide +kernel
theorem dX12_lateness_56 : decode cX12_lateness 56 = .ok (.ifCond .le 25, 3) := by decide +kernel
theorem dX12_lateness_59 : decode cX12_lateness 59 = .ok (.goto 18, 3) := by decide +kernel
theorem dX12_lateness_22 : decode cX12_lateness 22 = .ok (.aload_n 0, 1) := by decide +kernel
theorem dX12_lateness_23 : decode cX12_lateness 23 = .ok (.iload_n 3, 1) := by decide +kernel
theorem dX12_lateness_24 : decode cX12_lateness 24 = .ok (.invokevirtual 389, 3) := by decide +kernel
theorem dX12_lateness_27 : decode cX12_lateness 27 = .ok (.iload_n 2, 1) := by decide +kernel
theorem dX12_lateness_40 : decode cX12_lateness 40 = .ok (.istore_n 2, 1) := by decide +kernel
theorem dX12_lateness_41 : decode cX12_lateness 41 = .ok (.goto 43, 3) := by decide +kernel
theorem dX12_lateness_28 : decode cX12_lateness 28 = .ok (.if_icmp .le 11, 3) := by decide +kernel
theorem dX12_lateness_39 : decode cX12_lateness 39 = .ok (.iload_n 2, 1) := by decide +kernel
theorem dX12_lateness_31 : decode cX12_lateness 31 = .ok (.aload_n 0, 1) := by decide +kernel
theorem dX12_lateness_32 : decode cX12_lateness 32 = .ok (.iload_n 3, 1) := by decide +kernel
theorem dX12_lateness_33 : decode cX12_lateness 33 = .ok (.invokevirtual 389, 3) := by decide +kernel
theorem dX12_lateness_36 : decode cX12_lateness 36 = .ok (.goto 4, 3) := by decide +kernel
theorem dX12_within_0 : decode cX12_within 0 = .ok (.iload_n 0, 1) := by decide +kernel
theorem dX12_within_1 : decode cX12_within 1 = .ok (.iload_n 1, 1) := by decide +kernel
theorem dX12_within_15 : decode cX12_within 15 = .ok (.ireturn, 1) := by decide +kernel
theorem dX12_within_14 : decode cX12_within 14 = .ok (.iconst 0, 1) := by decide +kernel
theorem dX12_within_2 : decode cX12_within 2 = .ok (.if_icmp .lt 12, 3) := by decide +kernel
theorem dX12_within_5 : decode cX12_within 5 = .ok (.iload_n 0, 1) := by decide +kernel
theorem dX12_within_6 : decode cX12_within 6 = .ok (.iload_n 2, 1) := by decide +kernel
theorem dX12_within_7 : decode cX12_within 7 = .ok (.if_icmp .gt 7, 3) := by decide +kernel
theorem dX12_within_10 : decode cX12_within 10 = .ok (.iconst 1, 1) := by decide +kernel
theorem dX12_within_11 : decode cX12_within 11 = .ok (.goto 4, 3) := by decide +kernel
theorem dX12_count_0 : decode cX12_count 0 = .ok (.aload_n 0, 1) := by decide +kernel
theorem dX12_count_1 : decode cX12_count 1 = .ok (.iconst 0, 1) := by decide +kernel
theorem dX12_count_2 : decode cX12_count 2 = .ok (.putfield 177, 3) := by decide +kernel
theorem dX12_count_5 : decode cX12_count 5 = .ok (.aload_n 0, 1) := by decide +kernel
theorem dX12_count_6 : decode cX12_count 6 = .ok (.iload_n 1, 1) := by decide +kernel
theorem dX12_count_7 : decode cX12_count 7 = .ok (.iconst 0, 1) := by decide +kernel
theorem dX12_count_8 : decode cX12_count 8 = .ok (.bipush 14, 2) := by decide +kernel
theorem tw_1823 : (Jvm.Cond.methodLink "MarshBellsModel" (392 : Nat) ({ cls := "MarshBellsModel", name := "within", desc := "(III)Z" } : Jvm.MethodName)) ∈ lw_tbl := tk_8 (List.mem_of_getElem? (i := 143) rfl)
theorem tw_1825 : (Jvm.Cond.code ({ cls := "MarshBellsModel", name := "within", desc := "(III)Z" } : Jvm.MethodName) prog_14_method_4_code (3 : Nat) (Option.some Jvm.ClassFile.FieldType.boolean)) ∈ lw_tbl := tk_8 (List.mem_of_getElem? (i := 145) rfl)
theorem tw_1824 : (Jvm.Cond.static ({ cls := "MarshBellsModel", name := "within", desc := "(III)Z" } : Jvm.MethodName)) ∈ lw_tbl := tk_8 (List.mem_of_getElem? (i := 144) rfl)
theorem li_X12_392 : kLS RX12 392 yX12_within cX12_within 3 (some .boolean) 3 := ⟨tw_1823, tw_1824, tw_1825, tw_13, by decide +kernel⟩
theorem dX12_count_10 : decode cX12_count 10 = .ok (.invokestatic 392, 3) := by decide +kernel
theorem dX12_count_13 : decode cX12_count 13 = .ok (.iconst 1, 1) := by decide +kernel
theorem dX12_count_14 : decode cX12_count 14 = .ok (.invokevirtual 328, 3) := by decide +kernel
theorem dX12_count_17 : decode cX12_count 17 = .ok (.ifCond .ne 5, 3) := by decide +kernel
theorem dX12_count_22 : decode cX12_count 22 = .ok (.iload_n 1, 1) := by decide +kernel
theorem dX12_count_23 : decode cX12_count 23 = .ok (.bipush 11, 2) := by decide +kernel
theorem dX12_count_25 : decode cX12_count 25 = .ok (.if_icmp .le 9, 3) := by decide +kernel
theorem dX12_count_34 : decode cX12_count 34 = .ok (.iload_n 1, 1) := by decide +kernel
theorem dX12_count_35 : decode cX12_count 35 = .ok (.tableswitch 94 0 8 #[49, 54, 59, 64, 69, 74, 79, 84, 89], 49) := by decide +kernel
theorem dX12_count_84 : decode cX12_count 84 = .ok (.aload_n 0, 1) := by decide +kernel
theorem dX12_count_85 : decode cX12_count 85 = .ok (.getfield 335, 3) := by decide +kernel
theorem dX12_count_88 : decode cX12_count 88 = .ok (.ireturn, 1) := by decide +kernel
theorem dX12_count_89 : decode cX12_count 89 = .ok (.aload_n 0, 1) := by decide +kernel
theorem dX12_count_90 : decode cX12_count 90 = .ok (.getfield 338, 3) := by decide +kernel
theorem dX12_count_93 : decode cX12_count 93 = .ok (.ireturn, 1) := by decide +kernel
theorem dX12_count_94 : decode cX12_count 94 = .ok (.aload_n 0, 1) := by decide +kernel
theorem dX12_count_95 : decode cX12_count 95 = .ok (.getfield 105, 3) := by decide +kernel
theorem dX12_count_98 : decode cX12_count 98 = .ok (.ireturn, 1) := by decide +kernel
theorem dX12_count_99 : decode cX12_count 99 = .ok (.aload_n 0, 1) := by decide +kernel
theorem dX12_count_100 : decode cX12_count 100 = .ok (.getfield 7, 3) := by decide +kernel
theorem dX12_count_103 : decode cX12_count 103 = .ok (.ireturn, 1) := by decide +kernel
theorem dX12_count_104 : decode cX12_count 104 = .ok (.aload_n 0, 1) := by decide +kernel
theorem dX12_count_105 : decode cX12_count 105 = .ok (.getfield 13, 3) := by decide +kernel
theorem dX12_count_108 : decode cX12_count 108 = .ok (.ireturn, 1) := by decide +kernel
theorem dX12_count_109 : decode cX12_count 109 = .ok (.aload_n 0, 1) := by decide +kernel
theorem dX12_count_110 : decode cX12_count 110 = .ok (.getfield 345, 3) := by decide +kernel
theorem dX12_count_113 : decode cX12_count 113 = .ok (.ireturn, 1) := by decide +kernel
theorem dX12_count_114 : decode cX12_count 114 = .ok (.aload_n 0, 1) := by decide +kernel
theorem dX12_count_115 : decode cX12_count 115 = .ok (.getfield 348, 3) := by decide +kernel
theorem dX12_count_118 : decode cX12_count 118 = .ok (.ireturn, 1) := by decide +kernel
theorem dX12_count_119 : decode cX12_count 119 = .ok (.aload_n 0, 1) := by decide +kernel
theorem tw_1867 : (Jvm.Cond.methodLink "MarshBellsModel" (399 : Nat) ({ cls := "MarshBellsModel", name := "lost", desc := "()I" } : Jvm.MethodName)) ∈ lw_tbl := tk_8 (List.mem_of_getElem? (i := 187) rfl)
theorem tw_1870 : (Jvm.Cond.code ({ cls := "MarshBellsModel", name := "lost", desc := "()I" } : Jvm.MethodName) prog_14_method_47_code (3 : Nat) (Option.some Jvm.ClassFile.FieldType.int)) ∈ lw_tbl := tk_8 (List.mem_of_getElem? (i := 190) rfl)
theorem tw_1869 : (Jvm.Cond.instanceMethod ({ cls := "MarshBellsModel", name := "lost", desc := "()I" } : Jvm.MethodName)) ∈ lw_tbl := tk_8 (List.mem_of_getElem? (i := 189) rfl)
theorem se_X12_lost : Cond.selects RX12 yX12_lost yX12_lost ∈ lw_tbl := List.mem_append_left _ (List.mem_of_getElem? (i := 140) rfl)
theorem li_X12_399 : kLV RX12 399 RX12 yX12_lost cX12_lost 3 (some .int) 0 := ⟨tw_1867, tw_1869, se_X12_lost, tw_1870, tw_13, by decide +kernel⟩
theorem dX12_count_120 : decode cX12_count 120 = .ok (.invokevirtual 399, 3) := by decide +kernel
theorem dX12_count_123 : decode cX12_count 123 = .ok (.ireturn, 1) := by decide +kernel
theorem dX12_count_124 : decode cX12_count 124 = .ok (.aload_n 0, 1) := by decide +kernel
theorem dX12_count_125 : decode cX12_count 125 = .ok (.getfield 180, 3) := by decide +kernel
theorem dX12_count_128 : decode cX12_count 128 = .ok (.ireturn, 1) := by decide +kernel
theorem dX12_count_129 : decode cX12_count 129 = .ok (.aload_n 0, 1) := by decide +kernel
theorem dX12_count_130 : decode cX12_count 130 = .ok (.getfield 59, 3) := by decide +kernel
theorem dX12_count_133 : decode cX12_count 133 = .ok (.iload_n 1, 1) := by decide +kernel
theorem dX12_count_134 : decode cX12_count 134 = .ok (.bipush 9, 2) := by decide +kernel
theorem dX12_count_136 : decode cX12_count 136 = .ok (.isub, 1) := by decide +kernel
theorem dX12_count_137 : decode cX12_count 137 = .ok (.iaload, 1) := by decide +kernel
theorem dX12_count_138 : decode cX12_count 138 = .ok (.ireturn, 1) := by decide +kernel
theorem dX12_count_28 : decode cX12_count 28 = .ok (.aload_n 0, 1) := by decide +kernel
theorem dX12_count_29 : decode cX12_count 29 = .ok (.iload_n 1, 1) := by decide +kernel
theorem tw_1826 : (Jvm.Cond.methodLink "MarshBellsModel" (396 : Nat) ({ cls := "MarshBellsModel", name := "lateness", desc := "(I)I" } : Jvm.MethodName)) ∈ lw_tbl := tk_8 (List.mem_of_getElem? (i := 146) rfl)
theorem tw_1829 : (Jvm.Cond.code ({ cls := "MarshBellsModel", name := "lateness", desc := "(I)I" } : Jvm.MethodName) prog_14_method_49_code (4 : Nat) (Option.some Jvm.ClassFile.FieldType.int)) ∈ lw_tbl := tk_8 (List.mem_of_getElem? (i := 149) rfl)
theorem tw_1828 : (Jvm.Cond.instanceMethod ({ cls := "MarshBellsModel", name := "lateness", desc := "(I)I" } : Jvm.MethodName)) ∈ lw_tbl := tk_8 (List.mem_of_getElem? (i := 148) rfl)
theorem se_X12_lateness : Cond.selects RX12 yX12_lateness yX12_lateness ∈ lw_tbl := List.mem_append_left _ (List.mem_of_getElem? (i := 132) rfl)
theorem li_X12_396 : kLV RX12 396 RX12 yX12_lateness cX12_lateness 4 (some .int) 1 := ⟨tw_1826, tw_1828, se_X12_lateness, tw_1829, tw_13, by decide +kernel⟩
theorem dX12_count_30 : decode cX12_count 30 = .ok (.invokevirtual 396, 3) := by decide +kernel
theorem dX12_count_33 : decode cX12_count 33 = .ok (.ireturn, 1) := by decide +kernel
theorem dX12_count_20 : decode cX12_count 20 = .ok (.iconst 0, 1) := by decide +kernel
theorem dX12_count_21 : decode cX12_count 21 = .ok (.ireturn, 1) := by decide +kernel
theorem dX12_isLesson_0 : decode cX12_isLesson 0 = .ok (.aload_n 0, 1) := by decide +kernel
theorem dX12_isLesson_1 : decode cX12_isLesson 1 = .ok (.iload_n 1, 1) := by decide +kernel
theorem dX12_isLesson_18 : decode cX12_isLesson 18 = .ok (.iconst 1, 1) := by decide +kernel
theorem dX12_isLesson_19 : decode cX12_isLesson 19 = .ok (.invokevirtual 328, 3) := by decide +kernel
theorem dX12_isLesson_22 : decode cX12_isLesson 22 = .ok (.ireturn, 1) := by decide +kernel
theorem dX12_isLesson_17 : decode cX12_isLesson 17 = .ok (.iconst 0, 1) := by decide +kernel
theorem dX12_isLesson_2 : decode cX12_isLesson 2 = .ok (.ifCond .lt 15, 3) := by decide +kernel
theorem dX12_isLesson_5 : decode cX12_isLesson 5 = .ok (.iload_n 1, 1) := by decide +kernel
theorem dX12_isLesson_6 : decode cX12_isLesson 6 = .ok (.aload_n 0, 1) := by decide +kernel
theorem dX12_isLesson_7 : decode cX12_isLesson 7 = .ok (.getfield 335, 3) := by decide +kernel
theorem dX12_isLesson_10 : decode cX12_isLesson 10 = .ok (.if_icmp .ge 7, 3) := by decide +kernel
theorem dX12_isLesson_13 : decode cX12_isLesson 13 = .ok (.iconst 1, 1) := by decide +kernel
theorem dX12_isLesson_14 : decode cX12_isLesson 14 = .ok (.goto 4, 3) := by decide +kernel
theorem dX12_isWhat_0 : decode cX12_isWhat 0 = .ok (.aload_n 0, 1) := by decide +kernel
theorem dX12_isWhat_1 : decode cX12_isWhat 1 = .ok (.iload_n 1, 1) := by decide +kernel
theorem dX12_isWhat_2 : decode cX12_isWhat 2 = .ok (.iconst 0, 1) := by decide +kernel
theorem dX12_isWhat_3 : decode cX12_isWhat 3 = .ok (.iload_n 2, 1) := by decide +kernel
theorem dX12_isWhat_4 : decode cX12_isWhat 4 = .ok (.invokestatic 392, 3) := by decide +kernel
theorem dX12_isWhat_7 : decode cX12_isWhat 7 = .ok (.iconst 1, 1) := by decide +kernel
theorem dX12_isWhat_8 : decode cX12_isWhat 8 = .ok (.invokevirtual 328, 3) := by decide +kernel
theorem dX12_isWhat_11 : decode cX12_isWhat 11 = .ok (.ireturn, 1) := by decide +kernel
theorem dX12_waitsSet_0 : decode cX12_waitsSet 0 = .ok (.iconst 0, 1) := by decide +kernel
theorem dX12_waitsSet_1 : decode cX12_waitsSet 1 = .ok (.istore_n 2, 1) := by decide +kernel
theorem dX12_waitsSet_2 : decode cX12_waitsSet 2 = .ok (.iconst 0, 1) := by decide +kernel
theorem dX12_waitsSet_3 : decode cX12_waitsSet 3 = .ok (.istore_n 3, 1) := by decide +kernel
theorem dX12_waitsSet_4 : decode cX12_waitsSet 4 = .ok (.iload_n 3, 1) := by decide +kernel
theorem dX12_waitsSet_5 : decode cX12_waitsSet 5 = .ok (.aload_n 0, 1) := by decide +kernel
theorem dX12_waitsSet_6 : decode cX12_waitsSet 6 = .ok (.getfield 38, 3) := by decide +kernel
theorem dX12_waitsSet_9 : decode cX12_waitsSet 9 = .ok (.iload_n 1, 1) := by decide +kernel
theorem dX12_waitsSet_10 : decode cX12_waitsSet 10 = .ok (.iaload, 1) := by decide +kernel
theorem dX12_waitsSet_11 : decode cX12_waitsSet 11 = .ok (.if_icmp .ge 25, 3) := by decide +kernel
theorem dX12_waitsSet_36 : decode cX12_waitsSet 36 = .ok (.iload_n 2, 1) := by decide +kernel
theorem dX12_waitsSet_37 : decode cX12_waitsSet 37 = .ok (.ireturn, 1) := by decide +kernel
theorem dX12_waitsSet_14 : decode cX12_waitsSet 14 = .ok (.iload_n 2, 1) := by decide +kernel
theorem dX12_waitsSet_15 : decode cX12_waitsSet 15 = .ok (.iconst 1, 1) := by decide +kernel
theorem dX12_waitsSet_16 : decode cX12_waitsSet 16 = .ok (.aload_n 0, 1) := by decide +kernel
theorem dX12_waitsSet_17 : decode cX12_waitsSet 17 = .ok (.getfield 41, 3) := by decide +kernel
theorem dX12_waitsSet_20 : decode cX12_waitsSet 20 = .ok (.bipush 6, 2) := by decide +kernel
theorem dX12_waitsSet_22 : decode cX12_waitsSet 22 = .ok (.iload_n 1, 1) := by decide +kernel
theorem dX12_waitsSet_23 : decode cX12_waitsSet 23 = .ok (.imul, 1) := by decide +kernel
theorem dX12_waitsSet_24 : decode cX12_waitsSet 24 = .ok (.iload_n 3, 1) := by decide +kernel
theorem dX12_waitsSet_25 : decode cX12_waitsSet 25 = .ok (.iadd, 1) := by decide +kernel
theorem dX12_waitsSet_26 : decode cX12_waitsSet 26 = .ok (.iaload, 1) := by decide +kernel
theorem dX12_waitsSet_27 : decode cX12_waitsSet 27 = .ok (.ishl, 1) := by decide +kernel
theorem dX12_waitsSet_28 : decode cX12_waitsSet 28 = .ok (.ior, 1) := by decide +kernel
theorem dX12_waitsSet_29 : decode cX12_waitsSet 29 = .ok (.istore_n 2, 1) := by decide +kernel
theorem dX12_waitsSet_30 : decode cX12_waitsSet 30 = .ok (.iinc 3 1, 3) := by decide +kernel
theorem dX12_waitsSet_33 : decode cX12_waitsSet 33 = .ok (.goto (-29), 3) := by decide +kernel
theorem dX12_lesson_0 : decode cX12_lesson 0 = .ok (.aload_n 0, 1) := by decide +kernel
theorem dX12_lesson_1 : decode cX12_lesson 1 = .ok (.iconst 0, 1) := by decide +kernel
theorem dX12_lesson_2 : decode cX12_lesson 2 = .ok (.putfield 177, 3) := by decide +kernel
theorem dX12_lesson_5 : decode cX12_lesson 5 = .ok (.aload_n 0, 1) := by decide +kernel
theorem dX12_lesson_6 : decode cX12_lesson 6 = .ok (.iload_n 1, 1) := by decide +kernel
theorem tw_1875 : (Jvm.Cond.methodLink "MarshBellsModel" (402 : Nat) ({ cls := "MarshBellsModel", name := "isLesson", desc := "(I)Z" } : Jvm.MethodName)) ∈ lw_tbl := tk_8 (List.mem_of_getElem? (i := 195) rfl)
theorem tw_1878 : (Jvm.Cond.code ({ cls := "MarshBellsModel", name := "isLesson", desc := "(I)Z" } : Jvm.MethodName) prog_14_method_51_code (2 : Nat) (Option.some Jvm.ClassFile.FieldType.boolean)) ∈ lw_tbl := tk_8 (List.mem_of_getElem? (i := 198) rfl)
theorem tw_1877 : (Jvm.Cond.instanceMethod ({ cls := "MarshBellsModel", name := "isLesson", desc := "(I)Z" } : Jvm.MethodName)) ∈ lw_tbl := tk_8 (List.mem_of_getElem? (i := 197) rfl)
theorem se_X12_isLesson : Cond.selects RX12 yX12_isLesson yX12_isLesson ∈ lw_tbl := List.mem_append_left _ (List.mem_of_getElem? (i := 141) rfl)
theorem li_X12_402 : kLV RX12 402 RX12 yX12_isLesson cX12_isLesson 2 (some .boolean) 1 := ⟨tw_1875, tw_1877, se_X12_isLesson, tw_1878, tw_13, by decide +kernel⟩
theorem dX12_lesson_7 : decode cX12_lesson 7 = .ok (.invokevirtual 402, 3) := by decide +kernel
theorem dX12_lesson_23 : decode cX12_lesson 23 = .ok (.iconst 0, 1) := by decide +kernel
theorem dX12_lesson_24 : decode cX12_lesson 24 = .ok (.ireturn, 1) := by decide +kernel
theorem dX12_lesson_10 : decode cX12_lesson 10 = .ok (.ifCond .eq 13, 3) := by decide +kernel
theorem dX12_lesson_13 : decode cX12_lesson 13 = .ok (.aload_n 0, 1) := by decide +kernel
theorem dX12_lesson_14 : decode cX12_lesson 14 = .ok (.iload_n 2, 1) := by decide +kernel
theorem dX12_lesson_15 : decode cX12_lesson 15 = .ok (.bipush 11, 2) := by decide +kernel
theorem tw_1879 : (Jvm.Cond.methodLink "MarshBellsModel" (405 : Nat) ({ cls := "MarshBellsModel", name := "isWhat", desc := "(II)Z" } : Jvm.MethodName)) ∈ lw_tbl := tk_8 (List.mem_of_getElem? (i := 199) rfl)
theorem tw_1882 : (Jvm.Cond.code ({ cls := "MarshBellsModel", name := "isWhat", desc := "(II)Z" } : Jvm.MethodName) prog_14_method_52_code (3 : Nat) (Option.some Jvm.ClassFile.FieldType.boolean)) ∈ lw_tbl := tk_8 (List.mem_of_getElem? (i := 202) rfl)
theorem tw_1881 : (Jvm.Cond.instanceMethod ({ cls := "MarshBellsModel", name := "isWhat", desc := "(II)Z" } : Jvm.MethodName)) ∈ lw_tbl := tk_8 (List.mem_of_getElem? (i := 201) rfl)
theorem se_X12_isWhat : Cond.selects RX12 yX12_isWhat yX12_isWhat ∈ lw_tbl := List.mem_append_left _ (List.mem_of_getElem? (i := 142) rfl)
theorem li_X12_405 : kLV RX12 405 RX12 yX12_isWhat cX12_isWhat 3 (some .boolean) 2 := ⟨tw_1879, tw_1881, se_X12_isWhat, tw_1882, tw_13, by decide +kernel⟩
theorem dX12_lesson_17 : decode cX12_lesson 17 = .ok (.invokevirtual 405, 3) := by decide +kernel
theorem dX12_lesson_20 : decode cX12_lesson 20 = .ok (.ifCond .ne 5, 3) := by decide +kernel
theorem dX12_lesson_25 : decode cX12_lesson 25 = .ok (.iload_n 2, 1) := by decide +kernel
theorem dX12_lesson_26 : decode cX12_lesson 26 = .ok (.tableswitch 142 0 10 #[58, 65, 72, 79, 88, 98, 105, 112, 119, 125, 135], 58) := by decide +kernel
theorem dX12_lesson_84 : decode cX12_lesson 84 = .ok (.aload_n 0, 1) := by decide +kernel
theorem dX12_lesson_85 : decode cX12_lesson 85 = .ok (.getfield 16, 3) := by decide +kernel
theorem dX12_lesson_88 : decode cX12_lesson 88 = .ok (.iload_n 1, 1) := by decide +kernel
theorem dX12_lesson_89 : decode cX12_lesson 89 = .ok (.iaload, 1) := by decide +kernel
theorem dX12_lesson_90 : decode cX12_lesson 90 = .ok (.ireturn, 1) := by decide +kernel
theorem dX12_lesson_91 : decode cX12_lesson 91 = .ok (.aload_n 0, 1) := by decide +kernel
theorem dX12_lesson_92 : decode cX12_lesson 92 = .ok (.getfield 20, 3) := by decide +kernel
theorem dX12_lesson_95 : decode cX12_lesson 95 = .ok (.iload_n 1, 1) := by decide +kernel
theorem dX12_lesson_96 : decode cX12_lesson 96 = .ok (.iaload, 1) := by decide +kernel
theorem dX12_lesson_97 : decode cX12_lesson 97 = .ok (.ireturn, 1) := by decide +kernel
theorem dX12_lesson_98 : decode cX12_lesson 98 = .ok (.aload_n 0, 1) := by decide +kernel
theorem dX12_lesson_99 : decode cX12_lesson 99 = .ok (.getfield 23, 3) := by decide +kernel
theorem dX12_lesson_102 : decode cX12_lesson 102 = .ok (.iload_n 1, 1) := by decide +kernel
theorem dX12_lesson_103 : decode cX12_lesson 103 = .ok (.iaload, 1) := by decide +kernel
theorem dX12_lesson_104 : decode cX12_lesson 104 = .ok (.ireturn, 1) := by decide +kernel
theorem dX12_lesson_105 : decode cX12_lesson 105 = .ok (.aload_n 0, 1) := by decide +kernel
theorem dX12_lesson_106 : decode cX12_lesson 106 = .ok (.getfield 50, 3) := by decide +kernel
theorem dX12_lesson_109 : decode cX12_lesson 109 = .ok (.iconst 0, 1) := by decide +kernel
theorem dX12_lesson_110 : decode cX12_lesson 110 = .ok (.iload_n 1, 1) := by decide +kernel
theorem dX12_lesson_111 : decode cX12_lesson 111 = .ok (.iadd, 1) := by decide +kernel
theorem dX12_lesson_112 : decode cX12_lesson 112 = .ok (.iaload, 1) := by decide +kernel
theorem dX12_lesson_113 : decode cX12_lesson 113 = .ok (.ireturn, 1) := by decide +kernel
theorem dX12_lesson_114 : decode cX12_lesson 114 = .ok (.aload_n 0, 1) := by decide +kernel
theorem dX12_lesson_115 : decode cX12_lesson 115 = .ok (.getfield 50, 3) := by decide +kernel
theorem dX12_lesson_118 : decode cX12_lesson 118 = .ok (.bipush 24, 2) := by decide +kernel
theorem dX12_lesson_120 : decode cX12_lesson 120 = .ok (.iload_n 1, 1) := by decide +kernel
theorem dX12_lesson_121 : decode cX12_lesson 121 = .ok (.iadd, 1) := by decide +kernel
theorem dX12_lesson_122 : decode cX12_lesson 122 = .ok (.iaload, 1) := by decide +kernel
theorem dX12_lesson_123 : decode cX12_lesson 123 = .ok (.ireturn, 1) := by decide +kernel
theorem dX12_lesson_124 : decode cX12_lesson 124 = .ok (.aload_n 0, 1) := by decide +kernel
theorem dX12_lesson_125 : decode cX12_lesson 125 = .ok (.getfield 26, 3) := by decide +kernel
theorem dX12_lesson_128 : decode cX12_lesson 128 = .ok (.iload_n 1, 1) := by decide +kernel
theorem dX12_lesson_129 : decode cX12_lesson 129 = .ok (.iaload, 1) := by decide +kernel
theorem dX12_lesson_130 : decode cX12_lesson 130 = .ok (.ireturn, 1) := by decide +kernel
theorem dX12_lesson_131 : decode cX12_lesson 131 = .ok (.aload_n 0, 1) := by decide +kernel
theorem dX12_lesson_132 : decode cX12_lesson 132 = .ok (.getfield 29, 3) := by decide +kernel
theorem dX12_lesson_135 : decode cX12_lesson 135 = .ok (.iload_n 1, 1) := by decide +kernel
theorem dX12_lesson_136 : decode cX12_lesson 136 = .ok (.iaload, 1) := by decide +kernel
theorem dX12_lesson_137 : decode cX12_lesson 137 = .ok (.ireturn, 1) := by decide +kernel
theorem dX12_lesson_138 : decode cX12_lesson 138 = .ok (.aload_n 0, 1) := by decide +kernel
theorem dX12_lesson_139 : decode cX12_lesson 139 = .ok (.getfield 32, 3) := by decide +kernel
theorem dX12_lesson_142 : decode cX12_lesson 142 = .ok (.iload_n 1, 1) := by decide +kernel
theorem dX12_lesson_143 : decode cX12_lesson 143 = .ok (.iaload, 1) := by decide +kernel
theorem dX12_lesson_144 : decode cX12_lesson 144 = .ok (.ireturn, 1) := by decide +kernel
theorem dX12_lesson_145 : decode cX12_lesson 145 = .ok (.aload_n 0, 1) := by decide +kernel
theorem dX12_lesson_146 : decode cX12_lesson 146 = .ok (.iload_n 1, 1) := by decide +kernel
theorem tw_1883 : (Jvm.Cond.methodLink "MarshBellsModel" (408 : Nat) ({ cls := "MarshBellsModel", name := "waitsSet", desc := "(I)I" } : Jvm.MethodName)) ∈ lw_tbl := tk_8 (List.mem_of_getElem? (i := 203) rfl)
theorem tw_1886 : (Jvm.Cond.code ({ cls := "MarshBellsModel", name := "waitsSet", desc := "(I)I" } : Jvm.MethodName) prog_14_method_53_code (4 : Nat) (Option.some Jvm.ClassFile.FieldType.int)) ∈ lw_tbl := tk_8 (List.mem_of_getElem? (i := 206) rfl)
theorem tw_1885 : (Jvm.Cond.instanceMethod ({ cls := "MarshBellsModel", name := "waitsSet", desc := "(I)I" } : Jvm.MethodName)) ∈ lw_tbl := tk_8 (List.mem_of_getElem? (i := 205) rfl)
theorem se_X12_waitsSet : Cond.selects RX12 yX12_waitsSet yX12_waitsSet ∈ lw_tbl := List.mem_append_left _ (List.mem_of_getElem? (i := 143) rfl)
theorem li_X12_408 : kLV RX12 408 RX12 yX12_waitsSet cX12_waitsSet 4 (some .int) 1 := ⟨tw_1883, tw_1885, se_X12_waitsSet, tw_1886, tw_13, by decide +kernel⟩
theorem dX12_lesson_147 : decode cX12_lesson 147 = .ok (.invokevirtual 408, 3) := by decide +kernel
theorem dX12_lesson_150 : decode cX12_lesson 150 = .ok (.ireturn, 1) := by decide +kernel
theorem dX12_lesson_151 : decode cX12_lesson 151 = .ok (.aload_n 0, 1) := by decide +kernel
theorem dX12_lesson_152 : decode cX12_lesson 152 = .ok (.getfield 50, 3) := by decide +kernel
theorem dX12_lesson_155 : decode cX12_lesson 155 = .ok (.bipush 36, 2) := by decide +kernel
theorem dX12_lesson_157 : decode cX12_lesson 157 = .ok (.iload_n 1, 1) := by decide +kernel
theorem dX12_lesson_158 : decode cX12_lesson 158 = .ok (.iadd, 1) := by decide +kernel
theorem dX12_lesson_159 : decode cX12_lesson 159 = .ok (.iaload, 1) := by decide +kernel
theorem dX12_lesson_160 : decode cX12_lesson 160 = .ok (.ireturn, 1) := by decide +kernel
theorem dX12_lesson_161 : decode cX12_lesson 161 = .ok (.aload_n 0, 1) := by decide +kernel
theorem dX12_lesson_162 : decode cX12_lesson 162 = .ok (.getfield 35, 3) := by decide +kernel
theorem dX12_lesson_165 : decode cX12_lesson 165 = .ok (.iload_n 1, 1) := by decide +kernel
theorem dX12_lesson_166 : decode cX12_lesson 166 = .ok (.iaload, 1) := by decide +kernel
theorem dX12_lesson_167 : decode cX12_lesson 167 = .ok (.ireturn, 1) := by decide +kernel
theorem dX12_lesson_168 : decode cX12_lesson 168 = .ok (.aload_n 0, 1) := by decide +kernel
theorem dX12_lesson_169 : decode cX12_lesson 169 = .ok (.getfield 50, 3) := by decide +kernel
theorem dX12_lesson_172 : decode cX12_lesson 172 = .ok (.bipush 12, 2) := by decide +kernel
theorem dX12_lesson_174 : decode cX12_lesson 174 = .ok (.iload_n 1, 1) := by decide +kernel
theorem dX12_lesson_175 : decode cX12_lesson 175 = .ok (.iadd, 1) := by decide +kernel
theorem dX12_lesson_176 : decode cX12_lesson 176 = .ok (.iaload, 1) := by decide +kernel
theorem dX12_lesson_177 : decode cX12_lesson 177 = .ok (.ireturn, 1) := by decide +kernel
theorem dX12_day_0 : decode cX12_day 0 = .ok (.aload_n 0, 1) := by decide +kernel
theorem dX12_day_1 : decode cX12_day 1 = .ok (.iconst 0, 1) := by decide +kernel
theorem dX12_day_2 : decode cX12_day 2 = .ok (.putfield 177, 3) := by decide +kernel
theorem dX12_day_5 : decode cX12_day 5 = .ok (.aload_n 0, 1) := by decide +kernel
theorem dX12_day_6 : decode cX12_day 6 = .ok (.iload_n 1, 1) := by decide +kernel
theorem dX12_day_7 : decode cX12_day 7 = .ok (.invokevirtual 402, 3) := by decide +kernel
theorem dX12_day_22 : decode cX12_day 22 = .ok (.iconst 0, 1) := by decide +kernel
theorem dX12_day_23 : decode cX12_day 23 = .ok (.ireturn, 1) := by decide +kernel
theorem dX12_day_10 : decode cX12_day 10 = .ok (.ifCond .eq 12, 3) := by decide +kernel
theorem dX12_day_13 : decode cX12_day 13 = .ok (.aload_n 0, 1) := by decide +kernel
theorem dX12_day_14 : decode cX12_day 14 = .ok (.iload_n 2, 1) := by decide +kernel
theorem dX12_day_15 : decode cX12_day 15 = .ok (.iconst 4, 1) := by decide +kernel
theorem dX12_day_16 : decode cX12_day 16 = .ok (.invokevirtual 405, 3) := by decide +kernel
theorem dX12_day_19 : decode cX12_day 19 = .ok (.ifCond .ne 5, 3) := by decide +kernel
theorem dX12_day_24 : decode cX12_day 24 = .ok (.aload_n 0, 1) := by decide +kernel
theorem dX12_day_25 : decode cX12_day 25 = .ok (.invokevirtual 386, 3) := by decide +kernel
theorem dX12_day_28 : decode cX12_day 28 = .ok (.iload_n 2, 1) := by decide +kernel
theorem dX12_day_88 : decode cX12_day 88 = .ok (.ireturn, 1) := by decide +kernel
theorem dX12_day_29 : decode cX12_day 29 = .ok (.ifCond .ne 12, 3) := by decide +kernel
theorem dX12_day_41 : decode cX12_day 41 = .ok (.iload_n 2, 1) := by decide +kernel
theorem dX12_day_42 : decode cX12_day 42 = .ok (.iconst 1, 1) := by decide +kernel
theorem dX12_day_43 : decode cX12_day 43 = .ok (.if_icmp .ne 12, 3) := by decide +kernel
theorem dX12_day_55 : decode cX12_day 55 = .ok (.iload_n 2, 1) := by decide +kernel
theorem dX12_day_56 : decode cX12_day 56 = .ok (.iconst 2, 1) := by decide +kernel
theorem dX12_day_57 : decode cX12_day 57 = .ok (.if_icmp .ne 11, 3) := by decide +kernel
theorem dX12_day_68 : decode cX12_day 68 = .ok (.iload_n 2, 1) := by decide +kernel
theorem dX12_day_69 : decode cX12_day 69 = .ok (.iconst 3, 1) := by decide +kernel
theorem dX12_day_70 : decode cX12_day 70 = .ok (.if_icmp .ne 12, 3) := by decide +kernel
theorem dX12_day_82 : decode cX12_day 82 = .ok (.aload_n 0, 1) := by decide +kernel
theorem dX12_day_83 : decode cX12_day 83 = .ok (.getfield 123, 3) := by decide +kernel
theorem dX12_day_86 : decode cX12_day 86 = .ok (.iload_n 1, 1) := by decide +kernel
theorem dX12_day_87 : decode cX12_day 87 = .ok (.iaload, 1) := by decide +kernel
theorem dX12_day_73 : decode cX12_day 73 = .ok (.aload_n 0, 1) := by decide +kernel
theorem dX12_day_74 : decode cX12_day 74 = .ok (.getfield 120, 3) := by decide +kernel
theorem dX12_day_77 : decode cX12_day 77 = .ok (.iload_n 1, 1) := by decide +kernel
theorem dX12_day_78 : decode cX12_day 78 = .ok (.iaload, 1) := by decide +kernel
theorem dX12_day_79 : decode cX12_day 79 = .ok (.goto 9, 3) := by decide +kernel
theorem dX12_day_60 : decode cX12_day 60 = .ok (.aload_n 0, 1) := by decide +kernel
theorem dX12_day_61 : decode cX12_day 61 = .ok (.iload_n 1, 1) := by decide +kernel
theorem dX12_day_62 : decode cX12_day 62 = .ok (.invokevirtual 389, 3) := by decide +kernel
theorem dX12_day_65 : decode cX12_day 65 = .ok (.goto 23, 3) := by decide +kernel
theorem dX12_day_46 : decode cX12_day 46 = .ok (.aload_n 0, 1) := by decide +kernel
theorem dX12_day_47 : decode cX12_day 47 = .ok (.getfield 117, 3) := by decide +kernel
theorem dX12_day_50 : decode cX12_day 50 = .ok (.iload_n 1, 1) := by decide +kernel
theorem dX12_day_51 : decode cX12_day 51 = .ok (.iaload, 1) := by decide +kernel
theorem dX12_day_52 : decode cX12_day 52 = .ok (.goto 36, 3) := by decide +kernel
theorem dX12_day_32 : decode cX12_day 32 = .ok (.aload_n 0, 1) := by decide +kernel
theorem dX12_day_33 : decode cX12_day 33 = .ok (.getfield 114, 3) := by decide +kernel
theorem dX12_day_36 : decode cX12_day 36 = .ok (.iload_n 1, 1) := by decide +kernel
theorem dX12_day_37 : decode cX12_day 37 = .ok (.iaload, 1) := by decide +kernel
theorem dX12_day_38 : decode cX12_day 38 = .ok (.goto 50, 3) := by decide +kernel
theorem dX12_chain_0 : decode cX12_chain 0 = .ok (.aload_n 0, 1) := by decide +kernel
theorem dX12_chain_1 : decode cX12_chain 1 = .ok (.iconst 0, 1) := by decide +kernel
theorem dX12_chain_2 : decode cX12_chain 2 = .ok (.putfield 177, 3) := by decide +kernel
theorem dX12_chain_5 : decode cX12_chain 5 = .ok (.aload_n 0, 1) := by decide +kernel
theorem dX12_chain_6 : decode cX12_chain 6 = .ok (.iload_n 1, 1) := by decide +kernel
theorem dX12_chain_7 : decode cX12_chain 7 = .ok (.invokevirtual 402, 3) := by decide +kernel
theorem dX12_chain_30 : decode cX12_chain 30 = .ok (.iconst 0, 1) := by decide +kernel
theorem dX12_chain_31 : decode cX12_chain 31 = .ok (.ireturn, 1) := by decide +kernel
theorem dX12_chain_10 : decode cX12_chain 10 = .ok (.ifCond .eq 20, 3) := by decide +kernel
theorem dX12_chain_13 : decode cX12_chain 13 = .ok (.aload_n 0, 1) := by decide +kernel
theorem dX12_chain_14 : decode cX12_chain 14 = .ok (.iload_n 2, 1) := by decide +kernel
theorem dX12_chain_23 : decode cX12_chain 23 = .ok (.iconst 1, 1) := by decide +kernel
theorem dX12_chain_24 : decode cX12_chain 24 = .ok (.invokevirtual 328, 3) := by decide +kernel
theorem dX12_chain_27 : decode cX12_chain 27 = .ok (.ifCond .ne 5, 3) := by decide +kernel
theorem dX12_chain_32 : decode cX12_chain 32 = .ok (.aload_n 0, 1) := by decide +kernel
theorem dX12_chain_33 : decode cX12_chain 33 = .ok (.invokevirtual 386, 3) := by decide +kernel
theorem dX12_chain_36 : decode cX12_chain 36 = .ok (.iload_n 1, 1) := by decide +kernel
theorem dX12_chain_37 : decode cX12_chain 37 = .ok (.istore_n 3, 1) := by decide +kernel
theorem dX12_chain_38 : decode cX12_chain 38 = .ok (.iconst 0, 1) := by decide +kernel
theorem dX12_chain_39 : decode cX12_chain 39 = .ok (.istore 4, 2) := by decide +kernel
theorem dX12_chain_41 : decode cX12_chain 41 = .ok (.iload 4, 2) := by decide +kernel
theorem dX12_chain_43 : decode cX12_chain 43 = .ok (.iload_n 2, 1) := by decide +kernel
theorem dX12_chain_65 : decode cX12_chain 65 = .ok (.iload_n 3, 1) := by decide +kernel
theorem dX12_chain_66 : decode cX12_chain 66 = .ok (.ireturn, 1) := by decide +kernel
theorem dX12_chain_44 : decode cX12_chain 44 = .ok (.if_icmp .ge 21, 3) := by decide +kernel
theorem dX12_chain_47 : decode cX12_chain 47 = .ok (.iload_n 3, 1) := by decide +kernel
theorem dX12_chain_48 : decode cX12_chain 48 = .ok (.iconst (-1), 1) := by decide +kernel
theorem dX12_chain_49 : decode cX12_chain 49 = .ok (.if_icmp .eq 16, 3) := by decide +kernel
theorem dX12_chain_52 : decode cX12_chain 52 = .ok (.aload_n 0, 1) := by decide +kernel
theorem dX12_chain_53 : decode cX12_chain 53 = .ok (.getfield 123, 3) := by decide +kernel
theorem dX12_chain_56 : decode cX12_chain 56 = .ok (.iload_n 3, 1) := by decide +kernel
theorem dX12_chain_57 : decode cX12_chain 57 = .ok (.iaload, 1) := by decide +kernel
theorem dX12_chain_58 : decode cX12_chain 58 = .ok (.istore_n 3, 1) := by decide +kernel
theorem dX12_chain_59 : decode cX12_chain 59 = .ok (.iinc 4 1, 3) := by decide +kernel
theorem dX12_chain_62 : decode cX12_chain 62 = .ok (.goto (-21), 3) := by decide +kernel
theorem dX12_chain_15 : decode cX12_chain 15 = .ok (.ifCond .lt 7, 3) := by decide +kernel
theorem dX12_chain_22 : decode cX12_chain 22 = .ok (.iconst 0, 1) := by decide +kernel
theorem dX12_chain_18 : decode cX12_chain 18 = .ok (.iconst 1, 1) := by decide +kernel
theorem dX12_chain_19 : decode cX12_chain 19 = .ok (.goto 4, 3) := by decide +kernel
def fX12_works_p57 (fu : Nat) (t0 : Int32) (g : Nat → Nat → Int32) (L : Nat → Nat → Int64) : Option ((Int32) × zS) :=
  some (t0, (g, L))
def fX12_works_p56 (fu : Nat) (g : Nat → Nat → Int32) (L : Nat → Nat → Int64) : Option ((Int32) × zS) :=
  fX12_works_p57 fu 0 g L
def fX12_works_p71 (fu : Nat) (t0 : Int32) (g : Nat → Nat → Int32) (L : Nat → Nat → Int64) : Option ((Int32) × zS) :=
  some (t0, (g, L))
def fX12_works_p66 (fu : Nat) (g : Nat → Nat → Int32) (L : Nat → Nat → Int64) : Option ((Int32) × zS) :=
  fX12_works_p71 fu 1 g L
def fX12_works_p82 (fu : Nat) (t0 : Int32) (g : Nat → Nat → Int32) (L : Nat → Nat → Int64) : Option ((Int32) × zS) :=
  some (t0, (g, L))
def fX12_works_p93 (fu : Nat) (t0 : Int32) (g : Nat → Nat → Int32) (L : Nat → Nat → Int64) : Option ((Int32) × zS) :=
  some (t0, (g, L))
def fX12_works_p117 (fu : Nat) (t0 : Int32) (g : Nat → Nat → Int32) (L : Nat → Nat → Int64) : Option ((Int32) × zS) :=
  some (t0, (g, L))
def fX12_works (fu : Nat) (p1 : Int32) (p2 : Int32) (p3 : Int32) (g : Nat → Nat → Int32) (L : Nat → Nat → Int64) : Option ((Int32) × zS) :=
  if (Int32.toInt p1) = 4 then (if p2 = 0 then fX12_works_p56 fu g L
  else if p3 = 0 then fX12_works_p56 fu g L
  else fX12_works_p57 fu 1 g L) else
  if (Int32.toInt p1) = 5 then (if p2 = 0 then (if p3 = 0 then fX12_works_p71 fu 0 g L
  else fX12_works_p66 fu g L)
  else fX12_works_p66 fu g L) else
  if (Int32.toInt p1) = 6 then (if p3 ≤ (p2 : Int32) then fX12_works_p82 fu 0 g L
  else fX12_works_p82 fu 1 g L) else
  if (Int32.toInt p1) = 7 then (if (p2 : Int32) = p3 then fX12_works_p93 fu 1 g L
  else fX12_works_p93 fu 0 g L) else
  if (Int32.toInt p1) = 8 then (some ((p2 + p3), (g, L))) else
  if (Int32.toInt p1) = 9 then (some ((p2 - p3), (g, L))) else
  if (Int32.toInt p1) = 10 then (some ((p2 * p3), (g, L))) else
  if p3 = 0 then fX12_works_p117 fu 0 g L
  else cnz p3 (
  fX12_works_p117 fu (p2 / p3) g L)
set_option maxHeartbeats 4000000 in
set_option maxRecDepth 100000 in
theorem rX12_works (l : Launch) (G : kG) (sz : Nat) (a : Nat → Nat) (fu : Nat) (g : Nat → Nat → Int32) (L : Nat → Nat → Int64) (p1 : Int32) (p2 : Int32) (p3 : Int32) (res : Int32) (s9 : zS) (h : fX12_works fu p1 p2 p3 g L = some (res, s9)) : kM l yX12_works cX12_works 3 (some .int) { frames := 6, cells := 0, slots := 0, locals := 110 } G [.int p1, .int p2, .int p3] (zw G MS 51 a g L) sz (kQi G (S := Unit) (fun r' _ => r' = res) (fun _ => zw G MS 51 a s9.1 s9.2)) := by
  refine kM.of (by decide) (Nat.le_of_ble_eq_true rfl) ?_
  intro p e s m below meth c A ls H C hr hlk hnm hP hD hS hl
  have C : kC G p s m c cX12_works 3 RX12 A := C
  have hx := C.1
  have hb := C.2.1
  have hl : lv_has ls 3 [(0, .int p1), (1, .int p2), (2, .int p3)] := hl
  obtain ⟨locs, hlocs⟩ : ∃ q : List Loc, q = [] := ⟨_, rfl⟩
  rw [← hlocs] at hS
  rw [← hlocs]
  unfold fX12_works at h
  refine lv_iload_n hx hb dX12_works_0 rfl (lv_at hl 0 rfl) ?_
  by_cases c1 : (Int32.toInt p1) = 4
  ·
    have h := ite_t c1 h
    refine lv_tableIn (off := 43) (tgt := 44) hx hb dX12_works_1 (by omega) (by omega) (by rw [c1]; rfl) (by decide) ?_
    refine lv_iload_n hx hb dX12_works_44 rfl (lv_at hl 1 rfl) ?_
    have J57 : ∀ (t0 : Int32) (g : Nat → Nat → Int32) (L : Nat → Nat → Int64) (H : Heap) (locs : List Loc) (ls : Array Slot), fX12_works_p57 fu t0 g L = some (res, s9) → va_P G.1 vwCl (zw G MS 51 a g L) H → va_D A (zw G MS 51 a g L) → va_S A s.heap H locs → lv_has ls 3 [] → W p l e { frames := 6, cells := 0, slots := 0, locals := 110 } s m [.int p1, .int p2, .int p3].toArray below meth c H locs 0 0 (MQ below ((kQi G (S := Unit) (fun r' _ => r' = res) (fun _ => zw G MS 51 a s9.1 s9.2)) A) [.int p1, .int p2, .int p3].toArray s 0 0 A) (F0 m 57 ls [.int t0]) := by
      intro t0 g L H locs ls h hP hD hS hl
      unfold fX12_works_p57 at h
      exact y_iret C hr hlk hP hD hS h (Nat.le_of_ble_eq_true rfl) (Nat.le_of_ble_eq_true rfl) dX12_works_57
    have J56 : ∀ (g : Nat → Nat → Int32) (L : Nat → Nat → Int64) (H : Heap) (locs : List Loc) (ls : Array Slot), fX12_works_p56 fu g L = some (res, s9) → va_P G.1 vwCl (zw G MS 51 a g L) H → va_D A (zw G MS 51 a g L) → va_S A s.heap H locs → lv_has ls 3 [] → W p l e { frames := 6, cells := 0, slots := 0, locals := 110 } s m [.int p1, .int p2, .int p3].toArray below meth c H locs 0 0 (MQ below ((kQi G (S := Unit) (fun r' _ => r' = res) (fun _ => zw G MS 51 a s9.1 s9.2)) A) [.int p1, .int p2, .int p3].toArray s 0 0 A) (F0 m 56 ls []) := by
      intro g L H locs ls h hP hD hS hl
      unfold fX12_works_p56 at h
      refine lv_iconst (v := 0) hx hb dX12_works_56 (by decide) ?_
      exact J57 0 g L H locs ls h hP hD hS (lv_sub hl [] rfl)
    refine lv_if_eq (x := p2) (tgt := 56) hx hb dX12_works_45 (by decide) (fun c2 => ?_) (fun c2 => ?_)
    ·
      have h := ite_t c2 h
      exact J56 g L H locs ls h hP hD hS (lv_sub hl [] rfl)
    ·
      have h := ite_e c2 h
      refine lv_iload_n hx hb dX12_works_48 rfl (lv_at hl 2 rfl) ?_
      refine lv_if_eq (x := p3) (tgt := 56) hx hb dX12_works_49 (by decide) (fun c3 => ?_) (fun c3 => ?_)
      ·
        have h := ite_t c3 h
        exact J56 g L H locs ls h hP hD hS (lv_sub hl [] rfl)
      ·
        have h := ite_e c3 h
        refine lv_iconst (v := 1) hx hb dX12_works_52 (by decide) ?_
        refine lv_goto (tgt := 57) hx hb dX12_works_53 (by decide) ?_
        exact J57 1 g L H locs ls h hP hD hS (lv_sub hl [] rfl)
  have h := ite_e c1 h
  by_cases c4 : (Int32.toInt p1) = 5
  ·
    have h := ite_t c4 h
    refine lv_tableIn (off := 57) (tgt := 58) hx hb dX12_works_1 (by omega) (by omega) (by rw [c4]; rfl) (by decide) ?_
    refine lv_iload_n hx hb dX12_works_58 rfl (lv_at hl 1 rfl) ?_
    have J71 : ∀ (t0 : Int32) (g : Nat → Nat → Int32) (L : Nat → Nat → Int64) (H : Heap) (locs : List Loc) (ls : Array Slot), fX12_works_p71 fu t0 g L = some (res, s9) → va_P G.1 vwCl (zw G MS 51 a g L) H → va_D A (zw G MS 51 a g L) → va_S A s.heap H locs → lv_has ls 3 [] → W p l e { frames := 6, cells := 0, slots := 0, locals := 110 } s m [.int p1, .int p2, .int p3].toArray below meth c H locs 0 0 (MQ below ((kQi G (S := Unit) (fun r' _ => r' = res) (fun _ => zw G MS 51 a s9.1 s9.2)) A) [.int p1, .int p2, .int p3].toArray s 0 0 A) (F0 m 71 ls [.int t0]) := by
      intro t0 g L H locs ls h hP hD hS hl
      unfold fX12_works_p71 at h
      exact y_iret C hr hlk hP hD hS h (Nat.le_of_ble_eq_true rfl) (Nat.le_of_ble_eq_true rfl) dX12_works_71
    have J66 : ∀ (g : Nat → Nat → Int32) (L : Nat → Nat → Int64) (H : Heap) (locs : List Loc) (ls : Array Slot), fX12_works_p66 fu g L = some (res, s9) → va_P G.1 vwCl (zw G MS 51 a g L) H → va_D A (zw G MS 51 a g L) → va_S A s.heap H locs → lv_has ls 3 [] → W p l e { frames := 6, cells := 0, slots := 0, locals := 110 } s m [.int p1, .int p2, .int p3].toArray below meth c H locs 0 0 (MQ below ((kQi G (S := Unit) (fun r' _ => r' = res) (fun _ => zw G MS 51 a s9.1 s9.2)) A) [.int p1, .int p2, .int p3].toArray s 0 0 A) (F0 m 66 ls []) := by
      intro g L H locs ls h hP hD hS hl
      unfold fX12_works_p66 at h
      refine lv_iconst (v := 1) hx hb dX12_works_66 (by decide) ?_
      refine lv_goto (tgt := 71) hx hb dX12_works_67 (by decide) ?_
      exact J71 1 g L H locs ls h hP hD hS (lv_sub hl [] rfl)
    refine lv_if_ne (x := p2) (tgt := 66) hx hb dX12_works_59 (by decide) (fun c5 => ?_) (fun c5 => ?_)
    ·
      have h := ite_e c5 h
      exact J66 g L H locs ls h hP hD hS (lv_sub hl [] rfl)
    ·
      have h := ite_t c5 h
      refine lv_iload_n hx hb dX12_works_62 rfl (lv_at hl 2 rfl) ?_
      refine lv_if_eq (x := p3) (tgt := 70) hx hb dX12_works_63 (by decide) (fun c6 => ?_) (fun c6 => ?_)
      ·
        have h := ite_t c6 h
        refine lv_iconst (v := 0) hx hb dX12_works_70 (by decide) ?_
        exact J71 0 g L H locs ls h hP hD hS (lv_sub hl [] rfl)
      ·
        have h := ite_e c6 h
        exact J66 g L H locs ls h hP hD hS (lv_sub hl [] rfl)
  have h := ite_e c4 h
  by_cases c7 : (Int32.toInt p1) = 6
  ·
    have h := ite_t c7 h
    refine lv_tableIn (off := 71) (tgt := 72) hx hb dX12_works_1 (by omega) (by omega) (by rw [c7]; rfl) (by decide) ?_
    refine lv_iload_n hx hb dX12_works_72 rfl (lv_at hl 1 rfl) ?_
    refine lv_iload_n hx hb dX12_works_73 rfl (lv_at hl 2 rfl) ?_
    have J82 : ∀ (t0 : Int32) (g : Nat → Nat → Int32) (L : Nat → Nat → Int64) (H : Heap) (locs : List Loc) (ls : Array Slot), fX12_works_p82 fu t0 g L = some (res, s9) → va_P G.1 vwCl (zw G MS 51 a g L) H → va_D A (zw G MS 51 a g L) → va_S A s.heap H locs → lv_has ls 3 [] → W p l e { frames := 6, cells := 0, slots := 0, locals := 110 } s m [.int p1, .int p2, .int p3].toArray below meth c H locs 0 0 (MQ below ((kQi G (S := Unit) (fun r' _ => r' = res) (fun _ => zw G MS 51 a s9.1 s9.2)) A) [.int p1, .int p2, .int p3].toArray s 0 0 A) (F0 m 82 ls [.int t0]) := by
      intro t0 g L H locs ls h hP hD hS hl
      unfold fX12_works_p82 at h
      exact y_iret C hr hlk hP hD hS h (Nat.le_of_ble_eq_true rfl) (Nat.le_of_ble_eq_true rfl) dX12_works_82
    refine lv_icmp_ge (x := p2) (y := p3) (tgt := 81) hx hb dX12_works_74 (by decide) (fun c8 => ?_) (fun c8 => ?_)
    ·
      have h := ite_t c8 h
      refine lv_iconst (v := 0) hx hb dX12_works_81 (by decide) ?_
      exact J82 0 g L H locs ls h hP hD hS (lv_sub hl [] rfl)
    ·
      have h := ite_e c8 h
      refine lv_iconst (v := 1) hx hb dX12_works_77 (by decide) ?_
      refine lv_goto (tgt := 82) hx hb dX12_works_78 (by decide) ?_
      exact J82 1 g L H locs ls h hP hD hS (lv_sub hl [] rfl)
  have h := ite_e c7 h
  by_cases c9 : (Int32.toInt p1) = 7
  ·
    have h := ite_t c9 h
    refine lv_tableIn (off := 82) (tgt := 83) hx hb dX12_works_1 (by omega) (by omega) (by rw [c9]; rfl) (by decide) ?_
    refine lv_iload_n hx hb dX12_works_83 rfl (lv_at hl 1 rfl) ?_
    refine lv_iload_n hx hb dX12_works_84 rfl (lv_at hl 2 rfl) ?_
    have J93 : ∀ (t0 : Int32) (g : Nat → Nat → Int32) (L : Nat → Nat → Int64) (H : Heap) (locs : List Loc) (ls : Array Slot), fX12_works_p93 fu t0 g L = some (res, s9) → va_P G.1 vwCl (zw G MS 51 a g L) H → va_D A (zw G MS 51 a g L) → va_S A s.heap H locs → lv_has ls 3 [] → W p l e { frames := 6, cells := 0, slots := 0, locals := 110 } s m [.int p1, .int p2, .int p3].toArray below meth c H locs 0 0 (MQ below ((kQi G (S := Unit) (fun r' _ => r' = res) (fun _ => zw G MS 51 a s9.1 s9.2)) A) [.int p1, .int p2, .int p3].toArray s 0 0 A) (F0 m 93 ls [.int t0]) := by
      intro t0 g L H locs ls h hP hD hS hl
      unfold fX12_works_p93 at h
      exact y_iret C hr hlk hP hD hS h (Nat.le_of_ble_eq_true rfl) (Nat.le_of_ble_eq_true rfl) dX12_works_93
    refine lv_icmp_ne (x := p2) (y := p3) (tgt := 92) hx hb dX12_works_85 (by decide) (fun c10 => ?_) (fun c10 => ?_)
    ·
      have h := ite_e c10 h
      refine lv_iconst (v := 0) hx hb dX12_works_92 (by decide) ?_
      exact J93 0 g L H locs ls h hP hD hS (lv_sub hl [] rfl)
    ·
      have h := ite_t c10 h
      refine lv_iconst (v := 1) hx hb dX12_works_88 (by decide) ?_
      refine lv_goto (tgt := 93) hx hb dX12_works_89 (by decide) ?_
      exact J93 1 g L H locs ls h hP hD hS (lv_sub hl [] rfl)
  have h := ite_e c9 h
  by_cases c11 : (Int32.toInt p1) = 8
  ·
    have h := ite_t c11 h
    refine lv_tableIn (off := 93) (tgt := 94) hx hb dX12_works_1 (by omega) (by omega) (by rw [c11]; rfl) (by decide) ?_
    refine lv_iload_n hx hb dX12_works_94 rfl (lv_at hl 1 rfl) ?_
    refine lv_iload_n hx hb dX12_works_95 rfl (lv_at hl 2 rfl) ?_
    refine lv_iadd hx hb dX12_works_96 ?_
    exact y_iret C hr hlk hP hD hS h (Nat.le_of_ble_eq_true rfl) (Nat.le_of_ble_eq_true rfl) dX12_works_97
  have h := ite_e c11 h
  by_cases c12 : (Int32.toInt p1) = 9
  ·
    have h := ite_t c12 h
    refine lv_tableIn (off := 97) (tgt := 98) hx hb dX12_works_1 (by omega) (by omega) (by rw [c12]; rfl) (by decide) ?_
    refine lv_iload_n hx hb dX12_works_98 rfl (lv_at hl 1 rfl) ?_
    refine lv_iload_n hx hb dX12_works_99 rfl (lv_at hl 2 rfl) ?_
    refine lv_isub hx hb dX12_works_100 ?_
    exact y_iret C hr hlk hP hD hS h (Nat.le_of_ble_eq_true rfl) (Nat.le_of_ble_eq_true rfl) dX12_works_101
  have h := ite_e c12 h
  by_cases c13 : (Int32.toInt p1) = 10
  ·
    have h := ite_t c13 h
    refine lv_tableIn (off := 101) (tgt := 102) hx hb dX12_works_1 (by omega) (by omega) (by rw [c13]; rfl) (by decide) ?_
    refine lv_iload_n hx hb dX12_works_102 rfl (lv_at hl 1 rfl) ?_
    refine lv_iload_n hx hb dX12_works_103 rfl (lv_at hl 2 rfl) ?_
    refine lv_imul hx hb dX12_works_104 ?_
    exact y_iret C hr hlk hP hD hS h (Nat.le_of_ble_eq_true rfl) (Nat.le_of_ble_eq_true rfl) dX12_works_105
  have h := ite_e c13 h
  refine lv_tableOut (tgt := 106) hx hb dX12_works_1 (by omega) (by decide) ?_
  refine lv_iload_n hx hb dX12_works_106 rfl (lv_at hl 2 rfl) ?_
  have J117 : ∀ (t0 : Int32) (g : Nat → Nat → Int32) (L : Nat → Nat → Int64) (H : Heap) (locs : List Loc) (ls : Array Slot), fX12_works_p117 fu t0 g L = some (res, s9) → va_P G.1 vwCl (zw G MS 51 a g L) H → va_D A (zw G MS 51 a g L) → va_S A s.heap H locs → lv_has ls 3 [] → W p l e { frames := 6, cells := 0, slots := 0, locals := 110 } s m [.int p1, .int p2, .int p3].toArray below meth c H locs 0 0 (MQ below ((kQi G (S := Unit) (fun r' _ => r' = res) (fun _ => zw G MS 51 a s9.1 s9.2)) A) [.int p1, .int p2, .int p3].toArray s 0 0 A) (F0 m 117 ls [.int t0]) := by
    intro t0 g L H locs ls h hP hD hS hl
    unfold fX12_works_p117 at h
    exact y_iret C hr hlk hP hD hS h (Nat.le_of_ble_eq_true rfl) (Nat.le_of_ble_eq_true rfl) dX12_works_117
  refine lv_if_ne (x := p3) (tgt := 114) hx hb dX12_works_107 (by decide) (fun c14 => ?_) (fun c14 => ?_)
  ·
    have h := ite_e c14 h
    refine lv_iload_n hx hb dX12_works_114 rfl (lv_at hl 1 rfl) ?_
    refine lv_iload_n hx hb dX12_works_115 rfl (lv_at hl 2 rfl) ?_
    obtain ⟨nz, h⟩ := cnz_some h
    refine lv_idiv hx hb dX12_works_116 nz ?_
    exact J117 (p2 / p3) g L H locs ls h hP hD hS (lv_sub hl [] rfl)
  ·
    have h := ite_t c14 h
    refine lv_iconst (v := 0) hx hb dX12_works_110 (by decide) ?_
    refine lv_goto (tgt := 117) hx hb dX12_works_111 (by decide) ?_
    exact J117 0 g L H locs ls h hP hD hS (lv_sub hl [] rfl)
def fX12_reckons_p140 (fu : Nat) (k4 : Int32 × Int32 × (Nat → Nat → Int32) × (Nat → Nat → Int64) → Option ((Int32) × zS)) (v2 : Int32) (v3 : Int32) (g : Nat → Nat → Int32) (L : Nat → Nat → Int64) : Option ((Int32) × zS) :=
  k4 (v2, v3, g, L)
def fX12_reckons_p67 (fu : Nat) (k4 : Int32 × Int32 × (Nat → Nat → Int32) × (Nat → Nat → Int64) → Option ((Int32) × zS)) (v2 : Int32) (v3 : Int32) (t0 : Int32) (t1 : Int32) (g : Nat → Nat → Int32) (L : Nat → Nat → Int64) : Option ((Int32) × zS) :=
  ck t1 950 (sti g 30 (Int32.toNatClampNeg t1) t0 (fun g3 =>
  fX12_reckons_p140 fu k4 (v2 + 1) (v3 + 1) g3 L))
def fX12_reckons_p36 (fu : Nat) (k4 : Int32 × Int32 × (Nat → Nat → Int32) × (Nat → Nat → Int64) → Option ((Int32) × zS)) (v2 : Int32) (v3 : Int32) (v4 : Int32) (g : Nat → Nat → Int32) (L : Nat → Nat → Int64) : Option ((Int32) × zS) :=
  if (v4 : Int32) = 1 then ck v3 1900 (
  fX12_reckons_p67 fu k4 v2 v3 (g 11 (Int32.toNatClampNeg v3)) v2 g L)
  else ck v3 1900 (
  ck (g 11 (Int32.toNatClampNeg v3)) 6 (
  fX12_reckons_p67 fu k4 v2 v3 (g 29 (Int32.toNatClampNeg (g 11 (Int32.toNatClampNeg v3)))) v2 g L))
def fX12_reckons_p106 (fu : Nat) (k4 : Int32 × Int32 × (Nat → Nat → Int32) × (Nat → Nat → Int64) → Option ((Int32) × zS)) (v2 : Int32) (v3 : Int32) (t0 : Int32) (t1 : Int32) (g : Nat → Nat → Int32) (L : Nat → Nat → Int64) : Option ((Int32) × zS) :=
  ck t1 950 (sti g 30 (Int32.toNatClampNeg t1) t0 (fun g13 =>
  fX12_reckons_p140 fu k4 v2 v3 g13 L))
def fX12_reckons_s4 (fu : Nat) (k4 : Int32 × Int32 × (Nat → Nat → Int32) × (Nat → Nat → Int64) → Option ((Int32) × zS)) (v2 : Int32) (v3 : Int32) (g : Nat → Nat → Int32) (L : Nat → Nat → Int64) : Option ((Int32) × zS) :=
  ck v3 1900 (
  if (g 11 (Int32.toNatClampNeg v3)) = 0 then ck 0 950 (
  some ((g 30 (Int32.toNatClampNeg 0)), (g, L)))
  else ck v3 1900 (
  lti (g 11 (Int32.toNatClampNeg v3)) (fun x2 =>
  if (x2 : Int32) = 1 then fX12_reckons_p36 fu k4 v2 (v3 + 1) x2 g L
  else if (x2 : Int32) = 2 then fX12_reckons_p36 fu k4 v2 (v3 + 1) x2 g L
  else if (x2 : Int32) = 3 then ck (v2 - 1) 950 (
  if (g 30 (Int32.toNatClampNeg (v2 - 1))) = 0 then fX12_reckons_p106 fu k4 v2 (v3 + 1) 1 (v2 - 1) g L
  else fX12_reckons_p106 fu k4 v2 (v3 + 1) 0 (v2 - 1) g L)
  else ck ((v2 + (-1)) - 1) 950 (
  ck (v2 + (-1)) 950 (
  cb (fX12_works fu x2 (g 30 (Int32.toNatClampNeg ((v2 + (-1)) - 1))) (g 30 (Int32.toNatClampNeg (v2 + (-1)))) g L) (fun x8 g9 L10 =>
  ck ((v2 + (-1)) - 1) 950 (sti g9 30 (Int32.toNatClampNeg ((v2 + (-1)) - 1)) x8 (fun g12 =>
  fX12_reckons_p140 fu k4 (v2 + (-1)) (v3 + 1) g12 L10))))))))
def fX12_reckons_l4 (fu : Nat) (v2 : Int32) (v3 : Int32) (g : Nat → Nat → Int32) (L : Nat → Nat → Int64) : Option ((Int32) × zS) :=
  whileK (fun k v => fX12_reckons_s4 fu k v.1 v.2.1 v.2.2.1 v.2.2.2) fu (v2, v3, g, L)
def fX12_reckons (fu : Nat) (p1 : Int32) (g : Nat → Nat → Int32) (L : Nat → Nat → Int64) : Option ((Int32) × zS) :=
  fX12_reckons_l4 fu 0 p1 g L
set_option maxHeartbeats 4000000 in
set_option maxRecDepth 100000 in
theorem rX12_reckons (l : Launch) (G : kG) (sz : Nat) (a : Nat → Nat) (fu : Nat) (g : Nat → Nat → Int32) (L : Nat → Nat → Int64) (p1 : Int32) (res : Int32) (s9 : zS) (h : fX12_reckons fu p1 g L = some (res, s9)) : kM l yX12_reckons cX12_reckons 5 (some .int) { frames := 7, cells := 0, slots := 0, locals := 132 } G [.ref (a 0), .int p1] (zw G MS 51 a g L) sz (kQi G (S := Unit) (fun r' _ => r' = res) (fun _ => zw G MS 51 a s9.1 s9.2)) := by
  refine kM.of (by decide) (Nat.le_of_ble_eq_true rfl) ?_
  intro p e s m below meth c A ls H C hr hlk hnm hP hD hS hl
  have C : kC G p s m c cX12_reckons 5 RX12 A := C
  have hx := C.1
  have hb := C.2.1
  have hl : lv_has ls 5 [(0, .ref (a 0)), (1, .int p1)] := hl
  obtain ⟨locs, hlocs⟩ : ∃ q : List Loc, q = [] := ⟨_, rfl⟩
  rw [← hlocs] at hS
  rw [← hlocs]
  unfold fX12_reckons at h
  refine lv_iconst (v := 0) hx hb dX12_reckons_0 (by decide) ?_
  refine lv_istore_n (lv' := [(2, .int 0), (0, .ref (a 0)), (1, .int p1)]) hx hb dX12_reckons_1 rfl hl (by decide) rfl (fun ls hl => ?_)
  refine lv_iload_n hx hb dX12_reckons_2 rfl (lv_at hl 2 rfl) ?_
  refine lv_istore_n (lv' := [(3, .int p1), (2, .int 0), (0, .ref (a 0)), (1, .int p1)]) hx hb dX12_reckons_3 rfl hl (by decide) rfl (fun ls hl => ?_)
  have lp4 : ∀ (_ : True), ∀ (n : Nat) (v : Int32 × Int32 × (Nat → Nat → Int32) × (Nat → Nat → Int64)), whileK (fun k v => fX12_reckons_s4 fu k v.1 v.2.1 v.2.2.1 v.2.2.2) n v = some (res, s9) → ∀ (H : Heap) (locs : List Loc) (ls : Array Slot), va_P G.1 vwCl (zw G MS 51 a (v.2.2.1) (v.2.2.2)) H → va_D A (zw G MS 51 a (v.2.2.1) (v.2.2.2)) → va_S A s.heap H locs → lv_has ls 5 [(0, .ref (a 0)), (2, .int (v.1)), (3, .int (v.2.1))] → W p l e { frames := 7, cells := 0, slots := 0, locals := 132 } s m [.ref (a 0), .int p1].toArray below meth c H locs 0 0 (MQ below ((kQi G (S := Unit) (fun r' _ => r' = res) (fun _ => zw G MS 51 a s9.1 s9.2)) A) [.ref (a 0), .int p1].toArray s 0 0 A) (F0 m 4 ls []) := by
    intro _
    refine while_ind (fun k4 ih4 v h => ?_)
    obtain ⟨v2, v3, g, L⟩ := v
    intro H locs ls hP hD hS hl
    have h : fX12_reckons_s4 fu k4 v2 v3 g L = some (res, s9) := h
    have hP : va_P G.1 vwCl (zw G MS 51 a g L) H := hP
    have hD : va_D A (zw G MS 51 a g L) := hD
    have hl : lv_has ls 5 [(0, .ref (a 0)), (2, .int v2), (3, .int v3)] := hl
    show W p l e { frames := 7, cells := 0, slots := 0, locals := 132 } s m [.ref (a 0), .int p1].toArray below meth c H locs 0 0 (MQ below ((kQi G (S := Unit) (fun r' _ => r' = res) (fun _ => zw G MS 51 a s9.1 s9.2)) A) [.ref (a 0), .int p1].toArray s 0 0 A) (F0 m 4 ls [])
    unfold fX12_reckons_s4 at h
    refine lv_aload_n hx hb dX12_reckons_4 rfl (lv_at hl 0 rfl) ?_
    refine x_getr (Or.inl fl_X12_47) C hP (by decide) ms_0 rfl dX12_reckons_5 ?_
    refine lv_iload_n hx hb dX12_reckons_8 rfl (lv_at hl 2 rfl) ?_
    refine y_ald C hP (by decide) ms_11 dX12_reckons_9 h (fun h => ?_)
    refine lv_if_eq (x := (g 11 (Int32.toNatClampNeg v3))) (tgt := 143) hx hb dX12_reckons_10 (by decide) (fun c1 => ?_) (fun c1 => ?_)
    ·
      have h := ite_t c1 h
      refine lv_aload_n hx hb dX12_reckons_143 rfl (lv_at hl 0 rfl) ?_
      refine x_getr (Or.inl fl_X12_111) C hP (by decide) ms_0 rfl dX12_reckons_144 ?_
      refine lv_iconst (v := 0) hx hb dX12_reckons_147 (by decide) ?_
      refine y_ald C hP (by decide) ms_30 dX12_reckons_148 h (fun h => ?_)
      exact y_iret C hr hlk hP hD hS h (Nat.le_of_ble_eq_true rfl) (Nat.le_of_ble_eq_true rfl) dX12_reckons_149
    ·
      have h := ite_e c1 h
      refine lv_aload_n hx hb dX12_reckons_13 rfl (lv_at hl 0 rfl) ?_
      refine x_getr (Or.inl fl_X12_47) C hP (by decide) ms_0 rfl dX12_reckons_14 ?_
      refine lv_iload_n hx hb dX12_reckons_17 rfl (lv_at hl 2 rfl) ?_
      refine y_ald C hP (by decide) ms_11 dX12_reckons_18 h (fun h => ?_)
      refine y_let h (fun x2 h => ?_)
      refine lv_istore (lv' := [(4, .int x2), (0, .ref (a 0)), (2, .int v2), (3, .int v3)]) hx hb dX12_reckons_19 hl (by decide) rfl (fun ls hl => ?_)
      refine lv_iinc (v := (v3 + 1)) (lv' := [(3, .int (v3 + 1)), (4, .int x2), (0, .ref (a 0)), (2, .int v2)]) hx hb dX12_reckons_21 hl (k := 3) rfl rfl (by decide) rfl (fun ls hl => ?_)
      refine lv_iload hx hb dX12_reckons_24 (lv_at hl 1 rfl) ?_
      refine lv_iconst (v := 1) hx hb dX12_reckons_26 (by decide) ?_
      have J140 : ∀ (v2 : Int32) (v3 : Int32) (g : Nat → Nat → Int32) (L : Nat → Nat → Int64) (H : Heap) (locs : List Loc) (ls : Array Slot), fX12_reckons_p140 fu k4 v2 v3 g L = some (res, s9) → va_P G.1 vwCl (zw G MS 51 a g L) H → va_D A (zw G MS 51 a g L) → va_S A s.heap H locs → lv_has ls 5 [(0, .ref (a 0)), (2, .int v2), (3, .int v3)] → W p l e { frames := 7, cells := 0, slots := 0, locals := 132 } s m [.ref (a 0), .int p1].toArray below meth c H locs 0 0 (MQ below ((kQi G (S := Unit) (fun r' _ => r' = res) (fun _ => zw G MS 51 a s9.1 s9.2)) A) [.ref (a 0), .int p1].toArray s 0 0 A) (F0 m 140 ls []) := by
        intro v2 v3 g L H locs ls h hP hD hS hl
        unfold fX12_reckons_p140 at h
        refine lv_goto (tgt := 4) hx hb dX12_reckons_140 (by decide) ?_
        exact ih4 (v2, v3, g, L) h H locs ls hP hD hS (lv_sub hl [0, 1, 2] rfl)
      have J36 : ∀ (v2 : Int32) (v3 : Int32) (v4 : Int32) (g : Nat → Nat → Int32) (L : Nat → Nat → Int64) (H : Heap) (locs : List Loc) (ls : Array Slot), fX12_reckons_p36 fu k4 v2 v3 v4 g L = some (res, s9) → va_P G.1 vwCl (zw G MS 51 a g L) H → va_D A (zw G MS 51 a g L) → va_S A s.heap H locs → lv_has ls 5 [(0, .ref (a 0)), (2, .int v2), (3, .int v3), (4, .int v4)] → W p l e { frames := 7, cells := 0, slots := 0, locals := 132 } s m [.ref (a 0), .int p1].toArray below meth c H locs 0 0 (MQ below ((kQi G (S := Unit) (fun r' _ => r' = res) (fun _ => zw G MS 51 a s9.1 s9.2)) A) [.ref (a 0), .int p1].toArray s 0 0 A) (F0 m 36 ls []) := by
        intro v2 v3 v4 g L H locs ls h hP hD hS hl
        unfold fX12_reckons_p36 at h
        refine lv_aload_n hx hb dX12_reckons_36 rfl (lv_at hl 0 rfl) ?_
        refine x_getr (Or.inl fl_X12_111) C hP (by decide) ms_0 rfl dX12_reckons_37 ?_
        refine lv_iload_n hx hb dX12_reckons_40 rfl (lv_at hl 1 rfl) ?_
        refine lv_iload hx hb dX12_reckons_41 (lv_at hl 3 rfl) ?_
        refine lv_iconst (v := 1) hx hb dX12_reckons_43 (by decide) ?_
        have J67 : ∀ (v2 : Int32) (v3 : Int32) (t0 : Int32) (t1 : Int32) (g : Nat → Nat → Int32) (L : Nat → Nat → Int64) (H : Heap) (locs : List Loc) (ls : Array Slot), fX12_reckons_p67 fu k4 v2 v3 t0 t1 g L = some (res, s9) → va_P G.1 vwCl (zw G MS 51 a g L) H → va_D A (zw G MS 51 a g L) → va_S A s.heap H locs → lv_has ls 5 [(0, .ref (a 0)), (2, .int v2), (3, .int v3)] → W p l e { frames := 7, cells := 0, slots := 0, locals := 132 } s m [.ref (a 0), .int p1].toArray below meth c H locs 0 0 (MQ below ((kQi G (S := Unit) (fun r' _ => r' = res) (fun _ => zw G MS 51 a s9.1 s9.2)) A) [.ref (a 0), .int p1].toArray s 0 0 A) (F0 m 67 ls [.int t0, .int t1, .ref (a 30)]) := by
          intro v2 v3 t0 t1 g L H locs ls h hP hD hS hl
          unfold fX12_reckons_p67 at h
          refine y_ast C hP hD hS (by decide) ms_30 dX12_reckons_67 h (fun g3 H locs h hP hD hS => ?_)
          refine lv_iinc (v := (v3 + 1)) (lv' := [(3, .int (v3 + 1)), (0, .ref (a 0)), (2, .int v2)]) hx hb dX12_reckons_68 hl (k := 2) rfl rfl (by decide) rfl (fun ls hl => ?_)
          refine lv_iinc (v := (v2 + 1)) (lv' := [(2, .int (v2 + 1)), (3, .int (v3 + 1)), (0, .ref (a 0))]) hx hb dX12_reckons_71 hl (k := 2) rfl rfl (by decide) rfl (fun ls hl => ?_)
          refine lv_goto (tgt := 140) hx hb dX12_reckons_74 (by decide) ?_
          exact J140 (v2 + 1) (v3 + 1) g3 L H locs ls h hP hD hS (lv_sub hl [2, 0, 1] rfl)
        refine lv_icmp_ne (x := v4) (y := 1) (tgt := 56) hx hb dX12_reckons_44 (by decide) (fun c4 => ?_) (fun c4 => ?_)
        ·
          have h := ite_e c4 h
          refine lv_aload_n hx hb dX12_reckons_56 rfl (lv_at hl 0 rfl) ?_
          refine x_getr (Or.inl fl_X12_108) C hP (by decide) ms_0 rfl dX12_reckons_57 ?_
          refine lv_aload_n hx hb dX12_reckons_60 rfl (lv_at hl 0 rfl) ?_
          refine x_getr (Or.inl fl_X12_47) C hP (by decide) ms_0 rfl dX12_reckons_61 ?_
          refine lv_iload_n hx hb dX12_reckons_64 rfl (lv_at hl 2 rfl) ?_
          refine y_ald C hP (by decide) ms_11 dX12_reckons_65 h (fun h => ?_)
          refine y_ald C hP (by decide) ms_29 dX12_reckons_66 h (fun h => ?_)
          exact J67 v2 v3 (g 29 (Int32.toNatClampNeg (g 11 (Int32.toNatClampNeg v3)))) v2 g L H locs ls h hP hD hS (lv_sub hl [0, 1, 2] rfl)
        ·
          have h := ite_t c4 h
          refine lv_aload_n hx hb dX12_reckons_47 rfl (lv_at hl 0 rfl) ?_
          refine x_getr (Or.inl fl_X12_47) C hP (by decide) ms_0 rfl dX12_reckons_48 ?_
          refine lv_iload_n hx hb dX12_reckons_51 rfl (lv_at hl 2 rfl) ?_
          refine y_ald C hP (by decide) ms_11 dX12_reckons_52 h (fun h => ?_)
          refine lv_goto (tgt := 67) hx hb dX12_reckons_53 (by decide) ?_
          exact J67 v2 v3 (g 11 (Int32.toNatClampNeg v3)) v2 g L H locs ls h hP hD hS (lv_sub hl [0, 1, 2] rfl)
      refine lv_icmp_eq (x := x2) (y := 1) (tgt := 36) hx hb dX12_reckons_27 (by decide) (fun c5 => ?_) (fun c5 => ?_)
      ·
        have h := ite_t c5 h
        exact J36 v2 (v3 + 1) x2 g L H locs ls h hP hD hS (lv_sub hl [2, 3, 0, 1] rfl)
      ·
        have h := ite_e c5 h
        refine lv_iload hx hb dX12_reckons_30 (lv_at hl 1 rfl) ?_
        refine lv_iconst (v := 2) hx hb dX12_reckons_32 (by decide) ?_
        refine lv_icmp_ne (x := x2) (y := 2) (tgt := 77) hx hb dX12_reckons_33 (by decide) (fun c6 => ?_) (fun c6 => ?_)
        ·
          have h := ite_e c6 h
          refine lv_iload hx hb dX12_reckons_77 (lv_at hl 1 rfl) ?_
          refine lv_iconst (v := 3) hx hb dX12_reckons_79 (by decide) ?_
          refine lv_icmp_ne (x := x2) (y := 3) (tgt := 110) hx hb dX12_reckons_80 (by decide) (fun c7 => ?_) (fun c7 => ?_)
          ·
            have h := ite_e c7 h
            refine lv_iinc (v := (v2 + (-1))) (lv' := [(2, .int (v2 + (-1))), (3, .int (v3 + 1)), (4, .int x2), (0, .ref (a 0))]) hx hb dX12_reckons_110 hl (k := 3) rfl rfl (by decide) rfl (fun ls hl => ?_)
            refine lv_aload_n hx hb dX12_reckons_113 rfl (lv_at hl 3 rfl) ?_
            refine x_getr (Or.inl fl_X12_111) C hP (by decide) ms_0 rfl dX12_reckons_114 ?_
            refine lv_iload_n hx hb dX12_reckons_117 rfl (lv_at hl 0 rfl) ?_
            refine lv_iconst (v := 1) hx hb dX12_reckons_118 (by decide) ?_
            refine lv_isub hx hb dX12_reckons_119 ?_
            refine lv_iload hx hb dX12_reckons_120 (lv_at hl 2 rfl) ?_
            refine lv_aload_n hx hb dX12_reckons_122 rfl (lv_at hl 3 rfl) ?_
            refine x_getr (Or.inl fl_X12_111) C hP (by decide) ms_0 rfl dX12_reckons_123 ?_
            refine lv_iload_n hx hb dX12_reckons_126 rfl (lv_at hl 0 rfl) ?_
            refine lv_iconst (v := 1) hx hb dX12_reckons_127 (by decide) ?_
            refine lv_isub hx hb dX12_reckons_128 ?_
            refine y_ald C hP (by decide) ms_30 dX12_reckons_129 h (fun h => ?_)
            refine lv_aload_n hx hb dX12_reckons_130 rfl (lv_at hl 3 rfl) ?_
            refine x_getr (Or.inl fl_X12_111) C hP (by decide) ms_0 rfl dX12_reckons_131 ?_
            refine lv_iload_n hx hb dX12_reckons_134 rfl (lv_at hl 0 rfl) ?_
            refine y_ald C hP (by decide) ms_30 dX12_reckons_135 h (fun h => ?_)
            obtain ⟨z_, g9, L10, hf11, h⟩ := cb_some h
            refine x_callSi (rest := [.int ((v2 + (-1)) - 1), .ref (a 30)]) li_X12_358 C (rX12_works l G H.size a fu g L x2 (g 30 (Int32.toNatClampNeg ((v2 + (-1)) - 1))) (g 30 (Int32.toNatClampNeg (v2 + (-1)))) z_ (g9, L10) hf11) (kR rfl) hP hD hS rfl hl.1 rfl (Nat.le_of_ble_eq_true rfl) dX12_reckons_136 (fun x8 u_ H locs e_ hP hD hS => ?_)
            have e_ : x8 = z_ := e_
            subst e_
            have hP : va_P G.1 vwCl (zw G MS 51 a g9 L10) H := hP
            have hD : va_D A (zw G MS 51 a g9 L10) := hD
            refine y_ast C hP hD hS (by decide) ms_30 dX12_reckons_139 h (fun g12 H locs h hP hD hS => ?_)
            exact J140 (v2 + (-1)) (v3 + 1) g12 L10 H locs ls h hP hD hS (lv_sub hl [3, 0, 1] rfl)
          ·
            have h := ite_t c7 h
            refine lv_aload_n hx hb dX12_reckons_83 rfl (lv_at hl 2 rfl) ?_
            refine x_getr (Or.inl fl_X12_111) C hP (by decide) ms_0 rfl dX12_reckons_84 ?_
            refine lv_iload_n hx hb dX12_reckons_87 rfl (lv_at hl 3 rfl) ?_
            refine lv_iconst (v := 1) hx hb dX12_reckons_88 (by decide) ?_
            refine lv_isub hx hb dX12_reckons_89 ?_
            refine lv_aload_n hx hb dX12_reckons_90 rfl (lv_at hl 2 rfl) ?_
            refine x_getr (Or.inl fl_X12_111) C hP (by decide) ms_0 rfl dX12_reckons_91 ?_
            refine lv_iload_n hx hb dX12_reckons_94 rfl (lv_at hl 3 rfl) ?_
            refine lv_iconst (v := 1) hx hb dX12_reckons_95 (by decide) ?_
            refine lv_isub hx hb dX12_reckons_96 ?_
            refine y_ald C hP (by decide) ms_30 dX12_reckons_97 h (fun h => ?_)
            have J106 : ∀ (v2 : Int32) (v3 : Int32) (t0 : Int32) (t1 : Int32) (g : Nat → Nat → Int32) (L : Nat → Nat → Int64) (H : Heap) (locs : List Loc) (ls : Array Slot), fX12_reckons_p106 fu k4 v2 v3 t0 t1 g L = some (res, s9) → va_P G.1 vwCl (zw G MS 51 a g L) H → va_D A (zw G MS 51 a g L) → va_S A s.heap H locs → lv_has ls 5 [(0, .ref (a 0)), (2, .int v2), (3, .int v3)] → W p l e { frames := 7, cells := 0, slots := 0, locals := 132 } s m [.ref (a 0), .int p1].toArray below meth c H locs 0 0 (MQ below ((kQi G (S := Unit) (fun r' _ => r' = res) (fun _ => zw G MS 51 a s9.1 s9.2)) A) [.ref (a 0), .int p1].toArray s 0 0 A) (F0 m 106 ls [.int t0, .int t1, .ref (a 30)]) := by
              intro v2 v3 t0 t1 g L H locs ls h hP hD hS hl
              unfold fX12_reckons_p106 at h
              refine y_ast C hP hD hS (by decide) ms_30 dX12_reckons_106 h (fun g13 H locs h hP hD hS => ?_)
              refine lv_goto (tgt := 140) hx hb dX12_reckons_107 (by decide) ?_
              exact J140 v2 v3 g13 L H locs ls h hP hD hS (lv_sub hl [0, 1, 2] rfl)
            refine lv_if_ne (x := (g 30 (Int32.toNatClampNeg (v2 - 1)))) (tgt := 105) hx hb dX12_reckons_98 (by decide) (fun c14 => ?_) (fun c14 => ?_)
            ·
              have h := ite_e c14 h
              refine lv_iconst (v := 0) hx hb dX12_reckons_105 (by decide) ?_
              exact J106 v2 (v3 + 1) 0 (v2 - 1) g L H locs ls h hP hD hS (lv_sub hl [2, 3, 0] rfl)
            ·
              have h := ite_t c14 h
              refine lv_iconst (v := 1) hx hb dX12_reckons_101 (by decide) ?_
              refine lv_goto (tgt := 106) hx hb dX12_reckons_102 (by decide) ?_
              exact J106 v2 (v3 + 1) 1 (v2 - 1) g L H locs ls h hP hD hS (lv_sub hl [2, 3, 0] rfl)
        ·
          have h := ite_t c6 h
          exact J36 v2 (v3 + 1) x2 g L H locs ls h hP hD hS (lv_sub hl [2, 3, 0, 1] rfl)
  exact lp4 trivial fu (0, p1, g, L) h H locs ls hP hD hS (lv_sub hl [2, 1, 0] rfl)
def fX12_off_p14 (fu : Nat) (t0 : Int32) (g : Nat → Nat → Int32) (L : Nat → Nat → Int64) : Option ((Int32) × zS) :=
  some (t0, (g, L))
def fX12_off (fu : Nat) (p1 : Int32) (p2 : Int32) (g : Nat → Nat → Int32) (L : Nat → Nat → Int64) : Option ((Int32) × zS) :=
  if p2 ≤ (p1 : Int32) then fX12_off_p14 fu (p1 - p2) g L
  else fX12_off_p14 fu (p2 - p1) g L
set_option maxHeartbeats 4000000 in
set_option maxRecDepth 100000 in
theorem rX12_off (l : Launch) (G : kG) (sz : Nat) (a : Nat → Nat) (fu : Nat) (g : Nat → Nat → Int32) (L : Nat → Nat → Int64) (p1 : Int32) (p2 : Int32) (res : Int32) (s9 : zS) (h : fX12_off fu p1 p2 g L = some (res, s9)) : kM l yX12_off cX12_off 2 (some .int) { frames := 6, cells := 0, slots := 0, locals := 110 } G [.int p1, .int p2] (zw G MS 51 a g L) sz (kQi G (S := Unit) (fun r' _ => r' = res) (fun _ => zw G MS 51 a s9.1 s9.2)) := by
  refine kM.of (by decide) (Nat.le_of_ble_eq_true rfl) ?_
  intro p e s m below meth c A ls H C hr hlk hnm hP hD hS hl
  have C : kC G p s m c cX12_off 2 RX12 A := C
  have hx := C.1
  have hb := C.2.1
  have hl : lv_has ls 2 [(0, .int p1), (1, .int p2)] := hl
  obtain ⟨locs, hlocs⟩ : ∃ q : List Loc, q = [] := ⟨_, rfl⟩
  rw [← hlocs] at hS
  rw [← hlocs]
  unfold fX12_off at h
  refine lv_iload_n hx hb dX12_off_0 rfl (lv_at hl 0 rfl) ?_
  refine lv_iload_n hx hb dX12_off_1 rfl (lv_at hl 1 rfl) ?_
  have J14 : ∀ (t0 : Int32) (g : Nat → Nat → Int32) (L : Nat → Nat → Int64) (H : Heap) (locs : List Loc) (ls : Array Slot), fX12_off_p14 fu t0 g L = some (res, s9) → va_P G.1 vwCl (zw G MS 51 a g L) H → va_D A (zw G MS 51 a g L) → va_S A s.heap H locs → lv_has ls 2 [] → W p l e { frames := 6, cells := 0, slots := 0, locals := 110 } s m [.int p1, .int p2].toArray below meth c H locs 0 0 (MQ below ((kQi G (S := Unit) (fun r' _ => r' = res) (fun _ => zw G MS 51 a s9.1 s9.2)) A) [.int p1, .int p2].toArray s 0 0 A) (F0 m 14 ls [.int t0]) := by
    intro t0 g L H locs ls h hP hD hS hl
    unfold fX12_off_p14 at h
    exact y_iret C hr hlk hP hD hS h (Nat.le_of_ble_eq_true rfl) (Nat.le_of_ble_eq_true rfl) dX12_off_14
  refine lv_icmp_ge (x := p1) (y := p2) (tgt := 11) hx hb dX12_off_2 (by decide) (fun c1 => ?_) (fun c1 => ?_)
  ·
    have h := ite_t c1 h
    refine lv_iload_n hx hb dX12_off_11 rfl (lv_at hl 0 rfl) ?_
    refine lv_iload_n hx hb dX12_off_12 rfl (lv_at hl 1 rfl) ?_
    refine lv_isub hx hb dX12_off_13 ?_
    exact J14 (p1 - p2) g L H locs ls h hP hD hS (lv_sub hl [] rfl)
  ·
    have h := ite_e c1 h
    refine lv_iload_n hx hb dX12_off_5 rfl (lv_at hl 1 rfl) ?_
    refine lv_iload_n hx hb dX12_off_6 rfl (lv_at hl 0 rfl) ?_
    refine lv_isub hx hb dX12_off_7 ?_
    refine lv_goto (tgt := 14) hx hb dX12_off_8 (by decide) ?_
    exact J14 (p2 - p1) g L H locs ls h hP hD hS (lv_sub hl [] rfl)
def fX12_isStair_p28 (fu : Nat) (t0 : Int32) (g : Nat → Nat → Int32) (L : Nat → Nat → Int64) : Option ((Int32) × zS) :=
  ckb t0 (some (t0, (g, L)))
def fX12_isStair_p20 (fu : Nat) (t0 : Int32) (t1 : Int32) (g : Nat → Nat → Int32) (L : Nat → Nat → Int64) : Option ((Int32) × zS) :=
  if (t1 : Int32) = t0 then fX12_isStair_p28 fu 0 g L
  else fX12_isStair_p28 fu 1 g L
def fX12_isStair_p10 (fu : Nat) (v1 : Int32) (t0 : Int32) (g : Nat → Nat → Int32) (L : Nat → Nat → Int64) : Option ((Int32) × zS) :=
  if 5 ≤ (v1 : Int32) then fX12_isStair_p20 fu 0 t0 g L
  else fX12_isStair_p20 fu 1 t0 g L
def fX12_isStair (fu : Nat) (p1 : Int32) (p2 : Int32) (g : Nat → Nat → Int32) (L : Nat → Nat → Int64) : Option ((Int32) × zS) :=
  if 5 ≤ (p1 : Int32) then fX12_isStair_p10 fu p2 0 g L
  else fX12_isStair_p10 fu p2 1 g L
set_option maxHeartbeats 4000000 in
set_option maxRecDepth 100000 in
theorem rX12_isStair (l : Launch) (G : kG) (sz : Nat) (a : Nat → Nat) (fu : Nat) (g : Nat → Nat → Int32) (L : Nat → Nat → Int64) (p1 : Int32) (p2 : Int32) (res : Int32) (s9 : zS) (h : fX12_isStair fu p1 p2 g L = some (res, s9)) : kM l yX12_isStair cX12_isStair 2 (some .boolean) { frames := 6, cells := 0, slots := 0, locals := 110 } G [.int p1, .int p2] (zw G MS 51 a g L) sz (kQi G (S := Unit) (fun r' _ => r' = res) (fun _ => zw G MS 51 a s9.1 s9.2)) := by
  refine kM.of (by decide) (Nat.le_of_ble_eq_true rfl) ?_
  intro p e s m below meth c A ls H C hr hlk hnm hP hD hS hl
  have C : kC G p s m c cX12_isStair 2 RX12 A := C
  have hx := C.1
  have hb := C.2.1
  have hl : lv_has ls 2 [(0, .int p1), (1, .int p2)] := hl
  obtain ⟨locs, hlocs⟩ : ∃ q : List Loc, q = [] := ⟨_, rfl⟩
  rw [← hlocs] at hS
  rw [← hlocs]
  unfold fX12_isStair at h
  refine lv_iload_n hx hb dX12_isStair_0 rfl (lv_at hl 0 rfl) ?_
  refine lv_iconst (v := 5) hx hb dX12_isStair_1 (by decide) ?_
  have J10 : ∀ (v1 : Int32) (t0 : Int32) (g : Nat → Nat → Int32) (L : Nat → Nat → Int64) (H : Heap) (locs : List Loc) (ls : Array Slot), fX12_isStair_p10 fu v1 t0 g L = some (res, s9) → va_P G.1 vwCl (zw G MS 51 a g L) H → va_D A (zw G MS 51 a g L) → va_S A s.heap H locs → lv_has ls 2 [(1, .int v1)] → W p l e { frames := 6, cells := 0, slots := 0, locals := 110 } s m [.int p1, .int p2].toArray below meth c H locs 0 0 (MQ below ((kQi G (S := Unit) (fun r' _ => r' = res) (fun _ => zw G MS 51 a s9.1 s9.2)) A) [.int p1, .int p2].toArray s 0 0 A) (F0 m 10 ls [.int t0]) := by
    intro v1 t0 g L H locs ls h hP hD hS hl
    unfold fX12_isStair_p10 at h
    refine lv_iload_n hx hb dX12_isStair_10 rfl (lv_at hl 0 rfl) ?_
    refine lv_iconst (v := 5) hx hb dX12_isStair_11 (by decide) ?_
    have J20 : ∀ (t0 : Int32) (t1 : Int32) (g : Nat → Nat → Int32) (L : Nat → Nat → Int64) (H : Heap) (locs : List Loc) (ls : Array Slot), fX12_isStair_p20 fu t0 t1 g L = some (res, s9) → va_P G.1 vwCl (zw G MS 51 a g L) H → va_D A (zw G MS 51 a g L) → va_S A s.heap H locs → lv_has ls 2 [] → W p l e { frames := 6, cells := 0, slots := 0, locals := 110 } s m [.int p1, .int p2].toArray below meth c H locs 0 0 (MQ below ((kQi G (S := Unit) (fun r' _ => r' = res) (fun _ => zw G MS 51 a s9.1 s9.2)) A) [.int p1, .int p2].toArray s 0 0 A) (F0 m 20 ls [.int t0, .int t1]) := by
      intro t0 t1 g L H locs ls h hP hD hS hl
      unfold fX12_isStair_p20 at h
      have J28 : ∀ (t0 : Int32) (g : Nat → Nat → Int32) (L : Nat → Nat → Int64) (H : Heap) (locs : List Loc) (ls : Array Slot), fX12_isStair_p28 fu t0 g L = some (res, s9) → va_P G.1 vwCl (zw G MS 51 a g L) H → va_D A (zw G MS 51 a g L) → va_S A s.heap H locs → lv_has ls 2 [] → W p l e { frames := 6, cells := 0, slots := 0, locals := 110 } s m [.int p1, .int p2].toArray below meth c H locs 0 0 (MQ below ((kQi G (S := Unit) (fun r' _ => r' = res) (fun _ => zw G MS 51 a s9.1 s9.2)) A) [.int p1, .int p2].toArray s 0 0 A) (F0 m 28 ls [.int t0]) := by
        intro t0 g L H locs ls h hP hD hS hl
        unfold fX12_isStair_p28 at h
        exact y_zret C hr hlk hP hD hS h (Nat.le_of_ble_eq_true rfl) (Nat.le_of_ble_eq_true rfl) dX12_isStair_28
      refine lv_icmp_eq (x := t1) (y := t0) (tgt := 27) hx hb dX12_isStair_20 (by decide) (fun c1 => ?_) (fun c1 => ?_)
      ·
        have h := ite_t c1 h
        refine lv_iconst (v := 0) hx hb dX12_isStair_27 (by decide) ?_
        exact J28 0 g L H locs ls h hP hD hS (lv_sub hl [] rfl)
      ·
        have h := ite_e c1 h
        refine lv_iconst (v := 1) hx hb dX12_isStair_23 (by decide) ?_
        refine lv_goto (tgt := 28) hx hb dX12_isStair_24 (by decide) ?_
        exact J28 1 g L H locs ls h hP hD hS (lv_sub hl [] rfl)
    refine lv_icmp_ge (x := v1) (y := 5) (tgt := 19) hx hb dX12_isStair_12 (by decide) (fun c2 => ?_) (fun c2 => ?_)
    ·
      have h := ite_t c2 h
      refine lv_iconst (v := 0) hx hb dX12_isStair_19 (by decide) ?_
      exact J20 0 t0 g L H locs ls h hP hD hS (lv_sub hl [] rfl)
    ·
      have h := ite_e c2 h
      refine lv_iconst (v := 1) hx hb dX12_isStair_15 (by decide) ?_
      refine lv_goto (tgt := 20) hx hb dX12_isStair_16 (by decide) ?_
      exact J20 1 t0 g L H locs ls h hP hD hS (lv_sub hl [] rfl)
  refine lv_icmp_ge (x := p1) (y := 5) (tgt := 9) hx hb dX12_isStair_2 (by decide) (fun c3 => ?_) (fun c3 => ?_)
  ·
    have h := ite_t c3 h
    refine lv_iconst (v := 0) hx hb dX12_isStair_9 (by decide) ?_
    exact J10 p2 0 g L H locs ls h hP hD hS (lv_sub hl [1] rfl)
  ·
    have h := ite_e c3 h
    refine lv_iconst (v := 1) hx hb dX12_isStair_5 (by decide) ?_
    refine lv_goto (tgt := 10) hx hb dX12_isStair_6 (by decide) ?_
    exact J10 p2 1 g L H locs ls h hP hD hS (lv_sub hl [1] rfl)
def fX12_way_p63 (fu : Nat) (t0 : Int32) (t1 : Int32) (g : Nat → Nat → Int32) (L : Nat → Nat → Int64) : Option ((Int32) × zS) :=
  some ((t1 + t0), (g, L))
def fX12_way (fu : Nat) (p1 : Int32) (p2 : Int32) (g : Nat → Nat → Int32) (L : Nat → Nat → Int64) : Option ((Int32) × zS) :=
  ck (24 + p1) 48 (
  lti (g 12 (Int32.toNatClampNeg (24 + p1))) (fun x1 =>
  ck (24 + p2) 48 (
  lti (g 12 (Int32.toNatClampNeg (24 + p2))) (fun x2 =>
  cb (fX12_off fu x1 x2 g L) (fun x3 g4 L5 =>
  cb (fX12_isStair fu x1 x2 g4 L5) (fun x7 g8 L9 =>
  if x7 = 0 then fX12_way_p63 fu 0 ((g 0 3) * x3) g8 L9
  else ck p1 12 (
  cnz (g8 0 4) (
  fX12_way_p63 fu ((((g8 4 (Int32.toNatClampNeg p1)) + (g8 0 4)) - 1) / (g8 0 4)) ((g 0 3) * x3) g8 L9))))))))
set_option maxHeartbeats 4000000 in
set_option maxRecDepth 100000 in
theorem rX12_way (l : Launch) (G : kG) (sz : Nat) (a : Nat → Nat) (fu : Nat) (g : Nat → Nat → Int32) (L : Nat → Nat → Int64) (p1 : Int32) (p2 : Int32) (res : Int32) (s9 : zS) (h : fX12_way fu p1 p2 g L = some (res, s9)) : kM l yX12_way cX12_way 5 (some .int) { frames := 7, cells := 0, slots := 0, locals := 131 } G [.ref (a 0), .int p1, .int p2] (zw G MS 51 a g L) sz (kQi G (S := Unit) (fun r' _ => r' = res) (fun _ => zw G MS 51 a s9.1 s9.2)) := by
  refine kM.of (by decide) (Nat.le_of_ble_eq_true rfl) ?_
  intro p e s m below meth c A ls H C hr hlk hnm hP hD hS hl
  have C : kC G p s m c cX12_way 5 RX12 A := C
  have hx := C.1
  have hb := C.2.1
  have hl : lv_has ls 5 [(0, .ref (a 0)), (1, .int p1), (2, .int p2)] := hl
  obtain ⟨locs, hlocs⟩ : ∃ q : List Loc, q = [] := ⟨_, rfl⟩
  rw [← hlocs] at hS
  rw [← hlocs]
  unfold fX12_way at h
  refine lv_aload_n hx hb dX12_way_0 rfl (lv_at hl 0 rfl) ?_
  refine x_getr (Or.inl fl_X12_50) C hP (by decide) ms_0 rfl dX12_way_1 ?_
  refine lv_bipush (v := 24) hx hb dX12_way_4 (by decide) ?_
  refine lv_iload_n hx hb dX12_way_6 rfl (lv_at hl 1 rfl) ?_
  refine lv_iadd hx hb dX12_way_7 ?_
  refine y_ald C hP (by decide) ms_12 dX12_way_8 h (fun h => ?_)
  refine y_let h (fun x1 h => ?_)
  refine lv_istore_n (lv' := [(3, .int x1), (0, .ref (a 0)), (1, .int p1), (2, .int p2)]) hx hb dX12_way_9 rfl hl (by decide) rfl (fun ls hl => ?_)
  refine lv_aload_n hx hb dX12_way_10 rfl (lv_at hl 1 rfl) ?_
  refine x_getr (Or.inl fl_X12_50) C hP (by decide) ms_0 rfl dX12_way_11 ?_
  refine lv_bipush (v := 24) hx hb dX12_way_14 (by decide) ?_
  refine lv_iload_n hx hb dX12_way_16 rfl (lv_at hl 3 rfl) ?_
  refine lv_iadd hx hb dX12_way_17 ?_
  refine y_ald C hP (by decide) ms_12 dX12_way_18 h (fun h => ?_)
  refine y_let h (fun x2 h => ?_)
  refine lv_istore (lv' := [(4, .int x2), (3, .int x1), (0, .ref (a 0)), (1, .int p1), (2, .int p2)]) hx hb dX12_way_19 hl (by decide) rfl (fun ls hl => ?_)
  refine lv_aload_n hx hb dX12_way_21 rfl (lv_at hl 2 rfl) ?_
  refine x_getv (v := .int (g 0 3)) (Or.inl fl_X12_7) C hP (by decide) ms_0 rfl dX12_way_22 ?_
  refine lv_iload_n hx hb dX12_way_25 rfl (lv_at hl 1 rfl) ?_
  refine lv_iload hx hb dX12_way_26 (lv_at hl 0 rfl) ?_
  obtain ⟨z_, g4, L5, hf6, h⟩ := cb_some h
  refine x_callSi (rest := [.int (g 0 3)]) li_X12_361 C (rX12_off l G H.size a fu g L x1 x2 z_ (g4, L5) hf6) (kR rfl) hP hD hS rfl hl.1 rfl (Nat.le_of_ble_eq_true rfl) dX12_way_28 (fun x3 u_ H locs e_ hP hD hS => ?_)
  have e_ : x3 = z_ := e_
  subst e_
  have hP : va_P G.1 vwCl (zw G MS 51 a g4 L5) H := hP
  have hD : va_D A (zw G MS 51 a g4 L5) := hD
  refine lv_imul hx hb dX12_way_31 ?_
  refine lv_iload_n hx hb dX12_way_32 rfl (lv_at hl 1 rfl) ?_
  refine lv_iload hx hb dX12_way_33 (lv_at hl 0 rfl) ?_
  obtain ⟨z_, g8, L9, hf10, h⟩ := cb_some h
  refine x_callSi (rest := [.int ((g 0 3) * x3)]) li_X12_364 C (rX12_isStair l G H.size a fu g4 L5 x1 x2 z_ (g8, L9) hf10) (kR rfl) hP hD hS rfl hl.1 rfl (Nat.le_of_ble_eq_true rfl) dX12_way_35 (fun x7 u_ H locs e_ hP hD hS => ?_)
  have e_ : x7 = z_ := e_
  subst e_
  have hP : va_P G.1 vwCl (zw G MS 51 a g8 L9) H := hP
  have hD : va_D A (zw G MS 51 a g8 L9) := hD
  have J63 : ∀ (t0 : Int32) (t1 : Int32) (g : Nat → Nat → Int32) (L : Nat → Nat → Int64) (H : Heap) (locs : List Loc) (ls : Array Slot), fX12_way_p63 fu t0 t1 g L = some (res, s9) → va_P G.1 vwCl (zw G MS 51 a g L) H → va_D A (zw G MS 51 a g L) → va_S A s.heap H locs → lv_has ls 5 [] → W p l e { frames := 7, cells := 0, slots := 0, locals := 131 } s m [.ref (a 0), .int p1, .int p2].toArray below meth c H locs 0 0 (MQ below ((kQi G (S := Unit) (fun r' _ => r' = res) (fun _ => zw G MS 51 a s9.1 s9.2)) A) [.ref (a 0), .int p1, .int p2].toArray s 0 0 A) (F0 m 63 ls [.int t0, .int t1]) := by
    intro t0 t1 g L H locs ls h hP hD hS hl
    unfold fX12_way_p63 at h
    refine lv_iadd hx hb dX12_way_63 ?_
    exact y_iret C hr hlk hP hD hS h (Nat.le_of_ble_eq_true rfl) (Nat.le_of_ble_eq_true rfl) dX12_way_64
  refine lv_if_eq (x := x7) (tgt := 62) hx hb dX12_way_38 (by decide) (fun c11 => ?_) (fun c11 => ?_)
  ·
    have h := ite_t c11 h
    refine lv_iconst (v := 0) hx hb dX12_way_62 (by decide) ?_
    exact J63 0 ((g 0 3) * x3) g8 L9 H locs ls h hP hD hS (lv_sub hl [] rfl)
  ·
    have h := ite_e c11 h
    refine lv_aload_n hx hb dX12_way_41 rfl (lv_at hl 2 rfl) ?_
    refine x_getr (Or.inl fl_X12_26) C hP (by decide) ms_0 rfl dX12_way_42 ?_
    refine lv_iload_n hx hb dX12_way_45 rfl (lv_at hl 3 rfl) ?_
    refine y_ald C hP (by decide) ms_4 dX12_way_46 h (fun h => ?_)
    refine lv_aload_n hx hb dX12_way_47 rfl (lv_at hl 2 rfl) ?_
    refine x_getv (v := .int (g8 0 4)) (Or.inl fl_X12_13) C hP (by decide) ms_0 rfl dX12_way_48 ?_
    refine lv_iadd hx hb dX12_way_51 ?_
    refine lv_iconst (v := 1) hx hb dX12_way_52 (by decide) ?_
    refine lv_isub hx hb dX12_way_53 ?_
    refine lv_aload_n hx hb dX12_way_54 rfl (lv_at hl 2 rfl) ?_
    refine x_getv (v := .int (g8 0 4)) (Or.inl fl_X12_13) C hP (by decide) ms_0 rfl dX12_way_55 ?_
    obtain ⟨nz, h⟩ := cnz_some h
    refine lv_idiv hx hb dX12_way_58 nz ?_
    refine lv_goto (tgt := 63) hx hb dX12_way_59 (by decide) ?_
    exact J63 ((((g8 4 (Int32.toNatClampNeg p1)) + (g8 0 4)) - 1) / (g8 0 4)) ((g 0 3) * x3) g8 L9 H locs ls h hP hD hS (lv_sub hl [] rfl)
def fX12_comes (fu : Nat) (p1 : Int32) (p2 : Int32) (g : Nat → Nat → Int32) (L : Nat → Nat → Int64) : Option ((Int32) × zS) :=
  ck p1 12 (
  cb (fX12_way fu p1 p2 g L) (fun x1 g2 L3 =>
  ck (12 + p2) 48 (
  some ((((g 32 (Int32.toNatClampNeg p1)) + x1) - (g2 12 (Int32.toNatClampNeg (12 + p2)))), (g2, L3)))))
set_option maxHeartbeats 4000000 in
set_option maxRecDepth 100000 in
theorem rX12_comes (l : Launch) (G : kG) (sz : Nat) (a : Nat → Nat) (fu : Nat) (g : Nat → Nat → Int32) (L : Nat → Nat → Int64) (p1 : Int32) (p2 : Int32) (res : Int32) (s9 : zS) (h : fX12_comes fu p1 p2 g L = some (res, s9)) : kM l yX12_comes cX12_comes 3 (some .int) { frames := 8, cells := 0, slots := 0, locals := 155 } G [.ref (a 0), .int p1, .int p2] (zw G MS 51 a g L) sz (kQi G (S := Unit) (fun r' _ => r' = res) (fun _ => zw G MS 51 a s9.1 s9.2)) := by
  refine kM.of (by decide) (Nat.le_of_ble_eq_true rfl) ?_
  intro p e s m below meth c A ls H C hr hlk hnm hP hD hS hl
  have C : kC G p s m c cX12_comes 3 RX12 A := C
  have hx := C.1
  have hb := C.2.1
  have hl : lv_has ls 3 [(0, .ref (a 0)), (1, .int p1), (2, .int p2)] := hl
  obtain ⟨locs, hlocs⟩ : ∃ q : List Loc, q = [] := ⟨_, rfl⟩
  rw [← hlocs] at hS
  rw [← hlocs]
  unfold fX12_comes at h
  refine lv_aload_n hx hb dX12_comes_0 rfl (lv_at hl 0 rfl) ?_
  refine x_getr (Or.inl fl_X12_117) C hP (by decide) ms_0 rfl dX12_comes_1 ?_
  refine lv_iload_n hx hb dX12_comes_4 rfl (lv_at hl 1 rfl) ?_
  refine y_ald C hP (by decide) ms_32 dX12_comes_5 h (fun h => ?_)
  refine lv_aload_n hx hb dX12_comes_6 rfl (lv_at hl 0 rfl) ?_
  refine lv_iload_n hx hb dX12_comes_7 rfl (lv_at hl 1 rfl) ?_
  refine lv_iload_n hx hb dX12_comes_8 rfl (lv_at hl 2 rfl) ?_
  obtain ⟨z_, g2, L3, hf4, h⟩ := cb_some h
  refine x_callVi (rest := [.int (g 32 (Int32.toNatClampNeg p1))]) li_X12_368 C (rX12_way l G H.size a fu g L p1 p2 z_ (g2, L3) hf4) (kR rfl) hP hD hS 0 12 rfl (zat (by decide) ms_0) rfl hl.1 rfl (Nat.le_of_ble_eq_true rfl) dX12_comes_9 (fun x1 u_ H locs e_ hP hD hS => ?_)
  have e_ : x1 = z_ := e_
  subst e_
  have hP : va_P G.1 vwCl (zw G MS 51 a g2 L3) H := hP
  have hD : va_D A (zw G MS 51 a g2 L3) := hD
  refine lv_iadd hx hb dX12_comes_12 ?_
  refine lv_aload_n hx hb dX12_comes_13 rfl (lv_at hl 0 rfl) ?_
  refine x_getr (Or.inl fl_X12_50) C hP (by decide) ms_0 rfl dX12_comes_14 ?_
  refine lv_bipush (v := 12) hx hb dX12_comes_17 (by decide) ?_
  refine lv_iload_n hx hb dX12_comes_19 rfl (lv_at hl 2 rfl) ?_
  refine lv_iadd hx hb dX12_comes_20 ?_
  refine y_ald C hP (by decide) ms_12 dX12_comes_21 h (fun h => ?_)
  refine lv_isub hx hb dX12_comes_22 ?_
  exact y_iret C hr hlk hP hD hS h (Nat.le_of_ble_eq_true rfl) (Nat.le_of_ble_eq_true rfl) dX12_comes_23
def fX12_thereBy_p80 (fu : Nat) (k10 : Int32 × (Nat → Nat → Int32) × (Nat → Nat → Int64) → Option ((Int32) × zS)) (v1 : Int32) (v2 : Int32) (v3 : Int32) (v4 : Int32) (v5 : Int32) (v6 : Int32) (g : Nat → Nat → Int32) (L : Nat → Nat → Int64) : Option ((Int32) × zS) :=
  ck v6 6 (sti g 35 (Int32.toNatClampNeg v6) v5 (fun g7 =>
  k10 ((v4 + 1), g7, L)))
def fX12_thereBy_s39 (fu : Nat) (k10 : Int32 × (Nat → Nat → Int32) × (Nat → Nat → Int64) → Option ((Int32) × zS)) (v1 : Int32) (v2 : Int32) (v3 : Int32) (v4 : Int32) (v5 : Int32) (k39 : Int32 × (Nat → Nat → Int32) × (Nat → Nat → Int64) → Option ((Int32) × zS)) (v6 : Int32) (g : Nat → Nat → Int32) (L : Nat → Nat → Int64) : Option ((Int32) × zS) :=
  if v6 ≤ 0 then fX12_thereBy_p80 fu k10 v1 v2 v3 v4 v5 v6 g L
  else ck (v6 - 1) 6 (
  if (g 35 (Int32.toNatClampNeg (v6 - 1))) ≤ v5 then fX12_thereBy_p80 fu k10 v1 v2 v3 v4 v5 v6 g L
  else ck (v6 - 1) 6 (
  ck v6 6 (sti g 35 (Int32.toNatClampNeg v6) (g 35 (Int32.toNatClampNeg (v6 - 1))) (fun g10 =>
  k39 ((v6 + (-1)), g10, L)))))
def fX12_thereBy_l39 (fu : Nat) (k10 : Int32 × (Nat → Nat → Int32) × (Nat → Nat → Int64) → Option ((Int32) × zS)) (v1 : Int32) (v2 : Int32) (v3 : Int32) (v4 : Int32) (v5 : Int32) (v6 : Int32) (g : Nat → Nat → Int32) (L : Nat → Nat → Int64) : Option ((Int32) × zS) :=
  whileK (fun k v => fX12_thereBy_s39 fu k10 v1 v2 v3 v4 v5 k v.1 v.2.1 v.2.2) fu (v6, g, L)
def fX12_thereBy_s10 (fu : Nat) (v1 : Int32) (v2 : Int32) (v3 : Int32) (k10 : Int32 × (Nat → Nat → Int32) × (Nat → Nat → Int64) → Option ((Int32) × zS)) (v4 : Int32) (g : Nat → Nat → Int32) (L : Nat → Nat → Int64) : Option ((Int32) × zS) :=
  if v3 ≤ (v4 : Int32) then ck (v2 - 1) 6 (
  some ((g 35 (Int32.toNatClampNeg (v2 - 1))), (g, L)))
  else ck ((6 * v1) + v4) 72 (
  cb (fX12_comes fu (g 9 (Int32.toNatClampNeg ((6 * v1) + v4))) v1 g L) (fun x3 g4 L5 =>
  fX12_thereBy_l39 fu k10 v1 v2 v3 v4 x3 v4 g4 L5))
def fX12_thereBy_l10 (fu : Nat) (v1 : Int32) (v2 : Int32) (v3 : Int32) (v4 : Int32) (g : Nat → Nat → Int32) (L : Nat → Nat → Int64) : Option ((Int32) × zS) :=
  whileK (fun k v => fX12_thereBy_s10 fu v1 v2 v3 k v.1 v.2.1 v.2.2) fu (v4, g, L)
def fX12_thereBy (fu : Nat) (p1 : Int32) (p2 : Int32) (g : Nat → Nat → Int32) (L : Nat → Nat → Int64) : Option ((Int32) × zS) :=
  ck p1 12 (
  lti (g 8 (Int32.toNatClampNeg p1)) (fun x1 =>
  fX12_thereBy_l10 fu p1 p2 x1 0 g L))
set_option maxHeartbeats 4000000 in
set_option maxRecDepth 100000 in
theorem rX12_thereBy (l : Launch) (G : kG) (sz : Nat) (a : Nat → Nat) (fu : Nat) (g : Nat → Nat → Int32) (L : Nat → Nat → Int64) (p1 : Int32) (p2 : Int32) (res : Int32) (s9 : zS) (h : fX12_thereBy fu p1 p2 g L = some (res, s9)) : kM l yX12_thereBy cX12_thereBy 7 (some .int) { frames := 9, cells := 0, slots := 0, locals := 177 } G [.ref (a 0), .int p1, .int p2] (zw G MS 51 a g L) sz (kQi G (S := Unit) (fun r' _ => r' = res) (fun _ => zw G MS 51 a s9.1 s9.2)) := by
  refine kM.of (by decide) (Nat.le_of_ble_eq_true rfl) ?_
  intro p e s m below meth c A ls H C hr hlk hnm hP hD hS hl
  have C : kC G p s m c cX12_thereBy 7 RX12 A := C
  have hx := C.1
  have hb := C.2.1
  have hl : lv_has ls 7 [(0, .ref (a 0)), (1, .int p1), (2, .int p2)] := hl
  obtain ⟨locs, hlocs⟩ : ∃ q : List Loc, q = [] := ⟨_, rfl⟩
  rw [← hlocs] at hS
  rw [← hlocs]
  unfold fX12_thereBy at h
  refine lv_aload_n hx hb dX12_thereBy_0 rfl (lv_at hl 0 rfl) ?_
  refine x_getr (Or.inl fl_X12_38) C hP (by decide) ms_0 rfl dX12_thereBy_1 ?_
  refine lv_iload_n hx hb dX12_thereBy_4 rfl (lv_at hl 1 rfl) ?_
  refine y_ald C hP (by decide) ms_8 dX12_thereBy_5 h (fun h => ?_)
  refine y_let h (fun x1 h => ?_)
  refine lv_istore_n (lv' := [(3, .int x1), (0, .ref (a 0)), (1, .int p1), (2, .int p2)]) hx hb dX12_thereBy_6 rfl hl (by decide) rfl (fun ls hl => ?_)
  refine lv_iconst (v := 0) hx hb dX12_thereBy_7 (by decide) ?_
  refine lv_istore (lv' := [(4, .int 0), (3, .int x1), (0, .ref (a 0)), (1, .int p1), (2, .int p2)]) hx hb dX12_thereBy_8 hl (by decide) rfl (fun ls hl => ?_)
  have lp10 : ∀ (v1 : Int32) (v2 : Int32) (v3 : Int32), ∀ (n : Nat) (v : Int32 × (Nat → Nat → Int32) × (Nat → Nat → Int64)), whileK (fun k v => fX12_thereBy_s10 fu v1 v2 v3 k v.1 v.2.1 v.2.2) n v = some (res, s9) → ∀ (H : Heap) (locs : List Loc) (ls : Array Slot), va_P G.1 vwCl (zw G MS 51 a (v.2.1) (v.2.2)) H → va_D A (zw G MS 51 a (v.2.1) (v.2.2)) → va_S A s.heap H locs → lv_has ls 7 [(0, .ref (a 0)), (1, .int v1), (2, .int v2), (3, .int v3), (4, .int (v.1))] → W p l e { frames := 9, cells := 0, slots := 0, locals := 177 } s m [.ref (a 0), .int p1, .int p2].toArray below meth c H locs 0 0 (MQ below ((kQi G (S := Unit) (fun r' _ => r' = res) (fun _ => zw G MS 51 a s9.1 s9.2)) A) [.ref (a 0), .int p1, .int p2].toArray s 0 0 A) (F0 m 10 ls []) := by
    intro v1 v2 v3
    refine while_ind (fun k10 ih10 v h => ?_)
    obtain ⟨v4, g, L⟩ := v
    intro H locs ls hP hD hS hl
    have h : fX12_thereBy_s10 fu v1 v2 v3 k10 v4 g L = some (res, s9) := h
    have hP : va_P G.1 vwCl (zw G MS 51 a g L) H := hP
    have hD : va_D A (zw G MS 51 a g L) := hD
    have hl : lv_has ls 7 [(0, .ref (a 0)), (1, .int v1), (2, .int v2), (3, .int v3), (4, .int v4)] := hl
    show W p l e { frames := 9, cells := 0, slots := 0, locals := 177 } s m [.ref (a 0), .int p1, .int p2].toArray below meth c H locs 0 0 (MQ below ((kQi G (S := Unit) (fun r' _ => r' = res) (fun _ => zw G MS 51 a s9.1 s9.2)) A) [.ref (a 0), .int p1, .int p2].toArray s 0 0 A) (F0 m 10 ls [])
    unfold fX12_thereBy_s10 at h
    refine lv_iload hx hb dX12_thereBy_10 (lv_at hl 4 rfl) ?_
    refine lv_iload_n hx hb dX12_thereBy_12 rfl (lv_at hl 3 rfl) ?_
    refine lv_icmp_ge (x := v4) (y := v3) (tgt := 95) hx hb dX12_thereBy_13 (by decide) (fun c2 => ?_) (fun c2 => ?_)
    ·
      have h := ite_t c2 h
      refine lv_aload_n hx hb dX12_thereBy_95 rfl (lv_at hl 0 rfl) ?_
      refine x_getr (Or.inl fl_X12_126) C hP (by decide) ms_0 rfl dX12_thereBy_96 ?_
      refine lv_iload_n hx hb dX12_thereBy_99 rfl (lv_at hl 2 rfl) ?_
      refine lv_iconst (v := 1) hx hb dX12_thereBy_100 (by decide) ?_
      refine lv_isub hx hb dX12_thereBy_101 ?_
      refine y_ald C hP (by decide) ms_35 dX12_thereBy_102 h (fun h => ?_)
      exact y_iret C hr hlk hP hD hS h (Nat.le_of_ble_eq_true rfl) (Nat.le_of_ble_eq_true rfl) dX12_thereBy_103
    ·
      have h := ite_e c2 h
      refine lv_aload_n hx hb dX12_thereBy_16 rfl (lv_at hl 0 rfl) ?_
      refine lv_aload_n hx hb dX12_thereBy_17 rfl (lv_at hl 0 rfl) ?_
      refine x_getr (Or.inl fl_X12_41) C hP (by decide) ms_0 rfl dX12_thereBy_18 ?_
      refine lv_bipush (v := 6) hx hb dX12_thereBy_21 (by decide) ?_
      refine lv_iload_n hx hb dX12_thereBy_23 rfl (lv_at hl 1 rfl) ?_
      refine lv_imul hx hb dX12_thereBy_24 ?_
      refine lv_iload hx hb dX12_thereBy_25 (lv_at hl 4 rfl) ?_
      refine lv_iadd hx hb dX12_thereBy_27 ?_
      refine y_ald C hP (by decide) ms_9 dX12_thereBy_28 h (fun h => ?_)
      refine lv_iload_n hx hb dX12_thereBy_29 rfl (lv_at hl 1 rfl) ?_
      obtain ⟨z_, g4, L5, hf6, h⟩ := cb_some h
      refine x_callVi (rest := []) li_X12_371 C (rX12_comes l G H.size a fu g L (g 9 (Int32.toNatClampNeg ((6 * v1) + v4))) v1 z_ (g4, L5) hf6) (kR rfl) hP hD hS 0 12 rfl (zat (by decide) ms_0) rfl hl.1 rfl (Nat.le_of_ble_eq_true rfl) dX12_thereBy_30 (fun x3 u_ H locs e_ hP hD hS => ?_)
      have e_ : x3 = z_ := e_
      subst e_
      have hP : va_P G.1 vwCl (zw G MS 51 a g4 L5) H := hP
      have hD : va_D A (zw G MS 51 a g4 L5) := hD
      refine lv_istore (lv' := [(5, .int x3), (0, .ref (a 0)), (1, .int v1), (2, .int v2), (3, .int v3), (4, .int v4)]) hx hb dX12_thereBy_33 hl (by decide) rfl (fun ls hl => ?_)
      refine lv_iload hx hb dX12_thereBy_35 (lv_at hl 5 rfl) ?_
      refine lv_istore (lv' := [(6, .int v4), (5, .int x3), (0, .ref (a 0)), (1, .int v1), (2, .int v2), (3, .int v3), (4, .int v4)]) hx hb dX12_thereBy_37 hl (by decide) rfl (fun ls hl => ?_)
      have lp39 : ∀ (v4 : Int32) (v5 : Int32), ∀ (n : Nat) (v : Int32 × (Nat → Nat → Int32) × (Nat → Nat → Int64)), whileK (fun k v => fX12_thereBy_s39 fu k10 v1 v2 v3 v4 v5 k v.1 v.2.1 v.2.2) n v = some (res, s9) → ∀ (H : Heap) (locs : List Loc) (ls : Array Slot), va_P G.1 vwCl (zw G MS 51 a (v.2.1) (v.2.2)) H → va_D A (zw G MS 51 a (v.2.1) (v.2.2)) → va_S A s.heap H locs → lv_has ls 7 [(0, .ref (a 0)), (1, .int v1), (2, .int v2), (3, .int v3), (4, .int v4), (5, .int v5), (6, .int (v.1))] → W p l e { frames := 9, cells := 0, slots := 0, locals := 177 } s m [.ref (a 0), .int p1, .int p2].toArray below meth c H locs 0 0 (MQ below ((kQi G (S := Unit) (fun r' _ => r' = res) (fun _ => zw G MS 51 a s9.1 s9.2)) A) [.ref (a 0), .int p1, .int p2].toArray s 0 0 A) (F0 m 39 ls []) := by
        intro v4 v5
        refine while_ind (fun k39 ih39 v h => ?_)
        obtain ⟨v6, g, L⟩ := v
        intro H locs ls hP hD hS hl
        have h : fX12_thereBy_s39 fu k10 v1 v2 v3 v4 v5 k39 v6 g L = some (res, s9) := h
        have hP : va_P G.1 vwCl (zw G MS 51 a g L) H := hP
        have hD : va_D A (zw G MS 51 a g L) := hD
        have hl : lv_has ls 7 [(0, .ref (a 0)), (1, .int v1), (2, .int v2), (3, .int v3), (4, .int v4), (5, .int v5), (6, .int v6)] := hl
        show W p l e { frames := 9, cells := 0, slots := 0, locals := 177 } s m [.ref (a 0), .int p1, .int p2].toArray below meth c H locs 0 0 (MQ below ((kQi G (S := Unit) (fun r' _ => r' = res) (fun _ => zw G MS 51 a s9.1 s9.2)) A) [.ref (a 0), .int p1, .int p2].toArray s 0 0 A) (F0 m 39 ls [])
        unfold fX12_thereBy_s39 at h
        refine lv_iload hx hb dX12_thereBy_39 (lv_at hl 6 rfl) ?_
        have J80 : ∀ (v4 : Int32) (v5 : Int32) (v6 : Int32) (g : Nat → Nat → Int32) (L : Nat → Nat → Int64) (H : Heap) (locs : List Loc) (ls : Array Slot), fX12_thereBy_p80 fu k10 v1 v2 v3 v4 v5 v6 g L = some (res, s9) → va_P G.1 vwCl (zw G MS 51 a g L) H → va_D A (zw G MS 51 a g L) → va_S A s.heap H locs → lv_has ls 7 [(0, .ref (a 0)), (1, .int v1), (2, .int v2), (3, .int v3), (4, .int v4), (5, .int v5), (6, .int v6)] → W p l e { frames := 9, cells := 0, slots := 0, locals := 177 } s m [.ref (a 0), .int p1, .int p2].toArray below meth c H locs 0 0 (MQ below ((kQi G (S := Unit) (fun r' _ => r' = res) (fun _ => zw G MS 51 a s9.1 s9.2)) A) [.ref (a 0), .int p1, .int p2].toArray s 0 0 A) (F0 m 80 ls []) := by
          intro v4 v5 v6 g L H locs ls h hP hD hS hl
          unfold fX12_thereBy_p80 at h
          refine lv_aload_n hx hb dX12_thereBy_80 rfl (lv_at hl 0 rfl) ?_
          refine x_getr (Or.inl fl_X12_126) C hP (by decide) ms_0 rfl dX12_thereBy_81 ?_
          refine lv_iload hx hb dX12_thereBy_84 (lv_at hl 6 rfl) ?_
          refine lv_iload hx hb dX12_thereBy_86 (lv_at hl 5 rfl) ?_
          refine y_ast C hP hD hS (by decide) ms_35 dX12_thereBy_88 h (fun g7 H locs h hP hD hS => ?_)
          refine lv_iinc (v := (v4 + 1)) (lv' := [(4, .int (v4 + 1)), (0, .ref (a 0)), (1, .int v1), (2, .int v2), (3, .int v3), (5, .int v5), (6, .int v6)]) hx hb dX12_thereBy_89 hl (k := 4) rfl rfl (by decide) rfl (fun ls hl => ?_)
          refine lv_goto (tgt := 10) hx hb dX12_thereBy_92 (by decide) ?_
          exact ih10 ((v4 + 1), g7, L) h H locs ls hP hD hS (lv_sub hl [1, 2, 3, 4, 0] rfl)
        refine lv_if_le (x := v6) (tgt := 80) hx hb dX12_thereBy_41 (by decide) (fun c8 => ?_) (fun c8 => ?_)
        ·
          have h := ite_t c8 h
          exact J80 v4 v5 v6 g L H locs ls h hP hD hS (lv_sub hl [0, 1, 2, 3, 4, 5, 6] rfl)
        ·
          have h := ite_e c8 h
          refine lv_aload_n hx hb dX12_thereBy_44 rfl (lv_at hl 0 rfl) ?_
          refine x_getr (Or.inl fl_X12_126) C hP (by decide) ms_0 rfl dX12_thereBy_45 ?_
          refine lv_iload hx hb dX12_thereBy_48 (lv_at hl 6 rfl) ?_
          refine lv_iconst (v := 1) hx hb dX12_thereBy_50 (by decide) ?_
          refine lv_isub hx hb dX12_thereBy_51 ?_
          refine y_ald C hP (by decide) ms_35 dX12_thereBy_52 h (fun h => ?_)
          refine lv_iload hx hb dX12_thereBy_53 (lv_at hl 5 rfl) ?_
          refine lv_icmp_le (x := (g 35 (Int32.toNatClampNeg (v6 - 1)))) (y := v5) (tgt := 80) hx hb dX12_thereBy_55 (by decide) (fun c9 => ?_) (fun c9 => ?_)
          ·
            have h := ite_t c9 h
            exact J80 v4 v5 v6 g L H locs ls h hP hD hS (lv_sub hl [0, 1, 2, 3, 4, 5, 6] rfl)
          ·
            have h := ite_e c9 h
            refine lv_aload_n hx hb dX12_thereBy_58 rfl (lv_at hl 0 rfl) ?_
            refine x_getr (Or.inl fl_X12_126) C hP (by decide) ms_0 rfl dX12_thereBy_59 ?_
            refine lv_iload hx hb dX12_thereBy_62 (lv_at hl 6 rfl) ?_
            refine lv_aload_n hx hb dX12_thereBy_64 rfl (lv_at hl 0 rfl) ?_
            refine x_getr (Or.inl fl_X12_126) C hP (by decide) ms_0 rfl dX12_thereBy_65 ?_
            refine lv_iload hx hb dX12_thereBy_68 (lv_at hl 6 rfl) ?_
            refine lv_iconst (v := 1) hx hb dX12_thereBy_70 (by decide) ?_
            refine lv_isub hx hb dX12_thereBy_71 ?_
            refine y_ald C hP (by decide) ms_35 dX12_thereBy_72 h (fun h => ?_)
            refine y_ast C hP hD hS (by decide) ms_35 dX12_thereBy_73 h (fun g10 H locs h hP hD hS => ?_)
            refine lv_iinc (v := (v6 + (-1))) (lv' := [(6, .int (v6 + (-1))), (0, .ref (a 0)), (1, .int v1), (2, .int v2), (3, .int v3), (4, .int v4), (5, .int v5)]) hx hb dX12_thereBy_74 hl (k := 6) rfl rfl (by decide) rfl (fun ls hl => ?_)
            refine lv_goto (tgt := 39) hx hb dX12_thereBy_77 (by decide) ?_
            exact ih39 ((v6 + (-1)), g10, L) h H locs ls hP hD hS (lv_sub hl [1, 2, 3, 4, 5, 6, 0] rfl)
      exact lp39 v4 x3 fu (v4, g4, L5) h H locs ls hP hD hS (lv_sub hl [2, 3, 4, 5, 6, 1, 0] rfl)
  exact lp10 p1 p2 x1 fu (0, g, L) h H locs ls hP hD hS (lv_sub hl [2, 3, 4, 1, 0] rfl)
def fX12_runsOver_p152 (fu : Nat) (t0 : Int32) (g : Nat → Nat → Int32) (L : Nat → Nat → Int64) : Option ((Int32) × zS) :=
  some (t0, (g, L))
def fX12_runsOver_p133 (fu : Nat) (v2 : Int32) (t0 : Int32) (g : Nat → Nat → Int32) (L : Nat → Nat → Int64) : Option ((Int32) × zS) :=
  if 0 ≤ v2 then (if (v2 : Int32) ≤ t0 then fX12_runsOver_p152 fu v2 g L
  else fX12_runsOver_p152 fu t0 g L)
  else fX12_runsOver_p152 fu 0 g L
def fX12_runsOver_p117 (fu : Nat) (v1 : Int32) (v2 : Int32) (g : Nat → Nat → Int32) (L : Nat → Nat → Int64) : Option ((Int32) × zS) :=
  if (g 0 61) = v1 then fX12_runsOver_p133 fu v2 180 g L
  else fX12_runsOver_p133 fu v2 60 g L
def fX12_runsOver (fu : Nat) (p1 : Int32) (g : Nat → Nat → Int32) (L : Nat → Nat → Int64) : Option ((Int32) × zS) :=
  if ((((g 0 60) : Int32) >>> ((p1 : Int32) &&& 31) : Int32) &&& 1) = 1 then some (0, (g, L))
  else ck (0 + p1) 48 (
  lti (g 12 (Int32.toNatClampNeg (0 + p1))) (fun x2 =>
  if (g 0 52) = (-1) then fX12_runsOver_p117 fu p1 x2 g L
  else ck 0 6 (sti g 29 (Int32.toNatClampNeg 0) x2 (fun g7 =>
  ck p1 12 (
  ck p1 12 (
  ck 1 6 (sti g7 29 (Int32.toNatClampNeg 1) ((g7 31 (Int32.toNatClampNeg p1)) - (g7 1 (Int32.toNatClampNeg p1))) (fun g8 =>
  ck p1 12 (
  ck 2 6 (sti g8 29 (Int32.toNatClampNeg 2) (g8 31 (Int32.toNatClampNeg p1)) (fun g9 =>
  ck (24 + p1) 48 (
  ck 3 6 (sti g9 29 (Int32.toNatClampNeg 3) (g9 12 (Int32.toNatClampNeg (24 + p1))) (fun g10 =>
  ck p1 12 (
  ck 4 6 (sti g10 29 (Int32.toNatClampNeg 4) (g10 4 (Int32.toNatClampNeg p1)) (fun g11 =>
  ck 5 6 (sti g11 29 (Int32.toNatClampNeg 5) p1 (fun g12 =>
  ck (g12 0 52) 4 (
  cb (fX12_reckons fu (g12 10 (Int32.toNatClampNeg (g12 0 52))) g12 L) (fun x13 g14 L15 =>
  fX12_runsOver_p117 fu p1 x13 g14 L15)))))))))))))))))))))
set_option maxHeartbeats 4000000 in
set_option maxRecDepth 100000 in
theorem rX12_runsOver (l : Launch) (G : kG) (sz : Nat) (a : Nat → Nat) (fu : Nat) (g : Nat → Nat → Int32) (L : Nat → Nat → Int64) (p1 : Int32) (res : Int32) (s9 : zS) (h : fX12_runsOver fu p1 g L = some (res, s9)) : kM l yX12_runsOver cX12_runsOver 4 (some .int) { frames := 8, cells := 0, slots := 0, locals := 156 } G [.ref (a 0), .int p1] (zw G MS 51 a g L) sz (kQi G (S := Unit) (fun r' _ => r' = res) (fun _ => zw G MS 51 a s9.1 s9.2)) := by
  refine kM.of (by decide) (Nat.le_of_ble_eq_true rfl) ?_
  intro p e s m below meth c A ls H C hr hlk hnm hP hD hS hl
  have C : kC G p s m c cX12_runsOver 4 RX12 A := C
  have hx := C.1
  have hb := C.2.1
  have hl : lv_has ls 4 [(0, .ref (a 0)), (1, .int p1)] := hl
  obtain ⟨locs, hlocs⟩ : ∃ q : List Loc, q = [] := ⟨_, rfl⟩
  rw [← hlocs] at hS
  rw [← hlocs]
  unfold fX12_runsOver at h
  refine lv_aload_n hx hb dX12_runsOver_0 rfl (lv_at hl 0 rfl) ?_
  refine x_getv (v := .int (g 0 60)) (Or.inl fl_X12_374) C hP (by decide) ms_0 rfl dX12_runsOver_1 ?_
  refine lv_iload_n hx hb dX12_runsOver_4 rfl (lv_at hl 1 rfl) ?_
  refine lv_ishr hx hb dX12_runsOver_5 ?_
  refine lv_iconst (v := 1) hx hb dX12_runsOver_6 (by decide) ?_
  refine lv_iand hx hb dX12_runsOver_7 ?_
  refine lv_iconst (v := 1) hx hb dX12_runsOver_8 (by decide) ?_
  refine lv_icmp_ne (x := ((((g 0 60) : Int32) >>> ((p1 : Int32) &&& 31) : Int32) &&& 1)) (y := 1) (tgt := 14) hx hb dX12_runsOver_9 (by decide) (fun c1 => ?_) (fun c1 => ?_)
  ·
    have h := ite_e c1 h
    refine lv_aload_n hx hb dX12_runsOver_14 rfl (lv_at hl 0 rfl) ?_
    refine x_getr (Or.inl fl_X12_50) C hP (by decide) ms_0 rfl dX12_runsOver_15 ?_
    refine lv_iconst (v := 0) hx hb dX12_runsOver_18 (by decide) ?_
    refine lv_iload_n hx hb dX12_runsOver_19 rfl (lv_at hl 1 rfl) ?_
    refine lv_iadd hx hb dX12_runsOver_20 ?_
    refine y_ald C hP (by decide) ms_12 dX12_runsOver_21 h (fun h => ?_)
    refine y_let h (fun x2 h => ?_)
    refine lv_istore_n (lv' := [(2, .int x2), (0, .ref (a 0)), (1, .int p1)]) hx hb dX12_runsOver_22 rfl hl (by decide) rfl (fun ls hl => ?_)
    refine lv_aload_n hx hb dX12_runsOver_23 rfl (lv_at hl 1 rfl) ?_
    refine x_getv (v := .int (g 0 52)) (Or.inl fl_X12_105) C hP (by decide) ms_0 rfl dX12_runsOver_24 ?_
    refine lv_iconst (v := -1) hx hb dX12_runsOver_27 (by decide) ?_
    have J117 : ∀ (v1 : Int32) (v2 : Int32) (g : Nat → Nat → Int32) (L : Nat → Nat → Int64) (H : Heap) (locs : List Loc) (ls : Array Slot), fX12_runsOver_p117 fu v1 v2 g L = some (res, s9) → va_P G.1 vwCl (zw G MS 51 a g L) H → va_D A (zw G MS 51 a g L) → va_S A s.heap H locs → lv_has ls 4 [(0, .ref (a 0)), (1, .int v1), (2, .int v2)] → W p l e { frames := 8, cells := 0, slots := 0, locals := 156 } s m [.ref (a 0), .int p1].toArray below meth c H locs 0 0 (MQ below ((kQi G (S := Unit) (fun r' _ => r' = res) (fun _ => zw G MS 51 a s9.1 s9.2)) A) [.ref (a 0), .int p1].toArray s 0 0 A) (F0 m 117 ls []) := by
      intro v1 v2 g L H locs ls h hP hD hS hl
      unfold fX12_runsOver_p117 at h
      refine lv_aload_n hx hb dX12_runsOver_117 rfl (lv_at hl 0 rfl) ?_
      refine x_getv (v := .int (g 0 61)) (Or.inl fl_X12_129) C hP (by decide) ms_0 rfl dX12_runsOver_118 ?_
      refine lv_iload_n hx hb dX12_runsOver_121 rfl (lv_at hl 1 rfl) ?_
      have J133 : ∀ (v2 : Int32) (t0 : Int32) (g : Nat → Nat → Int32) (L : Nat → Nat → Int64) (H : Heap) (locs : List Loc) (ls : Array Slot), fX12_runsOver_p133 fu v2 t0 g L = some (res, s9) → va_P G.1 vwCl (zw G MS 51 a g L) H → va_D A (zw G MS 51 a g L) → va_S A s.heap H locs → lv_has ls 4 [(2, .int v2)] → W p l e { frames := 8, cells := 0, slots := 0, locals := 156 } s m [.ref (a 0), .int p1].toArray below meth c H locs 0 0 (MQ below ((kQi G (S := Unit) (fun r' _ => r' = res) (fun _ => zw G MS 51 a s9.1 s9.2)) A) [.ref (a 0), .int p1].toArray s 0 0 A) (F0 m 133 ls [.int t0]) := by
        intro v2 t0 g L H locs ls h hP hD hS hl
        unfold fX12_runsOver_p133 at h
        refine lv_istore_n (lv' := [(3, .int t0), (2, .int v2)]) hx hb dX12_runsOver_133 rfl hl (by decide) rfl (fun ls hl => ?_)
        refine lv_iload_n hx hb dX12_runsOver_134 rfl (lv_at hl 1 rfl) ?_
        have J152 : ∀ (t0 : Int32) (g : Nat → Nat → Int32) (L : Nat → Nat → Int64) (H : Heap) (locs : List Loc) (ls : Array Slot), fX12_runsOver_p152 fu t0 g L = some (res, s9) → va_P G.1 vwCl (zw G MS 51 a g L) H → va_D A (zw G MS 51 a g L) → va_S A s.heap H locs → lv_has ls 4 [] → W p l e { frames := 8, cells := 0, slots := 0, locals := 156 } s m [.ref (a 0), .int p1].toArray below meth c H locs 0 0 (MQ below ((kQi G (S := Unit) (fun r' _ => r' = res) (fun _ => zw G MS 51 a s9.1 s9.2)) A) [.ref (a 0), .int p1].toArray s 0 0 A) (F0 m 152 ls [.int t0]) := by
          intro t0 g L H locs ls h hP hD hS hl
          unfold fX12_runsOver_p152 at h
          exact y_iret C hr hlk hP hD hS h (Nat.le_of_ble_eq_true rfl) (Nat.le_of_ble_eq_true rfl) dX12_runsOver_152
        refine lv_if_ge (x := v2) (tgt := 142) hx hb dX12_runsOver_135 (by decide) (fun c3 => ?_) (fun c3 => ?_)
        ·
          have h := ite_t c3 h
          refine lv_iload_n hx hb dX12_runsOver_142 rfl (lv_at hl 1 rfl) ?_
          refine lv_iload_n hx hb dX12_runsOver_143 rfl (lv_at hl 0 rfl) ?_
          refine lv_icmp_le (x := v2) (y := t0) (tgt := 151) hx hb dX12_runsOver_144 (by decide) (fun c4 => ?_) (fun c4 => ?_)
          ·
            have h := ite_t c4 h
            refine lv_iload_n hx hb dX12_runsOver_151 rfl (lv_at hl 1 rfl) ?_
            exact J152 v2 g L H locs ls h hP hD hS (lv_sub hl [] rfl)
          ·
            have h := ite_e c4 h
            refine lv_iload_n hx hb dX12_runsOver_147 rfl (lv_at hl 0 rfl) ?_
            refine lv_goto (tgt := 152) hx hb dX12_runsOver_148 (by decide) ?_
            exact J152 t0 g L H locs ls h hP hD hS (lv_sub hl [] rfl)
        ·
          have h := ite_e c3 h
          refine lv_iconst (v := 0) hx hb dX12_runsOver_138 (by decide) ?_
          refine lv_goto (tgt := 152) hx hb dX12_runsOver_139 (by decide) ?_
          exact J152 0 g L H locs ls h hP hD hS (lv_sub hl [] rfl)
      refine lv_icmp_ne (x := (g 0 61)) (y := v1) (tgt := 131) hx hb dX12_runsOver_122 (by decide) (fun c5 => ?_) (fun c5 => ?_)
      ·
        have h := ite_e c5 h
        refine lv_bipush (v := 60) hx hb dX12_runsOver_131 (by decide) ?_
        exact J133 v2 60 g L H locs ls h hP hD hS (lv_sub hl [2] rfl)
      ·
        have h := ite_t c5 h
        refine lv_sipush (v := 180) hx hb dX12_runsOver_125 (by decide) ?_
        refine lv_goto (tgt := 133) hx hb dX12_runsOver_128 (by decide) ?_
        exact J133 v2 180 g L H locs ls h hP hD hS (lv_sub hl [2] rfl)
    refine lv_icmp_eq (x := (g 0 52)) (y := (-1)) (tgt := 117) hx hb dX12_runsOver_28 (by decide) (fun c6 => ?_) (fun c6 => ?_)
    ·
      have h := ite_t c6 h
      exact J117 p1 x2 g L H locs ls h hP hD hS (lv_sub hl [1, 2, 0] rfl)
    ·
      have h := ite_e c6 h
      refine lv_aload_n hx hb dX12_runsOver_31 rfl (lv_at hl 1 rfl) ?_
      refine x_getr (Or.inl fl_X12_108) C hP (by decide) ms_0 rfl dX12_runsOver_32 ?_
      refine lv_iconst (v := 0) hx hb dX12_runsOver_35 (by decide) ?_
      refine lv_iload_n hx hb dX12_runsOver_36 rfl (lv_at hl 0 rfl) ?_
      refine y_ast C hP hD hS (by decide) ms_29 dX12_runsOver_37 h (fun g7 H locs h hP hD hS => ?_)
      refine lv_aload_n hx hb dX12_runsOver_38 rfl (lv_at hl 1 rfl) ?_
      refine x_getr (Or.inl fl_X12_108) C hP (by decide) ms_0 rfl dX12_runsOver_39 ?_
      refine lv_iconst (v := 1) hx hb dX12_runsOver_42 (by decide) ?_
      refine lv_aload_n hx hb dX12_runsOver_43 rfl (lv_at hl 1 rfl) ?_
      refine x_getr (Or.inl fl_X12_114) C hP (by decide) ms_0 rfl dX12_runsOver_44 ?_
      refine lv_iload_n hx hb dX12_runsOver_47 rfl (lv_at hl 2 rfl) ?_
      refine y_ald C hP (by decide) ms_31 dX12_runsOver_48 h (fun h => ?_)
      refine lv_aload_n hx hb dX12_runsOver_49 rfl (lv_at hl 1 rfl) ?_
      refine x_getr (Or.inl fl_X12_16) C hP (by decide) ms_0 rfl dX12_runsOver_50 ?_
      refine lv_iload_n hx hb dX12_runsOver_53 rfl (lv_at hl 2 rfl) ?_
      refine y_ald C hP (by decide) ms_1 dX12_runsOver_54 h (fun h => ?_)
      refine lv_isub hx hb dX12_runsOver_55 ?_
      refine y_ast C hP hD hS (by decide) ms_29 dX12_runsOver_56 h (fun g8 H locs h hP hD hS => ?_)
      refine lv_aload_n hx hb dX12_runsOver_57 rfl (lv_at hl 1 rfl) ?_
      refine x_getr (Or.inl fl_X12_108) C hP (by decide) ms_0 rfl dX12_runsOver_58 ?_
      refine lv_iconst (v := 2) hx hb dX12_runsOver_61 (by decide) ?_
      refine lv_aload_n hx hb dX12_runsOver_62 rfl (lv_at hl 1 rfl) ?_
      refine x_getr (Or.inl fl_X12_114) C hP (by decide) ms_0 rfl dX12_runsOver_63 ?_
      refine lv_iload_n hx hb dX12_runsOver_66 rfl (lv_at hl 2 rfl) ?_
      refine y_ald C hP (by decide) ms_31 dX12_runsOver_67 h (fun h => ?_)
      refine y_ast C hP hD hS (by decide) ms_29 dX12_runsOver_68 h (fun g9 H locs h hP hD hS => ?_)
      refine lv_aload_n hx hb dX12_runsOver_69 rfl (lv_at hl 1 rfl) ?_
      refine x_getr (Or.inl fl_X12_108) C hP (by decide) ms_0 rfl dX12_runsOver_70 ?_
      refine lv_iconst (v := 3) hx hb dX12_runsOver_73 (by decide) ?_
      refine lv_aload_n hx hb dX12_runsOver_74 rfl (lv_at hl 1 rfl) ?_
      refine x_getr (Or.inl fl_X12_50) C hP (by decide) ms_0 rfl dX12_runsOver_75 ?_
      refine lv_bipush (v := 24) hx hb dX12_runsOver_78 (by decide) ?_
      refine lv_iload_n hx hb dX12_runsOver_80 rfl (lv_at hl 2 rfl) ?_
      refine lv_iadd hx hb dX12_runsOver_81 ?_
      refine y_ald C hP (by decide) ms_12 dX12_runsOver_82 h (fun h => ?_)
      refine y_ast C hP hD hS (by decide) ms_29 dX12_runsOver_83 h (fun g10 H locs h hP hD hS => ?_)
      refine lv_aload_n hx hb dX12_runsOver_84 rfl (lv_at hl 1 rfl) ?_
      refine x_getr (Or.inl fl_X12_108) C hP (by decide) ms_0 rfl dX12_runsOver_85 ?_
      refine lv_iconst (v := 4) hx hb dX12_runsOver_88 (by decide) ?_
      refine lv_aload_n hx hb dX12_runsOver_89 rfl (lv_at hl 1 rfl) ?_
      refine x_getr (Or.inl fl_X12_26) C hP (by decide) ms_0 rfl dX12_runsOver_90 ?_
      refine lv_iload_n hx hb dX12_runsOver_93 rfl (lv_at hl 2 rfl) ?_
      refine y_ald C hP (by decide) ms_4 dX12_runsOver_94 h (fun h => ?_)
      refine y_ast C hP hD hS (by decide) ms_29 dX12_runsOver_95 h (fun g11 H locs h hP hD hS => ?_)
      refine lv_aload_n hx hb dX12_runsOver_96 rfl (lv_at hl 1 rfl) ?_
      refine x_getr (Or.inl fl_X12_108) C hP (by decide) ms_0 rfl dX12_runsOver_97 ?_
      refine lv_iconst (v := 5) hx hb dX12_runsOver_100 (by decide) ?_
      refine lv_iload_n hx hb dX12_runsOver_101 rfl (lv_at hl 2 rfl) ?_
      refine y_ast C hP hD hS (by decide) ms_29 dX12_runsOver_102 h (fun g12 H locs h hP hD hS => ?_)
      refine lv_aload_n hx hb dX12_runsOver_103 rfl (lv_at hl 1 rfl) ?_
      refine lv_aload_n hx hb dX12_runsOver_104 rfl (lv_at hl 1 rfl) ?_
      refine x_getr (Or.inl fl_X12_44) C hP (by decide) ms_0 rfl dX12_runsOver_105 ?_
      refine lv_aload_n hx hb dX12_runsOver_108 rfl (lv_at hl 1 rfl) ?_
      refine x_getv (v := .int (g12 0 52)) (Or.inl fl_X12_105) C hP (by decide) ms_0 rfl dX12_runsOver_109 ?_
      refine y_ald C hP (by decide) ms_10 dX12_runsOver_112 h (fun h => ?_)
      obtain ⟨z_, g14, L15, hf16, h⟩ := cb_some h
      refine x_callVi (rest := []) li_X12_377 C (rX12_reckons l G H.size a fu g12 L (g12 10 (Int32.toNatClampNeg (g12 0 52))) z_ (g14, L15) hf16) (kR rfl) hP hD hS 0 12 rfl (zat (by decide) ms_0) rfl hl.1 rfl (Nat.le_of_ble_eq_true rfl) dX12_runsOver_113 (fun x13 u_ H locs e_ hP hD hS => ?_)
      have e_ : x13 = z_ := e_
      subst e_
      have hP : va_P G.1 vwCl (zw G MS 51 a g14 L15) H := hP
      have hD : va_D A (zw G MS 51 a g14 L15) := hD
      refine lv_istore_n (lv' := [(2, .int x13), (0, .ref (a 0)), (1, .int p1)]) hx hb dX12_runsOver_116 rfl hl (by decide) rfl (fun ls hl => ?_)
      exact J117 p1 x13 g14 L15 H locs ls h hP hD hS (lv_sub hl [1, 2, 0] rfl)
  ·
    have h := ite_t c1 h
    refine lv_iconst (v := 0) hx hb dX12_runsOver_12 (by decide) ?_
    exact y_iret C hr hlk hP hD hS h (Nat.le_of_ble_eq_true rfl) (Nat.le_of_ble_eq_true rfl) dX12_runsOver_13
def fX12_works0_p244 (fu : Nat) (k2 : Int32 × (Nat → Nat → Int32) × (Nat → Nat → Int64) → Option ((Unit) × zS)) (v1 : Int32) (t0 : Int32) (g : Nat → Nat → Int32) (L : Nat → Nat → Int64) : Option ((Unit) × zS) :=
  ck v1 12 (
  ck v1 12 (sti g 32 (Int32.toNatClampNeg v1) (t0 + (g 33 (Int32.toNatClampNeg v1))) (fun g10 =>
  k2 ((v1 + 1), g10, L))))
def fX12_works0_p199 (fu : Nat) (k2 : Int32 × (Nat → Nat → Int32) × (Nat → Nat → Int64) → Option ((Unit) × zS)) (v1 : Int32) (v2 : Int32) (g : Nat → Nat → Int32) (L : Nat → Nat → Int64) : Option ((Unit) × zS) :=
  cb (fX12_runsOver fu v1 g L) (fun x5 g6 L7 =>
  ck v1 12 (sti g6 33 (Int32.toNatClampNeg v1) x5 (fun g9 =>
  ck v1 12 (
  ck v1 12 (
  if (v2 + (g9 3 (Int32.toNatClampNeg v1))) ≤ (g9 2 (Int32.toNatClampNeg v1)) then ck v1 12 (
  fX12_works0_p244 fu k2 v1 (g9 2 (Int32.toNatClampNeg v1)) g9 L7)
  else ck v1 12 (
  fX12_works0_p244 fu k2 v1 (v2 + (g9 3 (Int32.toNatClampNeg v1))) g9 L7))))))
def fX12_works0_p193 (fu : Nat) (k2 : Int32 × (Nat → Nat → Int32) × (Nat → Nat → Int64) → Option ((Unit) × zS)) (k135 : Int32 × (Nat → Nat → Int32) × (Nat → Nat → Int64) → Option ((Unit) × zS)) (v1 : Int32) (v2 : Int32) (v3 : Int32) (v4 : Int32) (g : Nat → Nat → Int32) (L : Nat → Nat → Int64) : Option ((Unit) × zS) :=
  k135 ((v4 + 1), g, L)
def fX12_works0_s135 (fu : Nat) (k2 : Int32 × (Nat → Nat → Int32) × (Nat → Nat → Int64) → Option ((Unit) × zS)) (v1 : Int32) (v2 : Int32) (v3 : Int32) (k135 : Int32 × (Nat → Nat → Int32) × (Nat → Nat → Int64) → Option ((Unit) × zS)) (v4 : Int32) (g : Nat → Nat → Int32) (L : Nat → Nat → Int64) : Option ((Unit) × zS) :=
  ck v1 12 (
  if (g 8 (Int32.toNatClampNeg v1)) ≤ v4 then fX12_works0_p199 fu k2 v1 v2 g L
  else if v3 = 0 then fX12_works0_p199 fu k2 v1 v2 g L
  else ck ((6 * v1) + v4) 72 (
  lti (g 9 (Int32.toNatClampNeg ((6 * v1) + v4))) (fun x14 =>
  ck v1 12 (
  if (g 34 (Int32.toNatClampNeg v1)) = (-1) then cb (fX12_comes fu x14 v1 g L) (fun x16 g17 L18 =>
  if (x16 : Int32) = v2 then ck v1 12 (sti g17 34 (Int32.toNatClampNeg v1) x14 (fun g21 =>
  fX12_works0_p193 fu k2 k135 v1 v2 v3 v4 g21 L18))
  else fX12_works0_p193 fu k2 k135 v1 v2 v3 v4 g17 L18)
  else fX12_works0_p193 fu k2 k135 v1 v2 v3 v4 g L))))
def fX12_works0_l135 (fu : Nat) (k2 : Int32 × (Nat → Nat → Int32) × (Nat → Nat → Int64) → Option ((Unit) × zS)) (v1 : Int32) (v2 : Int32) (v3 : Int32) (v4 : Int32) (g : Nat → Nat → Int32) (L : Nat → Nat → Int64) : Option ((Unit) × zS) :=
  whileK (fun k v => fX12_works0_s135 fu k2 v1 v2 v3 k v.1 v.2.1 v.2.2) fu (v4, g, L)
def fX12_works0_p118 (fu : Nat) (k2 : Int32 × (Nat → Nat → Int32) × (Nat → Nat → Int64) → Option ((Unit) × zS)) (v1 : Int32) (v2 : Int32) (v3 : Int32) (g : Nat → Nat → Int32) (L : Nat → Nat → Int64) : Option ((Unit) × zS) :=
  ck v1 12 (sti g 31 (Int32.toNatClampNeg v1) v2 (fun g3 =>
  ck v1 12 (sti g3 34 (Int32.toNatClampNeg v1) (-1) (fun g4 =>
  fX12_works0_l135 fu k2 v1 v2 v3 0 g4 L))))
def fX12_works0_p117 (fu : Nat) (k2 : Int32 × (Nat → Nat → Int32) × (Nat → Nat → Int64) → Option ((Unit) × zS)) (v1 : Int32) (v3 : Int32) (t0 : Int32) (g : Nat → Nat → Int32) (L : Nat → Nat → Int64) : Option ((Unit) × zS) :=
  fX12_works0_p118 fu k2 v1 t0 v3 g L
def fX12_works0_p96 (fu : Nat) (k2 : Int32 × (Nat → Nat → Int32) × (Nat → Nat → Int64) → Option ((Unit) × zS)) (v1 : Int32) (v2 : Int32) (v4 : Int32) (v5 : Int32) (t0 : Int32) (g : Nat → Nat → Int32) (L : Nat → Nat → Int64) : Option ((Unit) × zS) :=
  if (v4 : Int32) ≤ v2 then fX12_works0_p118 fu k2 v1 v2 t0 g L
  else if v5 ≤ (v4 : Int32) then fX12_works0_p117 fu k2 v1 t0 v5 g L
  else fX12_works0_p117 fu k2 v1 t0 v4 g L
def fX12_works0_p95 (fu : Nat) (k2 : Int32 × (Nat → Nat → Int32) × (Nat → Nat → Int64) → Option ((Unit) × zS)) (v1 : Int32) (v2 : Int32) (v4 : Int32) (v5 : Int32) (g : Nat → Nat → Int32) (L : Nat → Nat → Int64) : Option ((Unit) × zS) :=
  fX12_works0_p96 fu k2 v1 v2 v4 v5 0 g L
def fX12_works0_p55 (fu : Nat) (k2 : Int32 × (Nat → Nat → Int32) × (Nat → Nat → Int64) → Option ((Unit) × zS)) (v1 : Int32) (v2 : Int32) (t0 : Int32) (t1 : Int32) (g : Nat → Nat → Int32) (L : Nat → Nat → Int64) : Option ((Unit) × zS) :=
  cb (fX12_thereBy fu t1 t0 g L) (fun x23 g24 L25 =>
  ck v1 12 (
  ck (36 + v1) 48 (
  lti ((g24 1 (Int32.toNatClampNeg v1)) + (g24 12 (Int32.toNatClampNeg (36 + v1)))) (fun x27 =>
  if (x23 : Int32) ≤ v2 then fX12_works0_p95 fu k2 v1 v2 x23 x27 g24 L25
  else if x27 < (x23 : Int32) then fX12_works0_p95 fu k2 v1 v2 x23 x27 g24 L25
  else fX12_works0_p96 fu k2 v1 v2 x23 x27 1 g24 L25))))
def fX12_works0_s2 (fu : Nat) (k2 : Int32 × (Nat → Nat → Int32) × (Nat → Nat → Int64) → Option ((Unit) × zS)) (v1 : Int32) (g : Nat → Nat → Int32) (L : Nat → Nat → Int64) : Option ((Unit) × zS) :=
  if (g 0 1) ≤ v1 then some ((), (g, L))
  else ck v1 12 (
  lti (g 1 (Int32.toNatClampNeg v1)) (fun x2 =>
  ck v1 12 (
  if (g 5 (Int32.toNatClampNeg v1)) = 2 then fX12_works0_p118 fu k2 v1 x2 0 g L
  else ck v1 12 (
  if (g 5 (Int32.toNatClampNeg v1)) = 0 then ck v1 12 (
  fX12_works0_p55 fu k2 v1 x2 (g 8 (Int32.toNatClampNeg v1)) v1 g L)
  else ck v1 12 (
  fX12_works0_p55 fu k2 v1 x2 (g 6 (Int32.toNatClampNeg v1)) v1 g L)))))
def fX12_works0_l2 (fu : Nat) (v1 : Int32) (g : Nat → Nat → Int32) (L : Nat → Nat → Int64) : Option ((Unit) × zS) :=
  whileK (fun k v => fX12_works0_s2 fu k v.1 v.2.1 v.2.2) fu (v1, g, L)
def fX12_works0 (fu : Nat) (g : Nat → Nat → Int32) (L : Nat → Nat → Int64) : Option ((Unit) × zS) :=
  fX12_works0_l2 fu 0 g L
set_option maxHeartbeats 4000000 in
set_option maxRecDepth 100000 in
theorem rX12_works0 (l : Launch) (G : kG) (sz : Nat) (a : Nat → Nat) (fu : Nat) (g : Nat → Nat → Int32) (L : Nat → Nat → Int64) (res : Unit) (s9 : zS) (h : fX12_works0 fu g L = some (res, s9)) : kM l yX12_works0 cX12_works0 6 none { frames := 10, cells := 0, slots := 0, locals := 203 } G [.ref (a 0)] (zw G MS 51 a g L) sz (kQv G (S := Unit) (fun _ => True) (fun _ => zw G MS 51 a s9.1 s9.2)) := by
  refine kM.of (by decide) (Nat.le_of_ble_eq_true rfl) ?_
  intro p e s m below meth c A ls H C hr hlk hnm hP hD hS hl
  have C : kC G p s m c cX12_works0 6 RX12 A := C
  have hx := C.1
  have hb := C.2.1
  have hl : lv_has ls 6 [(0, .ref (a 0))] := hl
  obtain ⟨locs, hlocs⟩ : ∃ q : List Loc, q = [] := ⟨_, rfl⟩
  rw [← hlocs] at hS
  rw [← hlocs]
  unfold fX12_works0 at h
  refine lv_iconst (v := 0) hx hb dX12_works0_0 (by decide) ?_
  refine lv_istore_n (lv' := [(1, .int 0), (0, .ref (a 0))]) hx hb dX12_works0_1 rfl hl (by decide) rfl (fun ls hl => ?_)
  have lp2 : ∀ (_ : True), ∀ (n : Nat) (v : Int32 × (Nat → Nat → Int32) × (Nat → Nat → Int64)), whileK (fun k v => fX12_works0_s2 fu k v.1 v.2.1 v.2.2) n v = some (res, s9) → ∀ (H : Heap) (locs : List Loc) (ls : Array Slot), va_P G.1 vwCl (zw G MS 51 a (v.2.1) (v.2.2)) H → va_D A (zw G MS 51 a (v.2.1) (v.2.2)) → va_S A s.heap H locs → lv_has ls 6 [(0, .ref (a 0)), (1, .int (v.1))] → W p l e { frames := 10, cells := 0, slots := 0, locals := 203 } s m [.ref (a 0)].toArray below meth c H locs 0 0 (MQ below ((kQv G (S := Unit) (fun _ => True) (fun _ => zw G MS 51 a s9.1 s9.2)) A) [.ref (a 0)].toArray s 0 0 A) (F0 m 2 ls []) := by
    intro _
    refine while_ind (fun k2 ih2 v h => ?_)
    obtain ⟨v1, g, L⟩ := v
    intro H locs ls hP hD hS hl
    have h : fX12_works0_s2 fu k2 v1 g L = some (res, s9) := h
    have hP : va_P G.1 vwCl (zw G MS 51 a g L) H := hP
    have hD : va_D A (zw G MS 51 a g L) := hD
    have hl : lv_has ls 6 [(0, .ref (a 0)), (1, .int v1)] := hl
    show W p l e { frames := 10, cells := 0, slots := 0, locals := 203 } s m [.ref (a 0)].toArray below meth c H locs 0 0 (MQ below ((kQv G (S := Unit) (fun _ => True) (fun _ => zw G MS 51 a s9.1 s9.2)) A) [.ref (a 0)].toArray s 0 0 A) (F0 m 2 ls [])
    unfold fX12_works0_s2 at h
    refine lv_iload_n hx hb dX12_works0_2 rfl (lv_at hl 1 rfl) ?_
    refine lv_aload_n hx hb dX12_works0_3 rfl (lv_at hl 0 rfl) ?_
    refine x_getv (v := .int (g 0 1)) (Or.inl fl_X12_335) C hP (by decide) ms_0 rfl dX12_works0_4 ?_
    refine lv_icmp_ge (x := v1) (y := (g 0 1)) (tgt := 267) hx hb dX12_works0_7 (by decide) (fun c1 => ?_) (fun c1 => ?_)
    ·
      have h := ite_t c1 h
      exact y_vret C hr hlk hP hD hS h (Nat.le_of_ble_eq_true rfl) (Nat.le_of_ble_eq_true rfl) dX12_works0_267
    ·
      have h := ite_e c1 h
      refine lv_aload_n hx hb dX12_works0_10 rfl (lv_at hl 0 rfl) ?_
      refine x_getr (Or.inl fl_X12_16) C hP (by decide) ms_0 rfl dX12_works0_11 ?_
      refine lv_iload_n hx hb dX12_works0_14 rfl (lv_at hl 1 rfl) ?_
      refine y_ald C hP (by decide) ms_1 dX12_works0_15 h (fun h => ?_)
      refine y_let h (fun x2 h => ?_)
      refine lv_istore_n (lv' := [(2, .int x2), (0, .ref (a 0)), (1, .int v1)]) hx hb dX12_works0_16 rfl hl (by decide) rfl (fun ls hl => ?_)
      refine lv_iconst (v := 0) hx hb dX12_works0_17 (by decide) ?_
      refine lv_istore_n (lv' := [(3, .int 0), (2, .int x2), (0, .ref (a 0)), (1, .int v1)]) hx hb dX12_works0_18 rfl hl (by decide) rfl (fun ls hl => ?_)
      refine lv_aload_n hx hb dX12_works0_19 rfl (lv_at hl 2 rfl) ?_
      refine x_getr (Or.inl fl_X12_29) C hP (by decide) ms_0 rfl dX12_works0_20 ?_
      refine lv_iload_n hx hb dX12_works0_23 rfl (lv_at hl 3 rfl) ?_
      refine y_ald C hP (by decide) ms_5 dX12_works0_24 h (fun h => ?_)
      refine lv_iconst (v := 2) hx hb dX12_works0_25 (by decide) ?_
      have J118 : ∀ (v1 : Int32) (v2 : Int32) (v3 : Int32) (g : Nat → Nat → Int32) (L : Nat → Nat → Int64) (H : Heap) (locs : List Loc) (ls : Array Slot), fX12_works0_p118 fu k2 v1 v2 v3 g L = some (res, s9) → va_P G.1 vwCl (zw G MS 51 a g L) H → va_D A (zw G MS 51 a g L) → va_S A s.heap H locs → lv_has ls 6 [(0, .ref (a 0)), (1, .int v1), (2, .int v2), (3, .int v3)] → W p l e { frames := 10, cells := 0, slots := 0, locals := 203 } s m [.ref (a 0)].toArray below meth c H locs 0 0 (MQ below ((kQv G (S := Unit) (fun _ => True) (fun _ => zw G MS 51 a s9.1 s9.2)) A) [.ref (a 0)].toArray s 0 0 A) (F0 m 118 ls []) := by
        intro v1 v2 v3 g L H locs ls h hP hD hS hl
        unfold fX12_works0_p118 at h
        refine lv_aload_n hx hb dX12_works0_118 rfl (lv_at hl 0 rfl) ?_
        refine x_getr (Or.inl fl_X12_114) C hP (by decide) ms_0 rfl dX12_works0_119 ?_
        refine lv_iload_n hx hb dX12_works0_122 rfl (lv_at hl 1 rfl) ?_
        refine lv_iload_n hx hb dX12_works0_123 rfl (lv_at hl 2 rfl) ?_
        refine y_ast C hP hD hS (by decide) ms_31 dX12_works0_124 h (fun g3 H locs h hP hD hS => ?_)
        refine lv_aload_n hx hb dX12_works0_125 rfl (lv_at hl 0 rfl) ?_
        refine x_getr (Or.inl fl_X12_123) C hP (by decide) ms_0 rfl dX12_works0_126 ?_
        refine lv_iload_n hx hb dX12_works0_129 rfl (lv_at hl 1 rfl) ?_
        refine lv_iconst (v := -1) hx hb dX12_works0_130 (by decide) ?_
        refine y_ast C hP hD hS (by decide) ms_34 dX12_works0_131 h (fun g4 H locs h hP hD hS => ?_)
        refine lv_iconst (v := 0) hx hb dX12_works0_132 (by decide) ?_
        refine lv_istore (lv' := [(4, .int 0), (0, .ref (a 0)), (1, .int v1), (2, .int v2), (3, .int v3)]) hx hb dX12_works0_133 hl (by decide) rfl (fun ls hl => ?_)
        have lp135 : ∀ (v1 : Int32) (v2 : Int32) (v3 : Int32), ∀ (n : Nat) (v : Int32 × (Nat → Nat → Int32) × (Nat → Nat → Int64)), whileK (fun k v => fX12_works0_s135 fu k2 v1 v2 v3 k v.1 v.2.1 v.2.2) n v = some (res, s9) → ∀ (H : Heap) (locs : List Loc) (ls : Array Slot), va_P G.1 vwCl (zw G MS 51 a (v.2.1) (v.2.2)) H → va_D A (zw G MS 51 a (v.2.1) (v.2.2)) → va_S A s.heap H locs → lv_has ls 6 [(0, .ref (a 0)), (1, .int v1), (2, .int v2), (3, .int v3), (4, .int (v.1))] → W p l e { frames := 10, cells := 0, slots := 0, locals := 203 } s m [.ref (a 0)].toArray below meth c H locs 0 0 (MQ below ((kQv G (S := Unit) (fun _ => True) (fun _ => zw G MS 51 a s9.1 s9.2)) A) [.ref (a 0)].toArray s 0 0 A) (F0 m 135 ls []) := by
          intro v1 v2 v3
          refine while_ind (fun k135 ih135 v h => ?_)
          obtain ⟨v4, g, L⟩ := v
          intro H locs ls hP hD hS hl
          have h : fX12_works0_s135 fu k2 v1 v2 v3 k135 v4 g L = some (res, s9) := h
          have hP : va_P G.1 vwCl (zw G MS 51 a g L) H := hP
          have hD : va_D A (zw G MS 51 a g L) := hD
          have hl : lv_has ls 6 [(0, .ref (a 0)), (1, .int v1), (2, .int v2), (3, .int v3), (4, .int v4)] := hl
          show W p l e { frames := 10, cells := 0, slots := 0, locals := 203 } s m [.ref (a 0)].toArray below meth c H locs 0 0 (MQ below ((kQv G (S := Unit) (fun _ => True) (fun _ => zw G MS 51 a s9.1 s9.2)) A) [.ref (a 0)].toArray s 0 0 A) (F0 m 135 ls [])
          unfold fX12_works0_s135 at h
          refine lv_iload hx hb dX12_works0_135 (lv_at hl 4 rfl) ?_
          refine lv_aload_n hx hb dX12_works0_137 rfl (lv_at hl 0 rfl) ?_
          refine x_getr (Or.inl fl_X12_38) C hP (by decide) ms_0 rfl dX12_works0_138 ?_
          refine lv_iload_n hx hb dX12_works0_141 rfl (lv_at hl 1 rfl) ?_
          refine y_ald C hP (by decide) ms_8 dX12_works0_142 h (fun h => ?_)
          have J199 : ∀ (v1 : Int32) (v2 : Int32) (g : Nat → Nat → Int32) (L : Nat → Nat → Int64) (H : Heap) (locs : List Loc) (ls : Array Slot), fX12_works0_p199 fu k2 v1 v2 g L = some (res, s9) → va_P G.1 vwCl (zw G MS 51 a g L) H → va_D A (zw G MS 51 a g L) → va_S A s.heap H locs → lv_has ls 6 [(0, .ref (a 0)), (1, .int v1), (2, .int v2)] → W p l e { frames := 10, cells := 0, slots := 0, locals := 203 } s m [.ref (a 0)].toArray below meth c H locs 0 0 (MQ below ((kQv G (S := Unit) (fun _ => True) (fun _ => zw G MS 51 a s9.1 s9.2)) A) [.ref (a 0)].toArray s 0 0 A) (F0 m 199 ls []) := by
            intro v1 v2 g L H locs ls h hP hD hS hl
            unfold fX12_works0_p199 at h
            refine lv_aload_n hx hb dX12_works0_199 rfl (lv_at hl 0 rfl) ?_
            refine x_getr (Or.inl fl_X12_120) C hP (by decide) ms_0 rfl dX12_works0_200 ?_
            refine lv_iload_n hx hb dX12_works0_203 rfl (lv_at hl 1 rfl) ?_
            refine lv_aload_n hx hb dX12_works0_204 rfl (lv_at hl 0 rfl) ?_
            refine lv_iload_n hx hb dX12_works0_205 rfl (lv_at hl 1 rfl) ?_
            obtain ⟨z_, g6, L7, hf8, h⟩ := cb_some h
            refine x_callVi (rest := [.int v1, .ref (a 33)]) li_X12_383 C (rX12_runsOver l G H.size a fu g L v1 z_ (g6, L7) hf8) (kR rfl) hP hD hS 0 12 rfl (zat (by decide) ms_0) rfl hl.1 rfl (Nat.le_of_ble_eq_true rfl) dX12_works0_206 (fun x5 u_ H locs e_ hP hD hS => ?_)
            have e_ : x5 = z_ := e_
            subst e_
            have hP : va_P G.1 vwCl (zw G MS 51 a g6 L7) H := hP
            have hD : va_D A (zw G MS 51 a g6 L7) := hD
            refine y_ast C hP hD hS (by decide) ms_33 dX12_works0_209 h (fun g9 H locs h hP hD hS => ?_)
            refine lv_iload_n hx hb dX12_works0_210 rfl (lv_at hl 2 rfl) ?_
            refine lv_aload_n hx hb dX12_works0_211 rfl (lv_at hl 0 rfl) ?_
            refine x_getr (Or.inl fl_X12_23) C hP (by decide) ms_0 rfl dX12_works0_212 ?_
            refine lv_iload_n hx hb dX12_works0_215 rfl (lv_at hl 1 rfl) ?_
            refine y_ald C hP (by decide) ms_3 dX12_works0_216 h (fun h => ?_)
            refine lv_iadd hx hb dX12_works0_217 ?_
            refine lv_aload_n hx hb dX12_works0_218 rfl (lv_at hl 0 rfl) ?_
            refine x_getr (Or.inl fl_X12_20) C hP (by decide) ms_0 rfl dX12_works0_219 ?_
            refine lv_iload_n hx hb dX12_works0_222 rfl (lv_at hl 1 rfl) ?_
            refine y_ald C hP (by decide) ms_2 dX12_works0_223 h (fun h => ?_)
            have J244 : ∀ (v1 : Int32) (t0 : Int32) (g : Nat → Nat → Int32) (L : Nat → Nat → Int64) (H : Heap) (locs : List Loc) (ls : Array Slot), fX12_works0_p244 fu k2 v1 t0 g L = some (res, s9) → va_P G.1 vwCl (zw G MS 51 a g L) H → va_D A (zw G MS 51 a g L) → va_S A s.heap H locs → lv_has ls 6 [(0, .ref (a 0)), (1, .int v1)] → W p l e { frames := 10, cells := 0, slots := 0, locals := 203 } s m [.ref (a 0)].toArray below meth c H locs 0 0 (MQ below ((kQv G (S := Unit) (fun _ => True) (fun _ => zw G MS 51 a s9.1 s9.2)) A) [.ref (a 0)].toArray s 0 0 A) (F0 m 244 ls [.int t0]) := by
              intro v1 t0 g L H locs ls h hP hD hS hl
              unfold fX12_works0_p244 at h
              refine lv_istore (lv' := [(4, .int t0), (0, .ref (a 0)), (1, .int v1)]) hx hb dX12_works0_244 hl (by decide) rfl (fun ls hl => ?_)
              refine lv_aload_n hx hb dX12_works0_246 rfl (lv_at hl 1 rfl) ?_
              refine x_getr (Or.inl fl_X12_117) C hP (by decide) ms_0 rfl dX12_works0_247 ?_
              refine lv_iload_n hx hb dX12_works0_250 rfl (lv_at hl 2 rfl) ?_
              refine lv_iload hx hb dX12_works0_251 (lv_at hl 0 rfl) ?_
              refine lv_aload_n hx hb dX12_works0_253 rfl (lv_at hl 1 rfl) ?_
              refine x_getr (Or.inl fl_X12_120) C hP (by decide) ms_0 rfl dX12_works0_254 ?_
              refine lv_iload_n hx hb dX12_works0_257 rfl (lv_at hl 2 rfl) ?_
              refine y_ald C hP (by decide) ms_33 dX12_works0_258 h (fun h => ?_)
              refine lv_iadd hx hb dX12_works0_259 ?_
              refine y_ast C hP hD hS (by decide) ms_32 dX12_works0_260 h (fun g10 H locs h hP hD hS => ?_)
              refine lv_iinc (v := (v1 + 1)) (lv' := [(1, .int (v1 + 1)), (4, .int t0), (0, .ref (a 0))]) hx hb dX12_works0_261 hl (k := 2) rfl rfl (by decide) rfl (fun ls hl => ?_)
              refine lv_goto (tgt := 2) hx hb dX12_works0_264 (by decide) ?_
              exact ih2 ((v1 + 1), g10, L) h H locs ls hP hD hS (lv_sub hl [2, 0] rfl)
            refine lv_icmp_le (x := (v2 + (g9 3 (Int32.toNatClampNeg v1)))) (y := (g9 2 (Int32.toNatClampNeg v1))) (tgt := 238) hx hb dX12_works0_224 (by decide) (fun c11 => ?_) (fun c11 => ?_)
            ·
              have h := ite_t c11 h
              refine lv_aload_n hx hb dX12_works0_238 rfl (lv_at hl 0 rfl) ?_
              refine x_getr (Or.inl fl_X12_20) C hP (by decide) ms_0 rfl dX12_works0_239 ?_
              refine lv_iload_n hx hb dX12_works0_242 rfl (lv_at hl 1 rfl) ?_
              refine y_ald C hP (by decide) ms_2 dX12_works0_243 h (fun h => ?_)
              exact J244 v1 (g9 2 (Int32.toNatClampNeg v1)) g9 L7 H locs ls h hP hD hS (lv_sub hl [0, 1] rfl)
            ·
              have h := ite_e c11 h
              refine lv_iload_n hx hb dX12_works0_227 rfl (lv_at hl 2 rfl) ?_
              refine lv_aload_n hx hb dX12_works0_228 rfl (lv_at hl 0 rfl) ?_
              refine x_getr (Or.inl fl_X12_23) C hP (by decide) ms_0 rfl dX12_works0_229 ?_
              refine lv_iload_n hx hb dX12_works0_232 rfl (lv_at hl 1 rfl) ?_
              refine y_ald C hP (by decide) ms_3 dX12_works0_233 h (fun h => ?_)
              refine lv_iadd hx hb dX12_works0_234 ?_
              refine lv_goto (tgt := 244) hx hb dX12_works0_235 (by decide) ?_
              exact J244 v1 (v2 + (g9 3 (Int32.toNatClampNeg v1))) g9 L7 H locs ls h hP hD hS (lv_sub hl [0, 1] rfl)
          refine lv_icmp_ge (x := v4) (y := (g 8 (Int32.toNatClampNeg v1))) (tgt := 199) hx hb dX12_works0_143 (by decide) (fun c12 => ?_) (fun c12 => ?_)
          ·
            have h := ite_t c12 h
            exact J199 v1 v2 g L H locs ls h hP hD hS (lv_sub hl [0, 1, 2] rfl)
          ·
            have h := ite_e c12 h
            refine lv_iload_n hx hb dX12_works0_146 rfl (lv_at hl 3 rfl) ?_
            refine lv_if_eq (x := v3) (tgt := 199) hx hb dX12_works0_147 (by decide) (fun c13 => ?_) (fun c13 => ?_)
            ·
              have h := ite_t c13 h
              exact J199 v1 v2 g L H locs ls h hP hD hS (lv_sub hl [0, 1, 2] rfl)
            ·
              have h := ite_e c13 h
              refine lv_aload_n hx hb dX12_works0_150 rfl (lv_at hl 0 rfl) ?_
              refine x_getr (Or.inl fl_X12_41) C hP (by decide) ms_0 rfl dX12_works0_151 ?_
              refine lv_bipush (v := 6) hx hb dX12_works0_154 (by decide) ?_
              refine lv_iload_n hx hb dX12_works0_156 rfl (lv_at hl 1 rfl) ?_
              refine lv_imul hx hb dX12_works0_157 ?_
              refine lv_iload hx hb dX12_works0_158 (lv_at hl 4 rfl) ?_
              refine lv_iadd hx hb dX12_works0_160 ?_
              refine y_ald C hP (by decide) ms_9 dX12_works0_161 h (fun h => ?_)
              refine y_let h (fun x14 h => ?_)
              refine lv_istore (lv' := [(5, .int x14), (0, .ref (a 0)), (1, .int v1), (2, .int v2), (3, .int v3), (4, .int v4)]) hx hb dX12_works0_162 hl (by decide) rfl (fun ls hl => ?_)
              refine lv_aload_n hx hb dX12_works0_164 rfl (lv_at hl 1 rfl) ?_
              refine x_getr (Or.inl fl_X12_123) C hP (by decide) ms_0 rfl dX12_works0_165 ?_
              refine lv_iload_n hx hb dX12_works0_168 rfl (lv_at hl 2 rfl) ?_
              refine y_ald C hP (by decide) ms_34 dX12_works0_169 h (fun h => ?_)
              refine lv_iconst (v := -1) hx hb dX12_works0_170 (by decide) ?_
              have J193 : ∀ (v4 : Int32) (g : Nat → Nat → Int32) (L : Nat → Nat → Int64) (H : Heap) (locs : List Loc) (ls : Array Slot), fX12_works0_p193 fu k2 k135 v1 v2 v3 v4 g L = some (res, s9) → va_P G.1 vwCl (zw G MS 51 a g L) H → va_D A (zw G MS 51 a g L) → va_S A s.heap H locs → lv_has ls 6 [(0, .ref (a 0)), (1, .int v1), (2, .int v2), (3, .int v3), (4, .int v4)] → W p l e { frames := 10, cells := 0, slots := 0, locals := 203 } s m [.ref (a 0)].toArray below meth c H locs 0 0 (MQ below ((kQv G (S := Unit) (fun _ => True) (fun _ => zw G MS 51 a s9.1 s9.2)) A) [.ref (a 0)].toArray s 0 0 A) (F0 m 193 ls []) := by
                intro v4 g L H locs ls h hP hD hS hl
                unfold fX12_works0_p193 at h
                refine lv_iinc (v := (v4 + 1)) (lv' := [(4, .int (v4 + 1)), (0, .ref (a 0)), (1, .int v1), (2, .int v2), (3, .int v3)]) hx hb dX12_works0_193 hl (k := 4) rfl rfl (by decide) rfl (fun ls hl => ?_)
                refine lv_goto (tgt := 135) hx hb dX12_works0_196 (by decide) ?_
                exact ih135 ((v4 + 1), g, L) h H locs ls hP hD hS (lv_sub hl [1, 2, 3, 4, 0] rfl)
              refine lv_icmp_ne (x := (g 34 (Int32.toNatClampNeg v1))) (y := (-1)) (tgt := 193) hx hb dX12_works0_171 (by decide) (fun c15 => ?_) (fun c15 => ?_)
              ·
                have h := ite_e c15 h
                exact J193 v4 g L H locs ls h hP hD hS (lv_sub hl [1, 2, 3, 4, 5] rfl)
              ·
                have h := ite_t c15 h
                refine lv_aload_n hx hb dX12_works0_174 rfl (lv_at hl 1 rfl) ?_
                refine lv_iload hx hb dX12_works0_175 (lv_at hl 0 rfl) ?_
                refine lv_iload_n hx hb dX12_works0_177 rfl (lv_at hl 2 rfl) ?_
                obtain ⟨z_, g17, L18, hf19, h⟩ := cb_some h
                refine x_callVi (rest := []) li_X12_371 C (rX12_comes l G H.size a fu g L x14 v1 z_ (g17, L18) hf19) (kR rfl) hP hD hS 0 12 rfl (zat (by decide) ms_0) rfl hl.1 rfl (Nat.le_of_ble_eq_true rfl) dX12_works0_178 (fun x16 u_ H locs e_ hP hD hS => ?_)
                have e_ : x16 = z_ := e_
                subst e_
                have hP : va_P G.1 vwCl (zw G MS 51 a g17 L18) H := hP
                have hD : va_D A (zw G MS 51 a g17 L18) := hD
                refine lv_iload_n hx hb dX12_works0_181 rfl (lv_at hl 3 rfl) ?_
                refine lv_icmp_ne (x := x16) (y := v2) (tgt := 193) hx hb dX12_works0_182 (by decide) (fun c20 => ?_) (fun c20 => ?_)
                ·
                  have h := ite_e c20 h
                  exact J193 v4 g17 L18 H locs ls h hP hD hS (lv_sub hl [1, 2, 3, 4, 5] rfl)
                ·
                  have h := ite_t c20 h
                  refine lv_aload_n hx hb dX12_works0_185 rfl (lv_at hl 1 rfl) ?_
                  refine x_getr (Or.inl fl_X12_123) C hP (by decide) ms_0 rfl dX12_works0_186 ?_
                  refine lv_iload_n hx hb dX12_works0_189 rfl (lv_at hl 2 rfl) ?_
                  refine lv_iload hx hb dX12_works0_190 (lv_at hl 0 rfl) ?_
                  refine y_ast C hP hD hS (by decide) ms_34 dX12_works0_192 h (fun g21 H locs h hP hD hS => ?_)
                  exact J193 v4 g21 L18 H locs ls h hP hD hS (lv_sub hl [1, 2, 3, 4, 5] rfl)
        exact lp135 v1 v2 v3 fu (0, g4, L) h H locs ls hP hD hS (lv_sub hl [1, 2, 3, 4, 0] rfl)
      refine lv_icmp_eq (x := (g 5 (Int32.toNatClampNeg v1))) (y := 2) (tgt := 118) hx hb dX12_works0_26 (by decide) (fun c22 => ?_) (fun c22 => ?_)
      ·
        have h := ite_t c22 h
        exact J118 v1 x2 0 g L H locs ls h hP hD hS (lv_sub hl [2, 3, 1, 0] rfl)
      ·
        have h := ite_e c22 h
        refine lv_aload_n hx hb dX12_works0_29 rfl (lv_at hl 2 rfl) ?_
        refine lv_iload_n hx hb dX12_works0_30 rfl (lv_at hl 3 rfl) ?_
        refine lv_aload_n hx hb dX12_works0_31 rfl (lv_at hl 2 rfl) ?_
        refine x_getr (Or.inl fl_X12_29) C hP (by decide) ms_0 rfl dX12_works0_32 ?_
        refine lv_iload_n hx hb dX12_works0_35 rfl (lv_at hl 3 rfl) ?_
        refine y_ald C hP (by decide) ms_5 dX12_works0_36 h (fun h => ?_)
        have J55 : ∀ (v1 : Int32) (v2 : Int32) (t0 : Int32) (t1 : Int32) (g : Nat → Nat → Int32) (L : Nat → Nat → Int64) (H : Heap) (locs : List Loc) (ls : Array Slot), fX12_works0_p55 fu k2 v1 v2 t0 t1 g L = some (res, s9) → va_P G.1 vwCl (zw G MS 51 a g L) H → va_D A (zw G MS 51 a g L) → va_S A s.heap H locs → lv_has ls 6 [(0, .ref (a 0)), (1, .int v1), (2, .int v2)] → W p l e { frames := 10, cells := 0, slots := 0, locals := 203 } s m [.ref (a 0)].toArray below meth c H locs 0 0 (MQ below ((kQv G (S := Unit) (fun _ => True) (fun _ => zw G MS 51 a s9.1 s9.2)) A) [.ref (a 0)].toArray s 0 0 A) (F0 m 55 ls [.int t0, .int t1, .ref (a 0)]) := by
          intro v1 v2 t0 t1 g L H locs ls h hP hD hS hl
          unfold fX12_works0_p55 at h
          obtain ⟨z_, g24, L25, hf26, h⟩ := cb_some h
          refine x_callVi (rest := []) li_X12_380 C (rX12_thereBy l G H.size a fu g L t1 t0 z_ (g24, L25) hf26) (kR rfl) hP hD hS 0 12 rfl (zat (by decide) ms_0) rfl hl.1 rfl (Nat.le_of_ble_eq_true rfl) dX12_works0_55 (fun x23 u_ H locs e_ hP hD hS => ?_)
          have e_ : x23 = z_ := e_
          subst e_
          have hP : va_P G.1 vwCl (zw G MS 51 a g24 L25) H := hP
          have hD : va_D A (zw G MS 51 a g24 L25) := hD
          refine lv_istore (lv' := [(4, .int x23), (0, .ref (a 0)), (1, .int v1), (2, .int v2)]) hx hb dX12_works0_58 hl (by decide) rfl (fun ls hl => ?_)
          refine lv_aload_n hx hb dX12_works0_60 rfl (lv_at hl 1 rfl) ?_
          refine x_getr (Or.inl fl_X12_16) C hP (by decide) ms_0 rfl dX12_works0_61 ?_
          refine lv_iload_n hx hb dX12_works0_64 rfl (lv_at hl 2 rfl) ?_
          refine y_ald C hP (by decide) ms_1 dX12_works0_65 h (fun h => ?_)
          refine lv_aload_n hx hb dX12_works0_66 rfl (lv_at hl 1 rfl) ?_
          refine x_getr (Or.inl fl_X12_50) C hP (by decide) ms_0 rfl dX12_works0_67 ?_
          refine lv_bipush (v := 36) hx hb dX12_works0_70 (by decide) ?_
          refine lv_iload_n hx hb dX12_works0_72 rfl (lv_at hl 2 rfl) ?_
          refine lv_iadd hx hb dX12_works0_73 ?_
          refine y_ald C hP (by decide) ms_12 dX12_works0_74 h (fun h => ?_)
          refine lv_iadd hx hb dX12_works0_75 ?_
          refine y_let h (fun x27 h => ?_)
          refine lv_istore (lv' := [(5, .int x27), (4, .int x23), (0, .ref (a 0)), (1, .int v1), (2, .int v2)]) hx hb dX12_works0_76 hl (by decide) rfl (fun ls hl => ?_)
          refine lv_iload hx hb dX12_works0_78 (lv_at hl 1 rfl) ?_
          refine lv_iload_n hx hb dX12_works0_80 rfl (lv_at hl 4 rfl) ?_
          have J96 : ∀ (v1 : Int32) (v2 : Int32) (v4 : Int32) (v5 : Int32) (t0 : Int32) (g : Nat → Nat → Int32) (L : Nat → Nat → Int64) (H : Heap) (locs : List Loc) (ls : Array Slot), fX12_works0_p96 fu k2 v1 v2 v4 v5 t0 g L = some (res, s9) → va_P G.1 vwCl (zw G MS 51 a g L) H → va_D A (zw G MS 51 a g L) → va_S A s.heap H locs → lv_has ls 6 [(0, .ref (a 0)), (1, .int v1), (2, .int v2), (4, .int v4), (5, .int v5)] → W p l e { frames := 10, cells := 0, slots := 0, locals := 203 } s m [.ref (a 0)].toArray below meth c H locs 0 0 (MQ below ((kQv G (S := Unit) (fun _ => True) (fun _ => zw G MS 51 a s9.1 s9.2)) A) [.ref (a 0)].toArray s 0 0 A) (F0 m 96 ls [.int t0]) := by
            intro v1 v2 v4 v5 t0 g L H locs ls h hP hD hS hl
            unfold fX12_works0_p96 at h
            refine lv_istore_n (lv' := [(3, .int t0), (0, .ref (a 0)), (1, .int v1), (2, .int v2), (4, .int v4), (5, .int v5)]) hx hb dX12_works0_96 rfl hl (by decide) rfl (fun ls hl => ?_)
            refine lv_iload hx hb dX12_works0_97 (lv_at hl 4 rfl) ?_
            refine lv_iload_n hx hb dX12_works0_99 rfl (lv_at hl 3 rfl) ?_
            refine lv_icmp_le (x := v4) (y := v2) (tgt := 118) hx hb dX12_works0_100 (by decide) (fun c28 => ?_) (fun c28 => ?_)
            ·
              have h := ite_t c28 h
              exact J118 v1 v2 t0 g L H locs ls h hP hD hS (lv_sub hl [1, 2, 3, 0] rfl)
            ·
              have h := ite_e c28 h
              refine lv_iload hx hb dX12_works0_103 (lv_at hl 4 rfl) ?_
              refine lv_iload hx hb dX12_works0_105 (lv_at hl 5 rfl) ?_
              have J117 : ∀ (v1 : Int32) (v3 : Int32) (t0 : Int32) (g : Nat → Nat → Int32) (L : Nat → Nat → Int64) (H : Heap) (locs : List Loc) (ls : Array Slot), fX12_works0_p117 fu k2 v1 v3 t0 g L = some (res, s9) → va_P G.1 vwCl (zw G MS 51 a g L) H → va_D A (zw G MS 51 a g L) → va_S A s.heap H locs → lv_has ls 6 [(0, .ref (a 0)), (1, .int v1), (3, .int v3)] → W p l e { frames := 10, cells := 0, slots := 0, locals := 203 } s m [.ref (a 0)].toArray below meth c H locs 0 0 (MQ below ((kQv G (S := Unit) (fun _ => True) (fun _ => zw G MS 51 a s9.1 s9.2)) A) [.ref (a 0)].toArray s 0 0 A) (F0 m 117 ls [.int t0]) := by
                intro v1 v3 t0 g L H locs ls h hP hD hS hl
                unfold fX12_works0_p117 at h
                refine lv_istore_n (lv' := [(2, .int t0), (0, .ref (a 0)), (1, .int v1), (3, .int v3)]) hx hb dX12_works0_117 rfl hl (by decide) rfl (fun ls hl => ?_)
                exact J118 v1 t0 v3 g L H locs ls h hP hD hS (lv_sub hl [1, 2, 0, 3] rfl)
              refine lv_icmp_ge (x := v4) (y := v5) (tgt := 115) hx hb dX12_works0_107 (by decide) (fun c29 => ?_) (fun c29 => ?_)
              ·
                have h := ite_t c29 h
                refine lv_iload hx hb dX12_works0_115 (lv_at hl 5 rfl) ?_
                exact J117 v1 t0 v5 g L H locs ls h hP hD hS (lv_sub hl [1, 2, 0] rfl)
              ·
                have h := ite_e c29 h
                refine lv_iload hx hb dX12_works0_110 (lv_at hl 4 rfl) ?_
                refine lv_goto (tgt := 117) hx hb dX12_works0_112 (by decide) ?_
                exact J117 v1 t0 v4 g L H locs ls h hP hD hS (lv_sub hl [1, 2, 0] rfl)
          have J95 : ∀ (v1 : Int32) (v2 : Int32) (v4 : Int32) (v5 : Int32) (g : Nat → Nat → Int32) (L : Nat → Nat → Int64) (H : Heap) (locs : List Loc) (ls : Array Slot), fX12_works0_p95 fu k2 v1 v2 v4 v5 g L = some (res, s9) → va_P G.1 vwCl (zw G MS 51 a g L) H → va_D A (zw G MS 51 a g L) → va_S A s.heap H locs → lv_has ls 6 [(0, .ref (a 0)), (1, .int v1), (2, .int v2), (4, .int v4), (5, .int v5)] → W p l e { frames := 10, cells := 0, slots := 0, locals := 203 } s m [.ref (a 0)].toArray below meth c H locs 0 0 (MQ below ((kQv G (S := Unit) (fun _ => True) (fun _ => zw G MS 51 a s9.1 s9.2)) A) [.ref (a 0)].toArray s 0 0 A) (F0 m 95 ls []) := by
            intro v1 v2 v4 v5 g L H locs ls h hP hD hS hl
            unfold fX12_works0_p95 at h
            refine lv_iconst (v := 0) hx hb dX12_works0_95 (by decide) ?_
            exact J96 v1 v2 v4 v5 0 g L H locs ls h hP hD hS (lv_sub hl [0, 1, 2, 3, 4] rfl)
          refine lv_icmp_le (x := x23) (y := v2) (tgt := 95) hx hb dX12_works0_81 (by decide) (fun c30 => ?_) (fun c30 => ?_)
          ·
            have h := ite_t c30 h
            exact J95 v1 v2 x23 x27 g24 L25 H locs ls h hP hD hS (lv_sub hl [2, 3, 4, 1, 0] rfl)
          ·
            have h := ite_e c30 h
            refine lv_iload hx hb dX12_works0_84 (lv_at hl 1 rfl) ?_
            refine lv_iload hx hb dX12_works0_86 (lv_at hl 0 rfl) ?_
            refine lv_icmp_gt (x := x23) (y := x27) (tgt := 95) hx hb dX12_works0_88 (by decide) (fun c31 => ?_) (fun c31 => ?_)
            ·
              have h := ite_t c31 h
              exact J95 v1 v2 x23 x27 g24 L25 H locs ls h hP hD hS (lv_sub hl [2, 3, 4, 1, 0] rfl)
            ·
              have h := ite_e c31 h
              refine lv_iconst (v := 1) hx hb dX12_works0_91 (by decide) ?_
              refine lv_goto (tgt := 96) hx hb dX12_works0_92 (by decide) ?_
              exact J96 v1 v2 x23 x27 1 g24 L25 H locs ls h hP hD hS (lv_sub hl [2, 3, 4, 1, 0] rfl)
        refine lv_if_ne (x := (g 5 (Int32.toNatClampNeg v1))) (tgt := 49) hx hb dX12_works0_37 (by decide) (fun c32 => ?_) (fun c32 => ?_)
        ·
          have h := ite_e c32 h
          refine lv_aload_n hx hb dX12_works0_49 rfl (lv_at hl 2 rfl) ?_
          refine x_getr (Or.inl fl_X12_32) C hP (by decide) ms_0 rfl dX12_works0_50 ?_
          refine lv_iload_n hx hb dX12_works0_53 rfl (lv_at hl 3 rfl) ?_
          refine y_ald C hP (by decide) ms_6 dX12_works0_54 h (fun h => ?_)
          exact J55 v1 x2 (g 6 (Int32.toNatClampNeg v1)) v1 g L H locs ls h hP hD hS (lv_sub hl [2, 3, 1] rfl)
        ·
          have h := ite_t c32 h
          refine lv_aload_n hx hb dX12_works0_40 rfl (lv_at hl 2 rfl) ?_
          refine x_getr (Or.inl fl_X12_38) C hP (by decide) ms_0 rfl dX12_works0_41 ?_
          refine lv_iload_n hx hb dX12_works0_44 rfl (lv_at hl 3 rfl) ?_
          refine y_ald C hP (by decide) ms_8 dX12_works0_45 h (fun h => ?_)
          refine lv_goto (tgt := 55) hx hb dX12_works0_46 (by decide) ?_
          exact J55 v1 x2 (g 8 (Int32.toNatClampNeg v1)) v1 g L H locs ls h hP hD hS (lv_sub hl [2, 3, 1] rfl)
  exact lp2 trivial fu (0, g, L) h H locs ls hP hD hS (lv_sub hl [1, 0] rfl)
def fX12_late (fu : Nat) (p1 : Int32) (g : Nat → Nat → Int32) (L : Nat → Nat → Int64) : Option ((Int32) × zS) :=
  ck p1 12 (
  ck p1 12 (
  some (((g 32 (Int32.toNatClampNeg p1)) - (g 2 (Int32.toNatClampNeg p1))), (g, L))))
set_option maxHeartbeats 4000000 in
set_option maxRecDepth 100000 in
theorem rX12_late (l : Launch) (G : kG) (sz : Nat) (a : Nat → Nat) (fu : Nat) (g : Nat → Nat → Int32) (L : Nat → Nat → Int64) (p1 : Int32) (res : Int32) (s9 : zS) (h : fX12_late fu p1 g L = some (res, s9)) : kM l yX12_late cX12_late 2 (some .int) { frames := 6, cells := 0, slots := 0, locals := 110 } G [.ref (a 0), .int p1] (zw G MS 51 a g L) sz (kQi G (S := Unit) (fun r' _ => r' = res) (fun _ => zw G MS 51 a s9.1 s9.2)) := by
  refine kM.of (by decide) (Nat.le_of_ble_eq_true rfl) ?_
  intro p e s m below meth c A ls H C hr hlk hnm hP hD hS hl
  have C : kC G p s m c cX12_late 2 RX12 A := C
  have hx := C.1
  have hb := C.2.1
  have hl : lv_has ls 2 [(0, .ref (a 0)), (1, .int p1)] := hl
  obtain ⟨locs, hlocs⟩ : ∃ q : List Loc, q = [] := ⟨_, rfl⟩
  rw [← hlocs] at hS
  rw [← hlocs]
  unfold fX12_late at h
  refine lv_aload_n hx hb dX12_late_0 rfl (lv_at hl 0 rfl) ?_
  refine x_getr (Or.inl fl_X12_117) C hP (by decide) ms_0 rfl dX12_late_1 ?_
  refine lv_iload_n hx hb dX12_late_4 rfl (lv_at hl 1 rfl) ?_
  refine y_ald C hP (by decide) ms_32 dX12_late_5 h (fun h => ?_)
  refine lv_aload_n hx hb dX12_late_6 rfl (lv_at hl 0 rfl) ?_
  refine x_getr (Or.inl fl_X12_20) C hP (by decide) ms_0 rfl dX12_late_7 ?_
  refine lv_iload_n hx hb dX12_late_10 rfl (lv_at hl 1 rfl) ?_
  refine y_ald C hP (by decide) ms_2 dX12_late_11 h (fun h => ?_)
  refine lv_isub hx hb dX12_late_12 ?_
  exact y_iret C hr hlk hP hD hS h (Nat.le_of_ble_eq_true rfl) (Nat.le_of_ble_eq_true rfl) dX12_late_13
def fX12_lost_s8 (fu : Nat) (k8 : Int32 × Int32 × (Nat → Nat → Int32) × (Nat → Nat → Int64) → Option ((Int32) × zS)) (v1 : Int32) (v2 : Int32) (g : Nat → Nat → Int32) (L : Nat → Nat → Int64) : Option ((Int32) × zS) :=
  if (g 0 1) ≤ v2 then some (v1, (g, L))
  else ck v2 12 (
  cb (fX12_late fu v2 g L) (fun x6 g7 L8 =>
  lti (v1 + ((g 4 (Int32.toNatClampNeg v2)) * x6)) (fun x10 =>
  k8 (x10, (v2 + 1), g7, L8))))
def fX12_lost_l8 (fu : Nat) (v1 : Int32) (v2 : Int32) (g : Nat → Nat → Int32) (L : Nat → Nat → Int64) : Option ((Int32) × zS) :=
  whileK (fun k v => fX12_lost_s8 fu k v.1 v.2.1 v.2.2.1 v.2.2.2) fu (v1, v2, g, L)
def fX12_lost (fu : Nat) (g : Nat → Nat → Int32) (L : Nat → Nat → Int64) : Option ((Int32) × zS) :=
  cb (fX12_works0 fu g L) (fun x1 g2 L3 =>
  fX12_lost_l8 fu 0 0 g2 L3)
set_option maxHeartbeats 4000000 in
set_option maxRecDepth 100000 in
theorem rX12_lost (l : Launch) (G : kG) (sz : Nat) (a : Nat → Nat) (fu : Nat) (g : Nat → Nat → Int32) (L : Nat → Nat → Int64) (res : Int32) (s9 : zS) (h : fX12_lost fu g L = some (res, s9)) : kM l yX12_lost cX12_lost 3 (some .int) { frames := 11, cells := 0, slots := 0, locals := 228 } G [.ref (a 0)] (zw G MS 51 a g L) sz (kQi G (S := Unit) (fun r' _ => r' = res) (fun _ => zw G MS 51 a s9.1 s9.2)) := by
  refine kM.of (by decide) (Nat.le_of_ble_eq_true rfl) ?_
  intro p e s m below meth c A ls H C hr hlk hnm hP hD hS hl
  have C : kC G p s m c cX12_lost 3 RX12 A := C
  have hx := C.1
  have hb := C.2.1
  have hl : lv_has ls 3 [(0, .ref (a 0))] := hl
  obtain ⟨locs, hlocs⟩ : ∃ q : List Loc, q = [] := ⟨_, rfl⟩
  rw [← hlocs] at hS
  rw [← hlocs]
  unfold fX12_lost at h
  refine lv_aload_n hx hb dX12_lost_0 rfl (lv_at hl 0 rfl) ?_
  obtain ⟨z_, g2, L3, hf4, h⟩ := cb_some h
  refine x_callVv (rest := []) li_X12_386 C (rX12_works0 l G H.size a fu g L z_ (g2, L3) hf4) (kR rfl) hP hD hS 0 12 rfl (zat (by decide) ms_0) rfl hl.1 rfl (Nat.le_of_ble_eq_true rfl) dX12_lost_1 (fun u_ H locs e_ hP hD hS => ?_)
  have hP : va_P G.1 vwCl (zw G MS 51 a g2 L3) H := hP
  have hD : va_D A (zw G MS 51 a g2 L3) := hD
  refine lv_iconst (v := 0) hx hb dX12_lost_4 (by decide) ?_
  refine lv_istore_n (lv' := [(1, .int 0), (0, .ref (a 0))]) hx hb dX12_lost_5 rfl hl (by decide) rfl (fun ls hl => ?_)
  refine lv_iconst (v := 0) hx hb dX12_lost_6 (by decide) ?_
  refine lv_istore_n (lv' := [(2, .int 0), (1, .int 0), (0, .ref (a 0))]) hx hb dX12_lost_7 rfl hl (by decide) rfl (fun ls hl => ?_)
  have lp8 : ∀ (_ : True), ∀ (n : Nat) (v : Int32 × Int32 × (Nat → Nat → Int32) × (Nat → Nat → Int64)), whileK (fun k v => fX12_lost_s8 fu k v.1 v.2.1 v.2.2.1 v.2.2.2) n v = some (res, s9) → ∀ (H : Heap) (locs : List Loc) (ls : Array Slot), va_P G.1 vwCl (zw G MS 51 a (v.2.2.1) (v.2.2.2)) H → va_D A (zw G MS 51 a (v.2.2.1) (v.2.2.2)) → va_S A s.heap H locs → lv_has ls 3 [(0, .ref (a 0)), (1, .int (v.1)), (2, .int (v.2.1))] → W p l e { frames := 11, cells := 0, slots := 0, locals := 228 } s m [.ref (a 0)].toArray below meth c H locs 0 0 (MQ below ((kQi G (S := Unit) (fun r' _ => r' = res) (fun _ => zw G MS 51 a s9.1 s9.2)) A) [.ref (a 0)].toArray s 0 0 A) (F0 m 8 ls []) := by
    intro _
    refine while_ind (fun k8 ih8 v h => ?_)
    obtain ⟨v1, v2, g, L⟩ := v
    intro H locs ls hP hD hS hl
    have h : fX12_lost_s8 fu k8 v1 v2 g L = some (res, s9) := h
    have hP : va_P G.1 vwCl (zw G MS 51 a g L) H := hP
    have hD : va_D A (zw G MS 51 a g L) := hD
    have hl : lv_has ls 3 [(0, .ref (a 0)), (1, .int v1), (2, .int v2)] := hl
    show W p l e { frames := 11, cells := 0, slots := 0, locals := 228 } s m [.ref (a 0)].toArray below meth c H locs 0 0 (MQ below ((kQi G (S := Unit) (fun r' _ => r' = res) (fun _ => zw G MS 51 a s9.1 s9.2)) A) [.ref (a 0)].toArray s 0 0 A) (F0 m 8 ls [])
    unfold fX12_lost_s8 at h
    refine lv_iload_n hx hb dX12_lost_8 rfl (lv_at hl 2 rfl) ?_
    refine lv_aload_n hx hb dX12_lost_9 rfl (lv_at hl 0 rfl) ?_
    refine x_getv (v := .int (g 0 1)) (Or.inl fl_X12_335) C hP (by decide) ms_0 rfl dX12_lost_10 ?_
    refine lv_icmp_ge (x := v2) (y := (g 0 1)) (tgt := 37) hx hb dX12_lost_13 (by decide) (fun c5 => ?_) (fun c5 => ?_)
    ·
      have h := ite_t c5 h
      refine lv_iload_n hx hb dX12_lost_37 rfl (lv_at hl 1 rfl) ?_
      exact y_iret C hr hlk hP hD hS h (Nat.le_of_ble_eq_true rfl) (Nat.le_of_ble_eq_true rfl) dX12_lost_38
    ·
      have h := ite_e c5 h
      refine lv_iload_n hx hb dX12_lost_16 rfl (lv_at hl 1 rfl) ?_
      refine lv_aload_n hx hb dX12_lost_17 rfl (lv_at hl 0 rfl) ?_
      refine x_getr (Or.inl fl_X12_26) C hP (by decide) ms_0 rfl dX12_lost_18 ?_
      refine lv_iload_n hx hb dX12_lost_21 rfl (lv_at hl 2 rfl) ?_
      refine y_ald C hP (by decide) ms_4 dX12_lost_22 h (fun h => ?_)
      refine lv_aload_n hx hb dX12_lost_23 rfl (lv_at hl 0 rfl) ?_
      refine lv_iload_n hx hb dX12_lost_24 rfl (lv_at hl 2 rfl) ?_
      obtain ⟨z_, g7, L8, hf9, h⟩ := cb_some h
      refine x_callVi (rest := [.int (g 4 (Int32.toNatClampNeg v2)), .int v1]) li_X12_389 C (rX12_late l G H.size a fu g L v2 z_ (g7, L8) hf9) (kR rfl) hP hD hS 0 12 rfl (zat (by decide) ms_0) rfl hl.1 rfl (Nat.le_of_ble_eq_true rfl) dX12_lost_25 (fun x6 u_ H locs e_ hP hD hS => ?_)
      have e_ : x6 = z_ := e_
      subst e_
      have hP : va_P G.1 vwCl (zw G MS 51 a g7 L8) H := hP
      have hD : va_D A (zw G MS 51 a g7 L8) := hD
      refine lv_imul hx hb dX12_lost_28 ?_
      refine lv_iadd hx hb dX12_lost_29 ?_
      refine y_let h (fun x10 h => ?_)
      refine lv_istore_n (lv' := [(1, .int x10), (0, .ref (a 0)), (2, .int v2)]) hx hb dX12_lost_30 rfl hl (by decide) rfl (fun ls hl => ?_)
      refine lv_iinc (v := (v2 + 1)) (lv' := [(2, .int (v2 + 1)), (1, .int x10), (0, .ref (a 0))]) hx hb dX12_lost_31 hl (k := 2) rfl rfl (by decide) rfl (fun ls hl => ?_)
      refine lv_goto (tgt := 8) hx hb dX12_lost_34 (by decide) ?_
      exact ih8 (x10, (v2 + 1), g7, L8) h H locs ls hP hD hS (lv_sub hl [2, 1, 0] rfl)
  exact lp8 trivial fu (0, 0, g2, L3) h H locs ls hP hD hS (lv_sub hl [2, 1, 0] rfl)
def fX12_lates_s4 (fu : Nat) (k4 : Int32 × Int32 × (Nat → Nat → Int32) × (Nat → Nat → Int64) → Option ((Int32) × zS)) (v1 : Int32) (v2 : Int32) (g : Nat → Nat → Int32) (L : Nat → Nat → Int64) : Option ((Int32) × zS) :=
  if (g 0 1) ≤ v2 then some (v1, (g, L))
  else cb (fX12_late fu v2 g L) (fun x2 g3 L4 =>
  lti (v1 + x2) (fun x6 =>
  k4 (x6, (v2 + 1), g3, L4)))
def fX12_lates_l4 (fu : Nat) (v1 : Int32) (v2 : Int32) (g : Nat → Nat → Int32) (L : Nat → Nat → Int64) : Option ((Int32) × zS) :=
  whileK (fun k v => fX12_lates_s4 fu k v.1 v.2.1 v.2.2.1 v.2.2.2) fu (v1, v2, g, L)
def fX12_lates (fu : Nat) (g : Nat → Nat → Int32) (L : Nat → Nat → Int64) : Option ((Int32) × zS) :=
  fX12_lates_l4 fu 0 0 g L
set_option maxHeartbeats 4000000 in
set_option maxRecDepth 100000 in
theorem rX12_lates (l : Launch) (G : kG) (sz : Nat) (a : Nat → Nat) (fu : Nat) (g : Nat → Nat → Int32) (L : Nat → Nat → Int64) (res : Int32) (s9 : zS) (h : fX12_lates fu g L = some (res, s9)) : kM l yX12_lates cX12_lates 3 (some .int) { frames := 7, cells := 0, slots := 0, locals := 131 } G [.ref (a 0)] (zw G MS 51 a g L) sz (kQi G (S := Unit) (fun r' _ => r' = res) (fun _ => zw G MS 51 a s9.1 s9.2)) := by
  refine kM.of (by decide) (Nat.le_of_ble_eq_true rfl) ?_
  intro p e s m below meth c A ls H C hr hlk hnm hP hD hS hl
  have C : kC G p s m c cX12_lates 3 RX12 A := C
  have hx := C.1
  have hb := C.2.1
  have hl : lv_has ls 3 [(0, .ref (a 0))] := hl
  obtain ⟨locs, hlocs⟩ : ∃ q : List Loc, q = [] := ⟨_, rfl⟩
  rw [← hlocs] at hS
  rw [← hlocs]
  unfold fX12_lates at h
  refine lv_iconst (v := 0) hx hb dX12_lates_0 (by decide) ?_
  refine lv_istore_n (lv' := [(1, .int 0), (0, .ref (a 0))]) hx hb dX12_lates_1 rfl hl (by decide) rfl (fun ls hl => ?_)
  refine lv_iconst (v := 0) hx hb dX12_lates_2 (by decide) ?_
  refine lv_istore_n (lv' := [(2, .int 0), (1, .int 0), (0, .ref (a 0))]) hx hb dX12_lates_3 rfl hl (by decide) rfl (fun ls hl => ?_)
  have lp4 : ∀ (_ : True), ∀ (n : Nat) (v : Int32 × Int32 × (Nat → Nat → Int32) × (Nat → Nat → Int64)), whileK (fun k v => fX12_lates_s4 fu k v.1 v.2.1 v.2.2.1 v.2.2.2) n v = some (res, s9) → ∀ (H : Heap) (locs : List Loc) (ls : Array Slot), va_P G.1 vwCl (zw G MS 51 a (v.2.2.1) (v.2.2.2)) H → va_D A (zw G MS 51 a (v.2.2.1) (v.2.2.2)) → va_S A s.heap H locs → lv_has ls 3 [(0, .ref (a 0)), (1, .int (v.1)), (2, .int (v.2.1))] → W p l e { frames := 7, cells := 0, slots := 0, locals := 131 } s m [.ref (a 0)].toArray below meth c H locs 0 0 (MQ below ((kQi G (S := Unit) (fun r' _ => r' = res) (fun _ => zw G MS 51 a s9.1 s9.2)) A) [.ref (a 0)].toArray s 0 0 A) (F0 m 4 ls []) := by
    intro _
    refine while_ind (fun k4 ih4 v h => ?_)
    obtain ⟨v1, v2, g, L⟩ := v
    intro H locs ls hP hD hS hl
    have h : fX12_lates_s4 fu k4 v1 v2 g L = some (res, s9) := h
    have hP : va_P G.1 vwCl (zw G MS 51 a g L) H := hP
    have hD : va_D A (zw G MS 51 a g L) := hD
    have hl : lv_has ls 3 [(0, .ref (a 0)), (1, .int v1), (2, .int v2)] := hl
    show W p l e { frames := 7, cells := 0, slots := 0, locals := 131 } s m [.ref (a 0)].toArray below meth c H locs 0 0 (MQ below ((kQi G (S := Unit) (fun r' _ => r' = res) (fun _ => zw G MS 51 a s9.1 s9.2)) A) [.ref (a 0)].toArray s 0 0 A) (F0 m 4 ls [])
    unfold fX12_lates_s4 at h
    refine lv_iload_n hx hb dX12_lates_4 rfl (lv_at hl 2 rfl) ?_
    refine lv_aload_n hx hb dX12_lates_5 rfl (lv_at hl 0 rfl) ?_
    refine x_getv (v := .int (g 0 1)) (Or.inl fl_X12_335) C hP (by decide) ms_0 rfl dX12_lates_6 ?_
    refine lv_icmp_ge (x := v2) (y := (g 0 1)) (tgt := 26) hx hb dX12_lates_9 (by decide) (fun c1 => ?_) (fun c1 => ?_)
    ·
      have h := ite_t c1 h
      refine lv_iload_n hx hb dX12_lates_26 rfl (lv_at hl 1 rfl) ?_
      exact y_iret C hr hlk hP hD hS h (Nat.le_of_ble_eq_true rfl) (Nat.le_of_ble_eq_true rfl) dX12_lates_27
    ·
      have h := ite_e c1 h
      refine lv_iload_n hx hb dX12_lates_12 rfl (lv_at hl 1 rfl) ?_
      refine lv_aload_n hx hb dX12_lates_13 rfl (lv_at hl 0 rfl) ?_
      refine lv_iload_n hx hb dX12_lates_14 rfl (lv_at hl 2 rfl) ?_
      obtain ⟨z_, g3, L4, hf5, h⟩ := cb_some h
      refine x_callVi (rest := [.int v1]) li_X12_389 C (rX12_late l G H.size a fu g L v2 z_ (g3, L4) hf5) (kR rfl) hP hD hS 0 12 rfl (zat (by decide) ms_0) rfl hl.1 rfl (Nat.le_of_ble_eq_true rfl) dX12_lates_15 (fun x2 u_ H locs e_ hP hD hS => ?_)
      have e_ : x2 = z_ := e_
      subst e_
      have hP : va_P G.1 vwCl (zw G MS 51 a g3 L4) H := hP
      have hD : va_D A (zw G MS 51 a g3 L4) := hD
      refine lv_iadd hx hb dX12_lates_18 ?_
      refine y_let h (fun x6 h => ?_)
      refine lv_istore_n (lv' := [(1, .int x6), (0, .ref (a 0)), (2, .int v2)]) hx hb dX12_lates_19 rfl hl (by decide) rfl (fun ls hl => ?_)
      refine lv_iinc (v := (v2 + 1)) (lv' := [(2, .int (v2 + 1)), (1, .int x6), (0, .ref (a 0))]) hx hb dX12_lates_20 hl (k := 2) rfl rfl (by decide) rfl (fun ls hl => ?_)
      refine lv_goto (tgt := 4) hx hb dX12_lates_23 (by decide) ?_
      exact ih4 (x6, (v2 + 1), g3, L4) h H locs ls hP hD hS (lv_sub hl [2, 1, 0] rfl)
  exact lp4 trivial fu (0, 0, g, L) h H locs ls hP hD hS (lv_sub hl [2, 1, 0] rfl)
def fX12_lateness_p84 (fu : Nat) (k8 : Int32 × Int32 × (Nat → Nat → Int32) × (Nat → Nat → Int64) → Option ((Int32) × zS)) (v1 : Int32) (v2 : Int32) (v3 : Int32) (g : Nat → Nat → Int32) (L : Nat → Nat → Int64) : Option ((Int32) × zS) :=
  k8 (v2, (v3 + 1), g, L)
def fX12_lateness_p82 (fu : Nat) (k8 : Int32 × Int32 × (Nat → Nat → Int32) × (Nat → Nat → Int64) → Option ((Int32) × zS)) (v1 : Int32) (v3 : Int32) (t0 : Int32) (t1 : Int32) (g : Nat → Nat → Int32) (L : Nat → Nat → Int64) : Option ((Int32) × zS) :=
  lti (t1 + t0) (fun x7 =>
  fX12_lateness_p84 fu k8 v1 x7 v3 g L)
def fX12_lateness_p77 (fu : Nat) (k8 : Int32 × Int32 × (Nat → Nat → Int32) × (Nat → Nat → Int64) → Option ((Int32) × zS)) (v1 : Int32) (v3 : Int32) (t0 : Int32) (g : Nat → Nat → Int32) (L : Nat → Nat → Int64) : Option ((Int32) × zS) :=
  fX12_lateness_p82 fu k8 v1 v3 1 t0 g L
def fX12_lateness_p81 (fu : Nat) (k8 : Int32 × Int32 × (Nat → Nat → Int32) × (Nat → Nat → Int64) → Option ((Int32) × zS)) (v1 : Int32) (v3 : Int32) (t0 : Int32) (g : Nat → Nat → Int32) (L : Nat → Nat → Int64) : Option ((Int32) × zS) :=
  fX12_lateness_p82 fu k8 v1 v3 0 t0 g L
def fX12_lateness_p40 (fu : Nat) (k8 : Int32 × Int32 × (Nat → Nat → Int32) × (Nat → Nat → Int64) → Option ((Int32) × zS)) (v1 : Int32) (v3 : Int32) (t0 : Int32) (g : Nat → Nat → Int32) (L : Nat → Nat → Int64) : Option ((Int32) × zS) :=
  fX12_lateness_p84 fu k8 v1 t0 v3 g L
def fX12_lateness_s8 (fu : Nat) (v1 : Int32) (k8 : Int32 × Int32 × (Nat → Nat → Int32) × (Nat → Nat → Int64) → Option ((Int32) × zS)) (v2 : Int32) (v3 : Int32) (g : Nat → Nat → Int32) (L : Nat → Nat → Int64) : Option ((Int32) × zS) :=
  if (g 0 1) ≤ v3 then some (v2, (g, L))
  else if (v1 : Int32) = 13 then cb (fX12_late fu v3 g L) (fun x15 g16 L17 =>
  if (x15 : Int32) ≤ v2 then fX12_lateness_p40 fu k8 v1 v3 v2 g16 L17
  else cb (fX12_late fu v3 g16 L17) (fun x20 g21 L22 =>
  fX12_lateness_p40 fu k8 v1 v3 x20 g21 L22))
  else if (v1 : Int32) = 12 then cb (fX12_late fu v3 g L) (fun x10 g11 L12 =>
  if x10 ≤ 0 then fX12_lateness_p81 fu k8 v1 v3 v2 g11 L12
  else fX12_lateness_p77 fu k8 v1 v3 v2 g11 L12)
  else ck v3 12 (
  ck v3 12 (
  if (g 31 (Int32.toNatClampNeg v3)) ≤ (g 1 (Int32.toNatClampNeg v3)) then fX12_lateness_p81 fu k8 v1 v3 v2 g L
  else fX12_lateness_p77 fu k8 v1 v3 v2 g L))
def fX12_lateness_l8 (fu : Nat) (v1 : Int32) (v2 : Int32) (v3 : Int32) (g : Nat → Nat → Int32) (L : Nat → Nat → Int64) : Option ((Int32) × zS) :=
  whileK (fun k v => fX12_lateness_s8 fu v1 k v.1 v.2.1 v.2.2.1 v.2.2.2) fu (v2, v3, g, L)
def fX12_lateness (fu : Nat) (p1 : Int32) (g : Nat → Nat → Int32) (L : Nat → Nat → Int64) : Option ((Int32) × zS) :=
  cb (fX12_works0 fu g L) (fun x1 g2 L3 =>
  fX12_lateness_l8 fu p1 0 0 g2 L3)
set_option maxHeartbeats 4000000 in
set_option maxRecDepth 100000 in
theorem rX12_lateness (l : Launch) (G : kG) (sz : Nat) (a : Nat → Nat) (fu : Nat) (g : Nat → Nat → Int32) (L : Nat → Nat → Int64) (p1 : Int32) (res : Int32) (s9 : zS) (h : fX12_lateness fu p1 g L = some (res, s9)) : kM l yX12_lateness cX12_lateness 4 (some .int) { frames := 11, cells := 0, slots := 0, locals := 228 } G [.ref (a 0), .int p1] (zw G MS 51 a g L) sz (kQi G (S := Unit) (fun r' _ => r' = res) (fun _ => zw G MS 51 a s9.1 s9.2)) := by
  refine kM.of (by decide) (Nat.le_of_ble_eq_true rfl) ?_
  intro p e s m below meth c A ls H C hr hlk hnm hP hD hS hl
  have C : kC G p s m c cX12_lateness 4 RX12 A := C
  have hx := C.1
  have hb := C.2.1
  have hl : lv_has ls 4 [(0, .ref (a 0)), (1, .int p1)] := hl
  obtain ⟨locs, hlocs⟩ : ∃ q : List Loc, q = [] := ⟨_, rfl⟩
  rw [← hlocs] at hS
  rw [← hlocs]
  unfold fX12_lateness at h
  refine lv_aload_n hx hb dX12_lateness_0 rfl (lv_at hl 0 rfl) ?_
  obtain ⟨z_, g2, L3, hf4, h⟩ := cb_some h
  refine x_callVv (rest := []) li_X12_386 C (rX12_works0 l G H.size a fu g L z_ (g2, L3) hf4) (kR rfl) hP hD hS 0 12 rfl (zat (by decide) ms_0) rfl hl.1 rfl (Nat.le_of_ble_eq_true rfl) dX12_lateness_1 (fun u_ H locs e_ hP hD hS => ?_)
  have hP : va_P G.1 vwCl (zw G MS 51 a g2 L3) H := hP
  have hD : va_D A (zw G MS 51 a g2 L3) := hD
  refine lv_iconst (v := 0) hx hb dX12_lateness_4 (by decide) ?_
  refine lv_istore_n (lv' := [(2, .int 0), (0, .ref (a 0)), (1, .int p1)]) hx hb dX12_lateness_5 rfl hl (by decide) rfl (fun ls hl => ?_)
  refine lv_iconst (v := 0) hx hb dX12_lateness_6 (by decide) ?_
  refine lv_istore_n (lv' := [(3, .int 0), (2, .int 0), (0, .ref (a 0)), (1, .int p1)]) hx hb dX12_lateness_7 rfl hl (by decide) rfl (fun ls hl => ?_)
  have lp8 : ∀ (v1 : Int32), ∀ (n : Nat) (v : Int32 × Int32 × (Nat → Nat → Int32) × (Nat → Nat → Int64)), whileK (fun k v => fX12_lateness_s8 fu v1 k v.1 v.2.1 v.2.2.1 v.2.2.2) n v = some (res, s9) → ∀ (H : Heap) (locs : List Loc) (ls : Array Slot), va_P G.1 vwCl (zw G MS 51 a (v.2.2.1) (v.2.2.2)) H → va_D A (zw G MS 51 a (v.2.2.1) (v.2.2.2)) → va_S A s.heap H locs → lv_has ls 4 [(0, .ref (a 0)), (1, .int v1), (2, .int (v.1)), (3, .int (v.2.1))] → W p l e { frames := 11, cells := 0, slots := 0, locals := 228 } s m [.ref (a 0), .int p1].toArray below meth c H locs 0 0 (MQ below ((kQi G (S := Unit) (fun r' _ => r' = res) (fun _ => zw G MS 51 a s9.1 s9.2)) A) [.ref (a 0), .int p1].toArray s 0 0 A) (F0 m 8 ls []) := by
    intro v1
    refine while_ind (fun k8 ih8 v h => ?_)
    obtain ⟨v2, v3, g, L⟩ := v
    intro H locs ls hP hD hS hl
    have h : fX12_lateness_s8 fu v1 k8 v2 v3 g L = some (res, s9) := h
    have hP : va_P G.1 vwCl (zw G MS 51 a g L) H := hP
    have hD : va_D A (zw G MS 51 a g L) := hD
    have hl : lv_has ls 4 [(0, .ref (a 0)), (1, .int v1), (2, .int v2), (3, .int v3)] := hl
    show W p l e { frames := 11, cells := 0, slots := 0, locals := 228 } s m [.ref (a 0), .int p1].toArray below meth c H locs 0 0 (MQ below ((kQi G (S := Unit) (fun r' _ => r' = res) (fun _ => zw G MS 51 a s9.1 s9.2)) A) [.ref (a 0), .int p1].toArray s 0 0 A) (F0 m 8 ls [])
    unfold fX12_lateness_s8 at h
    refine lv_iload_n hx hb dX12_lateness_8 rfl (lv_at hl 3 rfl) ?_
    refine lv_aload_n hx hb dX12_lateness_9 rfl (lv_at hl 0 rfl) ?_
    refine x_getv (v := .int (g 0 1)) (Or.inl fl_X12_335) C hP (by decide) ms_0 rfl dX12_lateness_10 ?_
    refine lv_icmp_ge (x := v3) (y := (g 0 1)) (tgt := 90) hx hb dX12_lateness_13 (by decide) (fun c5 => ?_) (fun c5 => ?_)
    ·
      have h := ite_t c5 h
      refine lv_iload_n hx hb dX12_lateness_90 rfl (lv_at hl 2 rfl) ?_
      exact y_iret C hr hlk hP hD hS h (Nat.le_of_ble_eq_true rfl) (Nat.le_of_ble_eq_true rfl) dX12_lateness_91
    ·
      have h := ite_e c5 h
      refine lv_iload_n hx hb dX12_lateness_16 rfl (lv_at hl 1 rfl) ?_
      refine lv_bipush (v := 13) hx hb dX12_lateness_17 (by decide) ?_
      have J84 : ∀ (v2 : Int32) (v3 : Int32) (g : Nat → Nat → Int32) (L : Nat → Nat → Int64) (H : Heap) (locs : List Loc) (ls : Array Slot), fX12_lateness_p84 fu k8 v1 v2 v3 g L = some (res, s9) → va_P G.1 vwCl (zw G MS 51 a g L) H → va_D A (zw G MS 51 a g L) → va_S A s.heap H locs → lv_has ls 4 [(0, .ref (a 0)), (1, .int v1), (2, .int v2), (3, .int v3)] → W p l e { frames := 11, cells := 0, slots := 0, locals := 228 } s m [.ref (a 0), .int p1].toArray below meth c H locs 0 0 (MQ below ((kQi G (S := Unit) (fun r' _ => r' = res) (fun _ => zw G MS 51 a s9.1 s9.2)) A) [.ref (a 0), .int p1].toArray s 0 0 A) (F0 m 84 ls []) := by
        intro v2 v3 g L H locs ls h hP hD hS hl
        unfold fX12_lateness_p84 at h
        refine lv_iinc (v := (v3 + 1)) (lv' := [(3, .int (v3 + 1)), (0, .ref (a 0)), (1, .int v1), (2, .int v2)]) hx hb dX12_lateness_84 hl (k := 3) rfl rfl (by decide) rfl (fun ls hl => ?_)
        refine lv_goto (tgt := 8) hx hb dX12_lateness_87 (by decide) ?_
        exact ih8 (v2, (v3 + 1), g, L) h H locs ls hP hD hS (lv_sub hl [1, 2, 3, 0] rfl)
      refine lv_icmp_ne (x := v1) (y := 13) (tgt := 44) hx hb dX12_lateness_19 (by decide) (fun c6 => ?_) (fun c6 => ?_)
      ·
        have h := ite_e c6 h
        refine lv_iload_n hx hb dX12_lateness_44 rfl (lv_at hl 2 rfl) ?_
        refine lv_iload_n hx hb dX12_lateness_45 rfl (lv_at hl 1 rfl) ?_
        refine lv_bipush (v := 12) hx hb dX12_lateness_46 (by decide) ?_
        have J82 : ∀ (v3 : Int32) (t0 : Int32) (t1 : Int32) (g : Nat → Nat → Int32) (L : Nat → Nat → Int64) (H : Heap) (locs : List Loc) (ls : Array Slot), fX12_lateness_p82 fu k8 v1 v3 t0 t1 g L = some (res, s9) → va_P G.1 vwCl (zw G MS 51 a g L) H → va_D A (zw G MS 51 a g L) → va_S A s.heap H locs → lv_has ls 4 [(0, .ref (a 0)), (1, .int v1), (3, .int v3)] → W p l e { frames := 11, cells := 0, slots := 0, locals := 228 } s m [.ref (a 0), .int p1].toArray below meth c H locs 0 0 (MQ below ((kQi G (S := Unit) (fun r' _ => r' = res) (fun _ => zw G MS 51 a s9.1 s9.2)) A) [.ref (a 0), .int p1].toArray s 0 0 A) (F0 m 82 ls [.int t0, .int t1]) := by
          intro v3 t0 t1 g L H locs ls h hP hD hS hl
          unfold fX12_lateness_p82 at h
          refine lv_iadd hx hb dX12_lateness_82 ?_
          refine y_let h (fun x7 h => ?_)
          refine lv_istore_n (lv' := [(2, .int x7), (0, .ref (a 0)), (1, .int v1), (3, .int v3)]) hx hb dX12_lateness_83 rfl hl (by decide) rfl (fun ls hl => ?_)
          exact J84 x7 v3 g L H locs ls h hP hD hS (lv_sub hl [1, 2, 0, 3] rfl)
        have J77 : ∀ (v3 : Int32) (t0 : Int32) (g : Nat → Nat → Int32) (L : Nat → Nat → Int64) (H : Heap) (locs : List Loc) (ls : Array Slot), fX12_lateness_p77 fu k8 v1 v3 t0 g L = some (res, s9) → va_P G.1 vwCl (zw G MS 51 a g L) H → va_D A (zw G MS 51 a g L) → va_S A s.heap H locs → lv_has ls 4 [(0, .ref (a 0)), (1, .int v1), (3, .int v3)] → W p l e { frames := 11, cells := 0, slots := 0, locals := 228 } s m [.ref (a 0), .int p1].toArray below meth c H locs 0 0 (MQ below ((kQi G (S := Unit) (fun r' _ => r' = res) (fun _ => zw G MS 51 a s9.1 s9.2)) A) [.ref (a 0), .int p1].toArray s 0 0 A) (F0 m 77 ls [.int t0]) := by
          intro v3 t0 g L H locs ls h hP hD hS hl
          unfold fX12_lateness_p77 at h
          refine lv_iconst (v := 1) hx hb dX12_lateness_77 (by decide) ?_
          refine lv_goto (tgt := 82) hx hb dX12_lateness_78 (by decide) ?_
          exact J82 v3 1 t0 g L H locs ls h hP hD hS (lv_sub hl [0, 1, 2] rfl)
        have J81 : ∀ (v3 : Int32) (t0 : Int32) (g : Nat → Nat → Int32) (L : Nat → Nat → Int64) (H : Heap) (locs : List Loc) (ls : Array Slot), fX12_lateness_p81 fu k8 v1 v3 t0 g L = some (res, s9) → va_P G.1 vwCl (zw G MS 51 a g L) H → va_D A (zw G MS 51 a g L) → va_S A s.heap H locs → lv_has ls 4 [(0, .ref (a 0)), (1, .int v1), (3, .int v3)] → W p l e { frames := 11, cells := 0, slots := 0, locals := 228 } s m [.ref (a 0), .int p1].toArray below meth c H locs 0 0 (MQ below ((kQi G (S := Unit) (fun r' _ => r' = res) (fun _ => zw G MS 51 a s9.1 s9.2)) A) [.ref (a 0), .int p1].toArray s 0 0 A) (F0 m 81 ls [.int t0]) := by
          intro v3 t0 g L H locs ls h hP hD hS hl
          unfold fX12_lateness_p81 at h
          refine lv_iconst (v := 0) hx hb dX12_lateness_81 (by decide) ?_
          exact J82 v3 0 t0 g L H locs ls h hP hD hS (lv_sub hl [0, 1, 2] rfl)
        refine lv_icmp_ne (x := v1) (y := 12) (tgt := 62) hx hb dX12_lateness_48 (by decide) (fun c8 => ?_) (fun c8 => ?_)
        ·
          have h := ite_e c8 h
          refine lv_aload_n hx hb dX12_lateness_62 rfl (lv_at hl 0 rfl) ?_
          refine x_getr (Or.inl fl_X12_114) C hP (by decide) ms_0 rfl dX12_lateness_63 ?_
          refine lv_iload_n hx hb dX12_lateness_66 rfl (lv_at hl 3 rfl) ?_
          refine y_ald C hP (by decide) ms_31 dX12_lateness_67 h (fun h => ?_)
          refine lv_aload_n hx hb dX12_lateness_68 rfl (lv_at hl 0 rfl) ?_
          refine x_getr (Or.inl fl_X12_16) C hP (by decide) ms_0 rfl dX12_lateness_69 ?_
          refine lv_iload_n hx hb dX12_lateness_72 rfl (lv_at hl 3 rfl) ?_
          refine y_ald C hP (by decide) ms_1 dX12_lateness_73 h (fun h => ?_)
          refine lv_icmp_le (x := (g 31 (Int32.toNatClampNeg v3))) (y := (g 1 (Int32.toNatClampNeg v3))) (tgt := 81) hx hb dX12_lateness_74 (by decide) (fun c9 => ?_) (fun c9 => ?_)
          ·
            have h := ite_t c9 h
            exact J81 v3 v2 g L H locs ls h hP hD hS (lv_sub hl [0, 1, 3] rfl)
          ·
            have h := ite_e c9 h
            exact J77 v3 v2 g L H locs ls h hP hD hS (lv_sub hl [0, 1, 3] rfl)
        ·
          have h := ite_t c8 h
          refine lv_aload_n hx hb dX12_lateness_51 rfl (lv_at hl 0 rfl) ?_
          refine lv_iload_n hx hb dX12_lateness_52 rfl (lv_at hl 3 rfl) ?_
          obtain ⟨z_, g11, L12, hf13, h⟩ := cb_some h
          refine x_callVi (rest := [.int v2]) li_X12_389 C (rX12_late l G H.size a fu g L v3 z_ (g11, L12) hf13) (kR rfl) hP hD hS 0 12 rfl (zat (by decide) ms_0) rfl hl.1 rfl (Nat.le_of_ble_eq_true rfl) dX12_lateness_53 (fun x10 u_ H locs e_ hP hD hS => ?_)
          have e_ : x10 = z_ := e_
          subst e_
          have hP : va_P G.1 vwCl (zw G MS 51 a g11 L12) H := hP
          have hD : va_D A (zw G MS 51 a g11 L12) := hD
          refine lv_if_le (x := x10) (tgt := 81) hx hb dX12_lateness_56 (by decide) (fun c14 => ?_) (fun c14 => ?_)
          ·
            have h := ite_t c14 h
            exact J81 v3 v2 g11 L12 H locs ls h hP hD hS (lv_sub hl [0, 1, 3] rfl)
          ·
            have h := ite_e c14 h
            refine lv_goto (tgt := 77) hx hb dX12_lateness_59 (by decide) ?_
            exact J77 v3 v2 g11 L12 H locs ls h hP hD hS (lv_sub hl [0, 1, 3] rfl)
      ·
        have h := ite_t c6 h
        refine lv_aload_n hx hb dX12_lateness_22 rfl (lv_at hl 0 rfl) ?_
        refine lv_iload_n hx hb dX12_lateness_23 rfl (lv_at hl 3 rfl) ?_
        obtain ⟨z_, g16, L17, hf18, h⟩ := cb_some h
        refine x_callVi (rest := []) li_X12_389 C (rX12_late l G H.size a fu g L v3 z_ (g16, L17) hf18) (kR rfl) hP hD hS 0 12 rfl (zat (by decide) ms_0) rfl hl.1 rfl (Nat.le_of_ble_eq_true rfl) dX12_lateness_24 (fun x15 u_ H locs e_ hP hD hS => ?_)
        have e_ : x15 = z_ := e_
        subst e_
        have hP : va_P G.1 vwCl (zw G MS 51 a g16 L17) H := hP
        have hD : va_D A (zw G MS 51 a g16 L17) := hD
        refine lv_iload_n hx hb dX12_lateness_27 rfl (lv_at hl 2 rfl) ?_
        have J40 : ∀ (v3 : Int32) (t0 : Int32) (g : Nat → Nat → Int32) (L : Nat → Nat → Int64) (H : Heap) (locs : List Loc) (ls : Array Slot), fX12_lateness_p40 fu k8 v1 v3 t0 g L = some (res, s9) → va_P G.1 vwCl (zw G MS 51 a g L) H → va_D A (zw G MS 51 a g L) → va_S A s.heap H locs → lv_has ls 4 [(0, .ref (a 0)), (1, .int v1), (3, .int v3)] → W p l e { frames := 11, cells := 0, slots := 0, locals := 228 } s m [.ref (a 0), .int p1].toArray below meth c H locs 0 0 (MQ below ((kQi G (S := Unit) (fun r' _ => r' = res) (fun _ => zw G MS 51 a s9.1 s9.2)) A) [.ref (a 0), .int p1].toArray s 0 0 A) (F0 m 40 ls [.int t0]) := by
          intro v3 t0 g L H locs ls h hP hD hS hl
          unfold fX12_lateness_p40 at h
          refine lv_istore_n (lv' := [(2, .int t0), (0, .ref (a 0)), (1, .int v1), (3, .int v3)]) hx hb dX12_lateness_40 rfl hl (by decide) rfl (fun ls hl => ?_)
          refine lv_goto (tgt := 84) hx hb dX12_lateness_41 (by decide) ?_
          exact J84 t0 v3 g L H locs ls h hP hD hS (lv_sub hl [1, 2, 0, 3] rfl)
        refine lv_icmp_le (x := x15) (y := v2) (tgt := 39) hx hb dX12_lateness_28 (by decide) (fun c19 => ?_) (fun c19 => ?_)
        ·
          have h := ite_t c19 h
          refine lv_iload_n hx hb dX12_lateness_39 rfl (lv_at hl 2 rfl) ?_
          exact J40 v3 v2 g16 L17 H locs ls h hP hD hS (lv_sub hl [0, 1, 3] rfl)
        ·
          have h := ite_e c19 h
          refine lv_aload_n hx hb dX12_lateness_31 rfl (lv_at hl 0 rfl) ?_
          refine lv_iload_n hx hb dX12_lateness_32 rfl (lv_at hl 3 rfl) ?_
          obtain ⟨z_, g21, L22, hf23, h⟩ := cb_some h
          refine x_callVi (rest := []) li_X12_389 C (rX12_late l G H.size a fu g16 L17 v3 z_ (g21, L22) hf23) (kR rfl) hP hD hS 0 12 rfl (zat (by decide) ms_0) rfl hl.1 rfl (Nat.le_of_ble_eq_true rfl) dX12_lateness_33 (fun x20 u_ H locs e_ hP hD hS => ?_)
          have e_ : x20 = z_ := e_
          subst e_
          have hP : va_P G.1 vwCl (zw G MS 51 a g21 L22) H := hP
          have hD : va_D A (zw G MS 51 a g21 L22) := hD
          refine lv_goto (tgt := 40) hx hb dX12_lateness_36 (by decide) ?_
          exact J40 v3 x20 g21 L22 H locs ls h hP hD hS (lv_sub hl [0, 1, 3] rfl)
  exact lp8 p1 fu (0, 0, g2, L3) h H locs ls hP hD hS (lv_sub hl [2, 3, 1, 0] rfl)
def fX12_within_p15 (fu : Nat) (t0 : Int32) (g : Nat → Nat → Int32) (L : Nat → Nat → Int64) : Option ((Int32) × zS) :=
  ckb t0 (some (t0, (g, L)))
def fX12_within_p14 (fu : Nat) (g : Nat → Nat → Int32) (L : Nat → Nat → Int64) : Option ((Int32) × zS) :=
  fX12_within_p15 fu 0 g L
def fX12_within (fu : Nat) (p1 : Int32) (p2 : Int32) (p3 : Int32) (g : Nat → Nat → Int32) (L : Nat → Nat → Int64) : Option ((Int32) × zS) :=
  if (p1 : Int32) < p2 then fX12_within_p14 fu g L
  else if p3 < (p1 : Int32) then fX12_within_p14 fu g L
  else fX12_within_p15 fu 1 g L
set_option maxHeartbeats 4000000 in
set_option maxRecDepth 100000 in
theorem rX12_within (l : Launch) (G : kG) (sz : Nat) (a : Nat → Nat) (fu : Nat) (g : Nat → Nat → Int32) (L : Nat → Nat → Int64) (p1 : Int32) (p2 : Int32) (p3 : Int32) (res : Int32) (s9 : zS) (h : fX12_within fu p1 p2 p3 g L = some (res, s9)) : kM l yX12_within cX12_within 3 (some .boolean) { frames := 6, cells := 0, slots := 0, locals := 110 } G [.int p1, .int p2, .int p3] (zw G MS 51 a g L) sz (kQi G (S := Unit) (fun r' _ => r' = res) (fun _ => zw G MS 51 a s9.1 s9.2)) := by
  refine kM.of (by decide) (Nat.le_of_ble_eq_true rfl) ?_
  intro p e s m below meth c A ls H C hr hlk hnm hP hD hS hl
  have C : kC G p s m c cX12_within 3 RX12 A := C
  have hx := C.1
  have hb := C.2.1
  have hl : lv_has ls 3 [(0, .int p1), (1, .int p2), (2, .int p3)] := hl
  obtain ⟨locs, hlocs⟩ : ∃ q : List Loc, q = [] := ⟨_, rfl⟩
  rw [← hlocs] at hS
  rw [← hlocs]
  unfold fX12_within at h
  refine lv_iload_n hx hb dX12_within_0 rfl (lv_at hl 0 rfl) ?_
  refine lv_iload_n hx hb dX12_within_1 rfl (lv_at hl 1 rfl) ?_
  have J15 : ∀ (t0 : Int32) (g : Nat → Nat → Int32) (L : Nat → Nat → Int64) (H : Heap) (locs : List Loc) (ls : Array Slot), fX12_within_p15 fu t0 g L = some (res, s9) → va_P G.1 vwCl (zw G MS 51 a g L) H → va_D A (zw G MS 51 a g L) → va_S A s.heap H locs → lv_has ls 3 [] → W p l e { frames := 6, cells := 0, slots := 0, locals := 110 } s m [.int p1, .int p2, .int p3].toArray below meth c H locs 0 0 (MQ below ((kQi G (S := Unit) (fun r' _ => r' = res) (fun _ => zw G MS 51 a s9.1 s9.2)) A) [.int p1, .int p2, .int p3].toArray s 0 0 A) (F0 m 15 ls [.int t0]) := by
    intro t0 g L H locs ls h hP hD hS hl
    unfold fX12_within_p15 at h
    exact y_zret C hr hlk hP hD hS h (Nat.le_of_ble_eq_true rfl) (Nat.le_of_ble_eq_true rfl) dX12_within_15
  have J14 : ∀ (g : Nat → Nat → Int32) (L : Nat → Nat → Int64) (H : Heap) (locs : List Loc) (ls : Array Slot), fX12_within_p14 fu g L = some (res, s9) → va_P G.1 vwCl (zw G MS 51 a g L) H → va_D A (zw G MS 51 a g L) → va_S A s.heap H locs → lv_has ls 3 [] → W p l e { frames := 6, cells := 0, slots := 0, locals := 110 } s m [.int p1, .int p2, .int p3].toArray below meth c H locs 0 0 (MQ below ((kQi G (S := Unit) (fun r' _ => r' = res) (fun _ => zw G MS 51 a s9.1 s9.2)) A) [.int p1, .int p2, .int p3].toArray s 0 0 A) (F0 m 14 ls []) := by
    intro g L H locs ls h hP hD hS hl
    unfold fX12_within_p14 at h
    refine lv_iconst (v := 0) hx hb dX12_within_14 (by decide) ?_
    exact J15 0 g L H locs ls h hP hD hS (lv_sub hl [] rfl)
  refine lv_icmp_lt (x := p1) (y := p2) (tgt := 14) hx hb dX12_within_2 (by decide) (fun c1 => ?_) (fun c1 => ?_)
  ·
    have h := ite_t c1 h
    exact J14 g L H locs ls h hP hD hS (lv_sub hl [] rfl)
  ·
    have h := ite_e c1 h
    refine lv_iload_n hx hb dX12_within_5 rfl (lv_at hl 0 rfl) ?_
    refine lv_iload_n hx hb dX12_within_6 rfl (lv_at hl 2 rfl) ?_
    refine lv_icmp_gt (x := p1) (y := p3) (tgt := 14) hx hb dX12_within_7 (by decide) (fun c2 => ?_) (fun c2 => ?_)
    ·
      have h := ite_t c2 h
      exact J14 g L H locs ls h hP hD hS (lv_sub hl [] rfl)
    ·
      have h := ite_e c2 h
      refine lv_iconst (v := 1) hx hb dX12_within_10 (by decide) ?_
      refine lv_goto (tgt := 15) hx hb dX12_within_11 (by decide) ?_
      exact J15 1 g L H locs ls h hP hD hS (lv_sub hl [] rfl)
def fX12_count (fu : Nat) (p1 : Int32) (g : Nat → Nat → Int32) (L : Nat → Nat → Int64) : Option ((Int32) × zS) :=
  sti g 0 0 0 (fun g1 =>
  cb (fX12_within fu p1 0 14 g1 L) (fun x2 g3 L4 =>
  cb (fX12_right fu x2 1 g3 L4) (fun x6 g7 L8 =>
  if x6 = 0 then some (0, (g7, L8))
  else if (p1 : Int32) ≤ 11 then (if (Int32.toInt p1) = 0 then (some ((g7 0 1), (g7, L8))) else
  if (Int32.toInt p1) = 1 then (some ((g7 0 2), (g7, L8))) else
  if (Int32.toInt p1) = 2 then (some ((g7 0 52), (g7, L8))) else
  if (Int32.toInt p1) = 3 then (some ((g7 0 3), (g7, L8))) else
  if (Int32.toInt p1) = 4 then (some ((g7 0 4), (g7, L8))) else
  if (Int32.toInt p1) = 5 then (some ((g7 0 62), (g7, L8))) else
  if (Int32.toInt p1) = 6 then (some ((g7 0 73), (g7, L8))) else
  if (Int32.toInt p1) = 7 then (cb (fX12_lost fu g7 L8) (fun x20 g21 L22 =>
  some (x20, (g21, L22)))) else
  if (Int32.toInt p1) = 8 then (some ((g7 0 18), (g7, L8))) else
  ck (p1 - 9) 3 (
  some ((g7 14 (Int32.toNatClampNeg (p1 - 9))), (g7, L8))))
  else cb (fX12_lateness fu p1 g7 L8) (fun x25 g26 L27 =>
  some (x25, (g26, L27))))))
set_option maxHeartbeats 4000000 in
set_option maxRecDepth 100000 in
theorem rX12_count (l : Launch) (G : kG) (sz : Nat) (a : Nat → Nat) (fu : Nat) (g : Nat → Nat → Int32) (L : Nat → Nat → Int64) (p1 : Int32) (res : Int32) (s9 : zS) (h : fX12_count fu p1 g L = some (res, s9)) : kM l yX12_count cX12_count 2 (some .int) { frames := 12, cells := 0, slots := 0, locals := 251 } G [.ref (a 0), .int p1] (zw G MS 51 a g L) sz (kQi G (S := Unit) (fun r' _ => r' = res) (fun _ => zw G MS 51 a s9.1 s9.2)) := by
  refine kM.of (by decide) (Nat.le_of_ble_eq_true rfl) ?_
  intro p e s m below meth c A ls H C hr hlk hnm hP hD hS hl
  have C : kC G p s m c cX12_count 2 RX12 A := C
  have hx := C.1
  have hb := C.2.1
  have hl : lv_has ls 2 [(0, .ref (a 0)), (1, .int p1)] := hl
  obtain ⟨locs, hlocs⟩ : ∃ q : List Loc, q = [] := ⟨_, rfl⟩
  rw [← hlocs] at hS
  rw [← hlocs]
  unfold fX12_count at h
  refine lv_aload_n hx hb dX12_count_0 rfl (lv_at hl 0 rfl) ?_
  refine lv_iconst (v := 0) hx hb dX12_count_1 (by decide) ?_
  refine y_puti (Or.inl fl_X12_177) ft_X12_0 C hP hD hS (by decide) ms_0 rfl rfl rfl dX12_count_2 h (fun g1 H locs h hP hD hS => ?_)
  refine lv_aload_n hx hb dX12_count_5 rfl (lv_at hl 0 rfl) ?_
  refine lv_iload_n hx hb dX12_count_6 rfl (lv_at hl 1 rfl) ?_
  refine lv_iconst (v := 0) hx hb dX12_count_7 (by decide) ?_
  refine lv_bipush (v := 14) hx hb dX12_count_8 (by decide) ?_
  obtain ⟨z_, g3, L4, hf5, h⟩ := cb_some h
  refine x_callSi (rest := [.ref (a 0)]) li_X12_392 C (rX12_within l G H.size a fu g1 L p1 0 14 z_ (g3, L4) hf5) (kR rfl) hP hD hS rfl hl.1 rfl (Nat.le_of_ble_eq_true rfl) dX12_count_10 (fun x2 u_ H locs e_ hP hD hS => ?_)
  have e_ : x2 = z_ := e_
  subst e_
  have hP : va_P G.1 vwCl (zw G MS 51 a g3 L4) H := hP
  have hD : va_D A (zw G MS 51 a g3 L4) := hD
  refine lv_iconst (v := 1) hx hb dX12_count_13 (by decide) ?_
  obtain ⟨z_, g7, L8, hf9, h⟩ := cb_some h
  refine x_callVi (rest := []) li_X12_328 C (rX12_right l G H.size a fu g3 L4 x2 1 z_ (g7, L8) hf9) (kR rfl) hP hD hS 0 12 rfl (zat (by decide) ms_0) rfl hl.1 rfl (Nat.le_of_ble_eq_true rfl) dX12_count_14 (fun x6 u_ H locs e_ hP hD hS => ?_)
  have e_ : x6 = z_ := e_
  subst e_
  have hP : va_P G.1 vwCl (zw G MS 51 a g7 L8) H := hP
  have hD : va_D A (zw G MS 51 a g7 L8) := hD
  refine lv_if_ne (x := x6) (tgt := 22) hx hb dX12_count_17 (by decide) (fun c10 => ?_) (fun c10 => ?_)
  ·
    have h := ite_e c10 h
    refine lv_iload_n hx hb dX12_count_22 rfl (lv_at hl 1 rfl) ?_
    refine lv_bipush (v := 11) hx hb dX12_count_23 (by decide) ?_
    refine lv_icmp_le (x := p1) (y := 11) (tgt := 34) hx hb dX12_count_25 (by decide) (fun c11 => ?_) (fun c11 => ?_)
    ·
      have h := ite_t c11 h
      refine lv_iload_n hx hb dX12_count_34 rfl (lv_at hl 1 rfl) ?_
      by_cases c12 : (Int32.toInt p1) = 0
      ·
        have h := ite_t c12 h
        refine lv_tableIn (off := 49) (tgt := 84) hx hb dX12_count_35 (by omega) (by omega) (by rw [c12]; rfl) (by decide) ?_
        refine lv_aload_n hx hb dX12_count_84 rfl (lv_at hl 0 rfl) ?_
        refine x_getv (v := .int (g7 0 1)) (Or.inl fl_X12_335) C hP (by decide) ms_0 rfl dX12_count_85 ?_
        exact y_iret C hr hlk hP hD hS h (Nat.le_of_ble_eq_true rfl) (Nat.le_of_ble_eq_true rfl) dX12_count_88
      have h := ite_e c12 h
      by_cases c13 : (Int32.toInt p1) = 1
      ·
        have h := ite_t c13 h
        refine lv_tableIn (off := 54) (tgt := 89) hx hb dX12_count_35 (by omega) (by omega) (by rw [c13]; rfl) (by decide) ?_
        refine lv_aload_n hx hb dX12_count_89 rfl (lv_at hl 0 rfl) ?_
        refine x_getv (v := .int (g7 0 2)) (Or.inl fl_X12_338) C hP (by decide) ms_0 rfl dX12_count_90 ?_
        exact y_iret C hr hlk hP hD hS h (Nat.le_of_ble_eq_true rfl) (Nat.le_of_ble_eq_true rfl) dX12_count_93
      have h := ite_e c13 h
      by_cases c14 : (Int32.toInt p1) = 2
      ·
        have h := ite_t c14 h
        refine lv_tableIn (off := 59) (tgt := 94) hx hb dX12_count_35 (by omega) (by omega) (by rw [c14]; rfl) (by decide) ?_
        refine lv_aload_n hx hb dX12_count_94 rfl (lv_at hl 0 rfl) ?_
        refine x_getv (v := .int (g7 0 52)) (Or.inl fl_X12_105) C hP (by decide) ms_0 rfl dX12_count_95 ?_
        exact y_iret C hr hlk hP hD hS h (Nat.le_of_ble_eq_true rfl) (Nat.le_of_ble_eq_true rfl) dX12_count_98
      have h := ite_e c14 h
      by_cases c15 : (Int32.toInt p1) = 3
      ·
        have h := ite_t c15 h
        refine lv_tableIn (off := 64) (tgt := 99) hx hb dX12_count_35 (by omega) (by omega) (by rw [c15]; rfl) (by decide) ?_
        refine lv_aload_n hx hb dX12_count_99 rfl (lv_at hl 0 rfl) ?_
        refine x_getv (v := .int (g7 0 3)) (Or.inl fl_X12_7) C hP (by decide) ms_0 rfl dX12_count_100 ?_
        exact y_iret C hr hlk hP hD hS h (Nat.le_of_ble_eq_true rfl) (Nat.le_of_ble_eq_true rfl) dX12_count_103
      have h := ite_e c15 h
      by_cases c16 : (Int32.toInt p1) = 4
      ·
        have h := ite_t c16 h
        refine lv_tableIn (off := 69) (tgt := 104) hx hb dX12_count_35 (by omega) (by omega) (by rw [c16]; rfl) (by decide) ?_
        refine lv_aload_n hx hb dX12_count_104 rfl (lv_at hl 0 rfl) ?_
        refine x_getv (v := .int (g7 0 4)) (Or.inl fl_X12_13) C hP (by decide) ms_0 rfl dX12_count_105 ?_
        exact y_iret C hr hlk hP hD hS h (Nat.le_of_ble_eq_true rfl) (Nat.le_of_ble_eq_true rfl) dX12_count_108
      have h := ite_e c16 h
      by_cases c17 : (Int32.toInt p1) = 5
      ·
        have h := ite_t c17 h
        refine lv_tableIn (off := 74) (tgt := 109) hx hb dX12_count_35 (by omega) (by omega) (by rw [c17]; rfl) (by decide) ?_
        refine lv_aload_n hx hb dX12_count_109 rfl (lv_at hl 0 rfl) ?_
        refine x_getv (v := .int (g7 0 62)) (Or.inl fl_X12_345) C hP (by decide) ms_0 rfl dX12_count_110 ?_
        exact y_iret C hr hlk hP hD hS h (Nat.le_of_ble_eq_true rfl) (Nat.le_of_ble_eq_true rfl) dX12_count_113
      have h := ite_e c17 h
      by_cases c18 : (Int32.toInt p1) = 6
      ·
        have h := ite_t c18 h
        refine lv_tableIn (off := 79) (tgt := 114) hx hb dX12_count_35 (by omega) (by omega) (by rw [c18]; rfl) (by decide) ?_
        refine lv_aload_n hx hb dX12_count_114 rfl (lv_at hl 0 rfl) ?_
        refine x_getv (v := .int (g7 0 73)) (Or.inl fl_X12_348) C hP (by decide) ms_0 rfl dX12_count_115 ?_
        exact y_iret C hr hlk hP hD hS h (Nat.le_of_ble_eq_true rfl) (Nat.le_of_ble_eq_true rfl) dX12_count_118
      have h := ite_e c18 h
      by_cases c19 : (Int32.toInt p1) = 7
      ·
        have h := ite_t c19 h
        refine lv_tableIn (off := 84) (tgt := 119) hx hb dX12_count_35 (by omega) (by omega) (by rw [c19]; rfl) (by decide) ?_
        refine lv_aload_n hx hb dX12_count_119 rfl (lv_at hl 0 rfl) ?_
        obtain ⟨z_, g21, L22, hf23, h⟩ := cb_some h
        refine x_callVi (rest := []) li_X12_399 C (rX12_lost l G H.size a fu g7 L8 z_ (g21, L22) hf23) (kR rfl) hP hD hS 0 12 rfl (zat (by decide) ms_0) rfl hl.1 rfl (Nat.le_of_ble_eq_true rfl) dX12_count_120 (fun x20 u_ H locs e_ hP hD hS => ?_)
        have e_ : x20 = z_ := e_
        subst e_
        have hP : va_P G.1 vwCl (zw G MS 51 a g21 L22) H := hP
        have hD : va_D A (zw G MS 51 a g21 L22) := hD
        exact y_iret C hr hlk hP hD hS h (Nat.le_of_ble_eq_true rfl) (Nat.le_of_ble_eq_true rfl) dX12_count_123
      have h := ite_e c19 h
      by_cases c24 : (Int32.toInt p1) = 8
      ·
        have h := ite_t c24 h
        refine lv_tableIn (off := 89) (tgt := 124) hx hb dX12_count_35 (by omega) (by omega) (by rw [c24]; rfl) (by decide) ?_
        refine lv_aload_n hx hb dX12_count_124 rfl (lv_at hl 0 rfl) ?_
        refine x_getv (v := .int (g7 0 18)) (Or.inl fl_X12_180) C hP (by decide) ms_0 rfl dX12_count_125 ?_
        exact y_iret C hr hlk hP hD hS h (Nat.le_of_ble_eq_true rfl) (Nat.le_of_ble_eq_true rfl) dX12_count_128
      have h := ite_e c24 h
      refine lv_tableOut (tgt := 129) hx hb dX12_count_35 (by omega) (by decide) ?_
      refine lv_aload_n hx hb dX12_count_129 rfl (lv_at hl 0 rfl) ?_
      refine x_getr (Or.inl fl_X12_59) C hP (by decide) ms_0 rfl dX12_count_130 ?_
      refine lv_iload_n hx hb dX12_count_133 rfl (lv_at hl 1 rfl) ?_
      refine lv_bipush (v := 9) hx hb dX12_count_134 (by decide) ?_
      refine lv_isub hx hb dX12_count_136 ?_
      refine y_ald C hP (by decide) ms_14 dX12_count_137 h (fun h => ?_)
      exact y_iret C hr hlk hP hD hS h (Nat.le_of_ble_eq_true rfl) (Nat.le_of_ble_eq_true rfl) dX12_count_138
    ·
      have h := ite_e c11 h
      refine lv_aload_n hx hb dX12_count_28 rfl (lv_at hl 0 rfl) ?_
      refine lv_iload_n hx hb dX12_count_29 rfl (lv_at hl 1 rfl) ?_
      obtain ⟨z_, g26, L27, hf28, h⟩ := cb_some h
      refine x_callVi (rest := []) li_X12_396 C (rX12_lateness l G H.size a fu g7 L8 p1 z_ (g26, L27) hf28) (kR rfl) hP hD hS 0 12 rfl (zat (by decide) ms_0) rfl hl.1 rfl (Nat.le_of_ble_eq_true rfl) dX12_count_30 (fun x25 u_ H locs e_ hP hD hS => ?_)
      have e_ : x25 = z_ := e_
      subst e_
      have hP : va_P G.1 vwCl (zw G MS 51 a g26 L27) H := hP
      have hD : va_D A (zw G MS 51 a g26 L27) := hD
      exact y_iret C hr hlk hP hD hS h (Nat.le_of_ble_eq_true rfl) (Nat.le_of_ble_eq_true rfl) dX12_count_33
  ·
    have h := ite_t c10 h
    refine lv_iconst (v := 0) hx hb dX12_count_20 (by decide) ?_
    exact y_iret C hr hlk hP hD hS h (Nat.le_of_ble_eq_true rfl) (Nat.le_of_ble_eq_true rfl) dX12_count_21
def fX12_isLesson_p18 (fu : Nat) (t0 : Int32) (g : Nat → Nat → Int32) (L : Nat → Nat → Int64) : Option ((Int32) × zS) :=
  cb (fX12_right fu t0 1 g L) (fun x1 g2 L3 =>
  ckb x1 (some (x1, (g2, L3))))
def fX12_isLesson_p17 (fu : Nat) (g : Nat → Nat → Int32) (L : Nat → Nat → Int64) : Option ((Int32) × zS) :=
  fX12_isLesson_p18 fu 0 g L
def fX12_isLesson (fu : Nat) (p1 : Int32) (g : Nat → Nat → Int32) (L : Nat → Nat → Int64) : Option ((Int32) × zS) :=
  if p1 < 0 then fX12_isLesson_p17 fu g L
  else if (g 0 1) ≤ p1 then fX12_isLesson_p17 fu g L
  else fX12_isLesson_p18 fu 1 g L
set_option maxHeartbeats 4000000 in
set_option maxRecDepth 100000 in
theorem rX12_isLesson (l : Launch) (G : kG) (sz : Nat) (a : Nat → Nat) (fu : Nat) (g : Nat → Nat → Int32) (L : Nat → Nat → Int64) (p1 : Int32) (res : Int32) (s9 : zS) (h : fX12_isLesson fu p1 g L = some (res, s9)) : kM l yX12_isLesson cX12_isLesson 2 (some .boolean) { frames := 7, cells := 0, slots := 0, locals := 132 } G [.ref (a 0), .int p1] (zw G MS 51 a g L) sz (kQi G (S := Unit) (fun r' _ => r' = res) (fun _ => zw G MS 51 a s9.1 s9.2)) := by
  refine kM.of (by decide) (Nat.le_of_ble_eq_true rfl) ?_
  intro p e s m below meth c A ls H C hr hlk hnm hP hD hS hl
  have C : kC G p s m c cX12_isLesson 2 RX12 A := C
  have hx := C.1
  have hb := C.2.1
  have hl : lv_has ls 2 [(0, .ref (a 0)), (1, .int p1)] := hl
  obtain ⟨locs, hlocs⟩ : ∃ q : List Loc, q = [] := ⟨_, rfl⟩
  rw [← hlocs] at hS
  rw [← hlocs]
  unfold fX12_isLesson at h
  refine lv_aload_n hx hb dX12_isLesson_0 rfl (lv_at hl 0 rfl) ?_
  refine lv_iload_n hx hb dX12_isLesson_1 rfl (lv_at hl 1 rfl) ?_
  have J18 : ∀ (t0 : Int32) (g : Nat → Nat → Int32) (L : Nat → Nat → Int64) (H : Heap) (locs : List Loc) (ls : Array Slot), fX12_isLesson_p18 fu t0 g L = some (res, s9) → va_P G.1 vwCl (zw G MS 51 a g L) H → va_D A (zw G MS 51 a g L) → va_S A s.heap H locs → lv_has ls 2 [] → W p l e { frames := 7, cells := 0, slots := 0, locals := 132 } s m [.ref (a 0), .int p1].toArray below meth c H locs 0 0 (MQ below ((kQi G (S := Unit) (fun r' _ => r' = res) (fun _ => zw G MS 51 a s9.1 s9.2)) A) [.ref (a 0), .int p1].toArray s 0 0 A) (F0 m 18 ls [.int t0, .ref (a 0)]) := by
    intro t0 g L H locs ls h hP hD hS hl
    unfold fX12_isLesson_p18 at h
    refine lv_iconst (v := 1) hx hb dX12_isLesson_18 (by decide) ?_
    obtain ⟨z_, g2, L3, hf4, h⟩ := cb_some h
    refine x_callVi (rest := []) li_X12_328 C (rX12_right l G H.size a fu g L t0 1 z_ (g2, L3) hf4) (kR rfl) hP hD hS 0 12 rfl (zat (by decide) ms_0) rfl hl.1 rfl (Nat.le_of_ble_eq_true rfl) dX12_isLesson_19 (fun x1 u_ H locs e_ hP hD hS => ?_)
    have e_ : x1 = z_ := e_
    subst e_
    have hP : va_P G.1 vwCl (zw G MS 51 a g2 L3) H := hP
    have hD : va_D A (zw G MS 51 a g2 L3) := hD
    exact y_zret C hr hlk hP hD hS h (Nat.le_of_ble_eq_true rfl) (Nat.le_of_ble_eq_true rfl) dX12_isLesson_22
  have J17 : ∀ (g : Nat → Nat → Int32) (L : Nat → Nat → Int64) (H : Heap) (locs : List Loc) (ls : Array Slot), fX12_isLesson_p17 fu g L = some (res, s9) → va_P G.1 vwCl (zw G MS 51 a g L) H → va_D A (zw G MS 51 a g L) → va_S A s.heap H locs → lv_has ls 2 [] → W p l e { frames := 7, cells := 0, slots := 0, locals := 132 } s m [.ref (a 0), .int p1].toArray below meth c H locs 0 0 (MQ below ((kQi G (S := Unit) (fun r' _ => r' = res) (fun _ => zw G MS 51 a s9.1 s9.2)) A) [.ref (a 0), .int p1].toArray s 0 0 A) (F0 m 17 ls [.ref (a 0)]) := by
    intro g L H locs ls h hP hD hS hl
    unfold fX12_isLesson_p17 at h
    refine lv_iconst (v := 0) hx hb dX12_isLesson_17 (by decide) ?_
    exact J18 0 g L H locs ls h hP hD hS (lv_sub hl [] rfl)
  refine lv_if_lt (x := p1) (tgt := 17) hx hb dX12_isLesson_2 (by decide) (fun c5 => ?_) (fun c5 => ?_)
  ·
    have h := ite_t c5 h
    exact J17 g L H locs ls h hP hD hS (lv_sub hl [] rfl)
  ·
    have h := ite_e c5 h
    refine lv_iload_n hx hb dX12_isLesson_5 rfl (lv_at hl 1 rfl) ?_
    refine lv_aload_n hx hb dX12_isLesson_6 rfl (lv_at hl 0 rfl) ?_
    refine x_getv (v := .int (g 0 1)) (Or.inl fl_X12_335) C hP (by decide) ms_0 rfl dX12_isLesson_7 ?_
    refine lv_icmp_ge (x := p1) (y := (g 0 1)) (tgt := 17) hx hb dX12_isLesson_10 (by decide) (fun c6 => ?_) (fun c6 => ?_)
    ·
      have h := ite_t c6 h
      exact J17 g L H locs ls h hP hD hS (lv_sub hl [] rfl)
    ·
      have h := ite_e c6 h
      refine lv_iconst (v := 1) hx hb dX12_isLesson_13 (by decide) ?_
      refine lv_goto (tgt := 18) hx hb dX12_isLesson_14 (by decide) ?_
      exact J18 1 g L H locs ls h hP hD hS (lv_sub hl [] rfl)
def fX12_isWhat (fu : Nat) (p1 : Int32) (p2 : Int32) (g : Nat → Nat → Int32) (L : Nat → Nat → Int64) : Option ((Int32) × zS) :=
  cb (fX12_within fu p1 0 p2 g L) (fun x1 g2 L3 =>
  cb (fX12_right fu x1 1 g2 L3) (fun x5 g6 L7 =>
  ckb x5 (some (x5, (g6, L7)))))
set_option maxHeartbeats 4000000 in
set_option maxRecDepth 100000 in
theorem rX12_isWhat (l : Launch) (G : kG) (sz : Nat) (a : Nat → Nat) (fu : Nat) (g : Nat → Nat → Int32) (L : Nat → Nat → Int64) (p1 : Int32) (p2 : Int32) (res : Int32) (s9 : zS) (h : fX12_isWhat fu p1 p2 g L = some (res, s9)) : kM l yX12_isWhat cX12_isWhat 3 (some .boolean) { frames := 7, cells := 0, slots := 0, locals := 132 } G [.ref (a 0), .int p1, .int p2] (zw G MS 51 a g L) sz (kQi G (S := Unit) (fun r' _ => r' = res) (fun _ => zw G MS 51 a s9.1 s9.2)) := by
  refine kM.of (by decide) (Nat.le_of_ble_eq_true rfl) ?_
  intro p e s m below meth c A ls H C hr hlk hnm hP hD hS hl
  have C : kC G p s m c cX12_isWhat 3 RX12 A := C
  have hx := C.1
  have hb := C.2.1
  have hl : lv_has ls 3 [(0, .ref (a 0)), (1, .int p1), (2, .int p2)] := hl
  obtain ⟨locs, hlocs⟩ : ∃ q : List Loc, q = [] := ⟨_, rfl⟩
  rw [← hlocs] at hS
  rw [← hlocs]
  unfold fX12_isWhat at h
  refine lv_aload_n hx hb dX12_isWhat_0 rfl (lv_at hl 0 rfl) ?_
  refine lv_iload_n hx hb dX12_isWhat_1 rfl (lv_at hl 1 rfl) ?_
  refine lv_iconst (v := 0) hx hb dX12_isWhat_2 (by decide) ?_
  refine lv_iload_n hx hb dX12_isWhat_3 rfl (lv_at hl 2 rfl) ?_
  obtain ⟨z_, g2, L3, hf4, h⟩ := cb_some h
  refine x_callSi (rest := [.ref (a 0)]) li_X12_392 C (rX12_within l G H.size a fu g L p1 0 p2 z_ (g2, L3) hf4) (kR rfl) hP hD hS rfl hl.1 rfl (Nat.le_of_ble_eq_true rfl) dX12_isWhat_4 (fun x1 u_ H locs e_ hP hD hS => ?_)
  have e_ : x1 = z_ := e_
  subst e_
  have hP : va_P G.1 vwCl (zw G MS 51 a g2 L3) H := hP
  have hD : va_D A (zw G MS 51 a g2 L3) := hD
  refine lv_iconst (v := 1) hx hb dX12_isWhat_7 (by decide) ?_
  obtain ⟨z_, g6, L7, hf8, h⟩ := cb_some h
  refine x_callVi (rest := []) li_X12_328 C (rX12_right l G H.size a fu g2 L3 x1 1 z_ (g6, L7) hf8) (kR rfl) hP hD hS 0 12 rfl (zat (by decide) ms_0) rfl hl.1 rfl (Nat.le_of_ble_eq_true rfl) dX12_isWhat_8 (fun x5 u_ H locs e_ hP hD hS => ?_)
  have e_ : x5 = z_ := e_
  subst e_
  have hP : va_P G.1 vwCl (zw G MS 51 a g6 L7) H := hP
  have hD : va_D A (zw G MS 51 a g6 L7) := hD
  exact y_zret C hr hlk hP hD hS h (Nat.le_of_ble_eq_true rfl) (Nat.le_of_ble_eq_true rfl) dX12_isWhat_11
def fX12_waitsSet_s4 (fu : Nat) (v1 : Int32) (k4 : Int32 × Int32 × (Nat → Nat → Int32) × (Nat → Nat → Int64) → Option ((Int32) × zS)) (v2 : Int32) (v3 : Int32) (g : Nat → Nat → Int32) (L : Nat → Nat → Int64) : Option ((Int32) × zS) :=
  ck v1 12 (
  if (g 8 (Int32.toNatClampNeg v1)) ≤ v3 then some (v2, (g, L))
  else ck ((6 * v1) + v3) 72 (
  lti (v2 ||| ((1 : Int32) <<< (((g 9 (Int32.toNatClampNeg ((6 * v1) + v3))) : Int32) &&& 31) : Int32)) (fun x2 =>
  k4 (x2, (v3 + 1), g, L))))
def fX12_waitsSet_l4 (fu : Nat) (v1 : Int32) (v2 : Int32) (v3 : Int32) (g : Nat → Nat → Int32) (L : Nat → Nat → Int64) : Option ((Int32) × zS) :=
  whileK (fun k v => fX12_waitsSet_s4 fu v1 k v.1 v.2.1 v.2.2.1 v.2.2.2) fu (v2, v3, g, L)
def fX12_waitsSet (fu : Nat) (p1 : Int32) (g : Nat → Nat → Int32) (L : Nat → Nat → Int64) : Option ((Int32) × zS) :=
  fX12_waitsSet_l4 fu p1 0 0 g L
set_option maxHeartbeats 4000000 in
set_option maxRecDepth 100000 in
theorem rX12_waitsSet (l : Launch) (G : kG) (sz : Nat) (a : Nat → Nat) (fu : Nat) (g : Nat → Nat → Int32) (L : Nat → Nat → Int64) (p1 : Int32) (res : Int32) (s9 : zS) (h : fX12_waitsSet fu p1 g L = some (res, s9)) : kM l yX12_waitsSet cX12_waitsSet 4 (some .int) { frames := 6, cells := 0, slots := 0, locals := 110 } G [.ref (a 0), .int p1] (zw G MS 51 a g L) sz (kQi G (S := Unit) (fun r' _ => r' = res) (fun _ => zw G MS 51 a s9.1 s9.2)) := by
  refine kM.of (by decide) (Nat.le_of_ble_eq_true rfl) ?_
  intro p e s m below meth c A ls H C hr hlk hnm hP hD hS hl
  have C : kC G p s m c cX12_waitsSet 4 RX12 A := C
  have hx := C.1
  have hb := C.2.1
  have hl : lv_has ls 4 [(0, .ref (a 0)), (1, .int p1)] := hl
  obtain ⟨locs, hlocs⟩ : ∃ q : List Loc, q = [] := ⟨_, rfl⟩
  rw [← hlocs] at hS
  rw [← hlocs]
  unfold fX12_waitsSet at h
  refine lv_iconst (v := 0) hx hb dX12_waitsSet_0 (by decide) ?_
  refine lv_istore_n (lv' := [(2, .int 0), (0, .ref (a 0)), (1, .int p1)]) hx hb dX12_waitsSet_1 rfl hl (by decide) rfl (fun ls hl => ?_)
  refine lv_iconst (v := 0) hx hb dX12_waitsSet_2 (by decide) ?_
  refine lv_istore_n (lv' := [(3, .int 0), (2, .int 0), (0, .ref (a 0)), (1, .int p1)]) hx hb dX12_waitsSet_3 rfl hl (by decide) rfl (fun ls hl => ?_)
  have lp4 : ∀ (v1 : Int32), ∀ (n : Nat) (v : Int32 × Int32 × (Nat → Nat → Int32) × (Nat → Nat → Int64)), whileK (fun k v => fX12_waitsSet_s4 fu v1 k v.1 v.2.1 v.2.2.1 v.2.2.2) n v = some (res, s9) → ∀ (H : Heap) (locs : List Loc) (ls : Array Slot), va_P G.1 vwCl (zw G MS 51 a (v.2.2.1) (v.2.2.2)) H → va_D A (zw G MS 51 a (v.2.2.1) (v.2.2.2)) → va_S A s.heap H locs → lv_has ls 4 [(0, .ref (a 0)), (1, .int v1), (2, .int (v.1)), (3, .int (v.2.1))] → W p l e { frames := 6, cells := 0, slots := 0, locals := 110 } s m [.ref (a 0), .int p1].toArray below meth c H locs 0 0 (MQ below ((kQi G (S := Unit) (fun r' _ => r' = res) (fun _ => zw G MS 51 a s9.1 s9.2)) A) [.ref (a 0), .int p1].toArray s 0 0 A) (F0 m 4 ls []) := by
    intro v1
    refine while_ind (fun k4 ih4 v h => ?_)
    obtain ⟨v2, v3, g, L⟩ := v
    intro H locs ls hP hD hS hl
    have h : fX12_waitsSet_s4 fu v1 k4 v2 v3 g L = some (res, s9) := h
    have hP : va_P G.1 vwCl (zw G MS 51 a g L) H := hP
    have hD : va_D A (zw G MS 51 a g L) := hD
    have hl : lv_has ls 4 [(0, .ref (a 0)), (1, .int v1), (2, .int v2), (3, .int v3)] := hl
    show W p l e { frames := 6, cells := 0, slots := 0, locals := 110 } s m [.ref (a 0), .int p1].toArray below meth c H locs 0 0 (MQ below ((kQi G (S := Unit) (fun r' _ => r' = res) (fun _ => zw G MS 51 a s9.1 s9.2)) A) [.ref (a 0), .int p1].toArray s 0 0 A) (F0 m 4 ls [])
    unfold fX12_waitsSet_s4 at h
    refine lv_iload_n hx hb dX12_waitsSet_4 rfl (lv_at hl 3 rfl) ?_
    refine lv_aload_n hx hb dX12_waitsSet_5 rfl (lv_at hl 0 rfl) ?_
    refine x_getr (Or.inl fl_X12_38) C hP (by decide) ms_0 rfl dX12_waitsSet_6 ?_
    refine lv_iload_n hx hb dX12_waitsSet_9 rfl (lv_at hl 1 rfl) ?_
    refine y_ald C hP (by decide) ms_8 dX12_waitsSet_10 h (fun h => ?_)
    refine lv_icmp_ge (x := v3) (y := (g 8 (Int32.toNatClampNeg v1))) (tgt := 36) hx hb dX12_waitsSet_11 (by decide) (fun c1 => ?_) (fun c1 => ?_)
    ·
      have h := ite_t c1 h
      refine lv_iload_n hx hb dX12_waitsSet_36 rfl (lv_at hl 2 rfl) ?_
      exact y_iret C hr hlk hP hD hS h (Nat.le_of_ble_eq_true rfl) (Nat.le_of_ble_eq_true rfl) dX12_waitsSet_37
    ·
      have h := ite_e c1 h
      refine lv_iload_n hx hb dX12_waitsSet_14 rfl (lv_at hl 2 rfl) ?_
      refine lv_iconst (v := 1) hx hb dX12_waitsSet_15 (by decide) ?_
      refine lv_aload_n hx hb dX12_waitsSet_16 rfl (lv_at hl 0 rfl) ?_
      refine x_getr (Or.inl fl_X12_41) C hP (by decide) ms_0 rfl dX12_waitsSet_17 ?_
      refine lv_bipush (v := 6) hx hb dX12_waitsSet_20 (by decide) ?_
      refine lv_iload_n hx hb dX12_waitsSet_22 rfl (lv_at hl 1 rfl) ?_
      refine lv_imul hx hb dX12_waitsSet_23 ?_
      refine lv_iload_n hx hb dX12_waitsSet_24 rfl (lv_at hl 3 rfl) ?_
      refine lv_iadd hx hb dX12_waitsSet_25 ?_
      refine y_ald C hP (by decide) ms_9 dX12_waitsSet_26 h (fun h => ?_)
      refine lv_ishl hx hb dX12_waitsSet_27 ?_
      refine lv_ior hx hb dX12_waitsSet_28 ?_
      refine y_let h (fun x2 h => ?_)
      refine lv_istore_n (lv' := [(2, .int x2), (0, .ref (a 0)), (1, .int v1), (3, .int v3)]) hx hb dX12_waitsSet_29 rfl hl (by decide) rfl (fun ls hl => ?_)
      refine lv_iinc (v := (v3 + 1)) (lv' := [(3, .int (v3 + 1)), (2, .int x2), (0, .ref (a 0)), (1, .int v1)]) hx hb dX12_waitsSet_30 hl (k := 3) rfl rfl (by decide) rfl (fun ls hl => ?_)
      refine lv_goto (tgt := 4) hx hb dX12_waitsSet_33 (by decide) ?_
      exact ih4 (x2, (v3 + 1), g, L) h H locs ls hP hD hS (lv_sub hl [2, 3, 1, 0] rfl)
  exact lp4 p1 fu (0, 0, g, L) h H locs ls hP hD hS (lv_sub hl [2, 3, 1, 0] rfl)
def fX12_lesson_p23 (fu : Nat) (g : Nat → Nat → Int32) (L : Nat → Nat → Int64) : Option ((Int32) × zS) :=
  some (0, (g, L))
def fX12_lesson (fu : Nat) (p1 : Int32) (p2 : Int32) (g : Nat → Nat → Int32) (L : Nat → Nat → Int64) : Option ((Int32) × zS) :=
  sti g 0 0 0 (fun g1 =>
  cb (fX12_isLesson fu p1 g1 L) (fun x2 g3 L4 =>
  if x2 = 0 then fX12_lesson_p23 fu g3 L4
  else cb (fX12_isWhat fu p2 11 g3 L4) (fun x7 g8 L9 =>
  if x7 = 0 then fX12_lesson_p23 fu g8 L9
  else if (Int32.toInt p2) = 0 then (ck p1 12 (
  some ((g8 1 (Int32.toNatClampNeg p1)), (g8, L9)))) else
  if (Int32.toInt p2) = 1 then (ck p1 12 (
  some ((g8 2 (Int32.toNatClampNeg p1)), (g8, L9)))) else
  if (Int32.toInt p2) = 2 then (ck p1 12 (
  some ((g8 3 (Int32.toNatClampNeg p1)), (g8, L9)))) else
  if (Int32.toInt p2) = 3 then (ck (0 + p1) 48 (
  some ((g8 12 (Int32.toNatClampNeg (0 + p1))), (g8, L9)))) else
  if (Int32.toInt p2) = 4 then (ck (24 + p1) 48 (
  some ((g8 12 (Int32.toNatClampNeg (24 + p1))), (g8, L9)))) else
  if (Int32.toInt p2) = 5 then (ck p1 12 (
  some ((g8 4 (Int32.toNatClampNeg p1)), (g8, L9)))) else
  if (Int32.toInt p2) = 6 then (ck p1 12 (
  some ((g8 5 (Int32.toNatClampNeg p1)), (g8, L9)))) else
  if (Int32.toInt p2) = 7 then (ck p1 12 (
  some ((g8 6 (Int32.toNatClampNeg p1)), (g8, L9)))) else
  if (Int32.toInt p2) = 8 then (cb (fX12_waitsSet fu p1 g8 L9) (fun x21 g22 L23 =>
  some (x21, (g22, L23)))) else
  if (Int32.toInt p2) = 9 then (ck (36 + p1) 48 (
  some ((g8 12 (Int32.toNatClampNeg (36 + p1))), (g8, L9)))) else
  if (Int32.toInt p2) = 10 then (ck p1 12 (
  some ((g8 7 (Int32.toNatClampNeg p1)), (g8, L9)))) else
  ck (12 + p1) 48 (
  some ((g8 12 (Int32.toNatClampNeg (12 + p1))), (g8, L9))))))
set_option maxHeartbeats 4000000 in
set_option maxRecDepth 100000 in
theorem rX12_lesson (l : Launch) (G : kG) (sz : Nat) (a : Nat → Nat) (fu : Nat) (g : Nat → Nat → Int32) (L : Nat → Nat → Int64) (p1 : Int32) (p2 : Int32) (res : Int32) (s9 : zS) (h : fX12_lesson fu p1 p2 g L = some (res, s9)) : kM l yX12_lesson cX12_lesson 3 (some .int) { frames := 8, cells := 0, slots := 0, locals := 154 } G [.ref (a 0), .int p1, .int p2] (zw G MS 51 a g L) sz (kQi G (S := Unit) (fun r' _ => r' = res) (fun _ => zw G MS 51 a s9.1 s9.2)) := by
  refine kM.of (by decide) (Nat.le_of_ble_eq_true rfl) ?_
  intro p e s m below meth c A ls H C hr hlk hnm hP hD hS hl
  have C : kC G p s m c cX12_lesson 3 RX12 A := C
  have hx := C.1
  have hb := C.2.1
  have hl : lv_has ls 3 [(0, .ref (a 0)), (1, .int p1), (2, .int p2)] := hl
  obtain ⟨locs, hlocs⟩ : ∃ q : List Loc, q = [] := ⟨_, rfl⟩
  rw [← hlocs] at hS
  rw [← hlocs]
  unfold fX12_lesson at h
  refine lv_aload_n hx hb dX12_lesson_0 rfl (lv_at hl 0 rfl) ?_
  refine lv_iconst (v := 0) hx hb dX12_lesson_1 (by decide) ?_
  refine y_puti (Or.inl fl_X12_177) ft_X12_0 C hP hD hS (by decide) ms_0 rfl rfl rfl dX12_lesson_2 h (fun g1 H locs h hP hD hS => ?_)
  refine lv_aload_n hx hb dX12_lesson_5 rfl (lv_at hl 0 rfl) ?_
  refine lv_iload_n hx hb dX12_lesson_6 rfl (lv_at hl 1 rfl) ?_
  obtain ⟨z_, g3, L4, hf5, h⟩ := cb_some h
  refine x_callVi (rest := []) li_X12_402 C (rX12_isLesson l G H.size a fu g1 L p1 z_ (g3, L4) hf5) (kR rfl) hP hD hS 0 12 rfl (zat (by decide) ms_0) rfl hl.1 rfl (Nat.le_of_ble_eq_true rfl) dX12_lesson_7 (fun x2 u_ H locs e_ hP hD hS => ?_)
  have e_ : x2 = z_ := e_
  subst e_
  have hP : va_P G.1 vwCl (zw G MS 51 a g3 L4) H := hP
  have hD : va_D A (zw G MS 51 a g3 L4) := hD
  have J23 : ∀ (g : Nat → Nat → Int32) (L : Nat → Nat → Int64) (H : Heap) (locs : List Loc) (ls : Array Slot), fX12_lesson_p23 fu g L = some (res, s9) → va_P G.1 vwCl (zw G MS 51 a g L) H → va_D A (zw G MS 51 a g L) → va_S A s.heap H locs → lv_has ls 3 [] → W p l e { frames := 8, cells := 0, slots := 0, locals := 154 } s m [.ref (a 0), .int p1, .int p2].toArray below meth c H locs 0 0 (MQ below ((kQi G (S := Unit) (fun r' _ => r' = res) (fun _ => zw G MS 51 a s9.1 s9.2)) A) [.ref (a 0), .int p1, .int p2].toArray s 0 0 A) (F0 m 23 ls []) := by
    intro g L H locs ls h hP hD hS hl
    unfold fX12_lesson_p23 at h
    refine lv_iconst (v := 0) hx hb dX12_lesson_23 (by decide) ?_
    exact y_iret C hr hlk hP hD hS h (Nat.le_of_ble_eq_true rfl) (Nat.le_of_ble_eq_true rfl) dX12_lesson_24
  refine lv_if_eq (x := x2) (tgt := 23) hx hb dX12_lesson_10 (by decide) (fun c6 => ?_) (fun c6 => ?_)
  ·
    have h := ite_t c6 h
    exact J23 g3 L4 H locs ls h hP hD hS (lv_sub hl [] rfl)
  ·
    have h := ite_e c6 h
    refine lv_aload_n hx hb dX12_lesson_13 rfl (lv_at hl 0 rfl) ?_
    refine lv_iload_n hx hb dX12_lesson_14 rfl (lv_at hl 2 rfl) ?_
    refine lv_bipush (v := 11) hx hb dX12_lesson_15 (by decide) ?_
    obtain ⟨z_, g8, L9, hf10, h⟩ := cb_some h
    refine x_callVi (rest := []) li_X12_405 C (rX12_isWhat l G H.size a fu g3 L4 p2 11 z_ (g8, L9) hf10) (kR rfl) hP hD hS 0 12 rfl (zat (by decide) ms_0) rfl hl.1 rfl (Nat.le_of_ble_eq_true rfl) dX12_lesson_17 (fun x7 u_ H locs e_ hP hD hS => ?_)
    have e_ : x7 = z_ := e_
    subst e_
    have hP : va_P G.1 vwCl (zw G MS 51 a g8 L9) H := hP
    have hD : va_D A (zw G MS 51 a g8 L9) := hD
    refine lv_if_ne (x := x7) (tgt := 25) hx hb dX12_lesson_20 (by decide) (fun c11 => ?_) (fun c11 => ?_)
    ·
      have h := ite_e c11 h
      refine lv_iload_n hx hb dX12_lesson_25 rfl (lv_at hl 2 rfl) ?_
      by_cases c12 : (Int32.toInt p2) = 0
      ·
        have h := ite_t c12 h
        refine lv_tableIn (off := 58) (tgt := 84) hx hb dX12_lesson_26 (by omega) (by omega) (by rw [c12]; rfl) (by decide) ?_
        refine lv_aload_n hx hb dX12_lesson_84 rfl (lv_at hl 0 rfl) ?_
        refine x_getr (Or.inl fl_X12_16) C hP (by decide) ms_0 rfl dX12_lesson_85 ?_
        refine lv_iload_n hx hb dX12_lesson_88 rfl (lv_at hl 1 rfl) ?_
        refine y_ald C hP (by decide) ms_1 dX12_lesson_89 h (fun h => ?_)
        exact y_iret C hr hlk hP hD hS h (Nat.le_of_ble_eq_true rfl) (Nat.le_of_ble_eq_true rfl) dX12_lesson_90
      have h := ite_e c12 h
      by_cases c13 : (Int32.toInt p2) = 1
      ·
        have h := ite_t c13 h
        refine lv_tableIn (off := 65) (tgt := 91) hx hb dX12_lesson_26 (by omega) (by omega) (by rw [c13]; rfl) (by decide) ?_
        refine lv_aload_n hx hb dX12_lesson_91 rfl (lv_at hl 0 rfl) ?_
        refine x_getr (Or.inl fl_X12_20) C hP (by decide) ms_0 rfl dX12_lesson_92 ?_
        refine lv_iload_n hx hb dX12_lesson_95 rfl (lv_at hl 1 rfl) ?_
        refine y_ald C hP (by decide) ms_2 dX12_lesson_96 h (fun h => ?_)
        exact y_iret C hr hlk hP hD hS h (Nat.le_of_ble_eq_true rfl) (Nat.le_of_ble_eq_true rfl) dX12_lesson_97
      have h := ite_e c13 h
      by_cases c14 : (Int32.toInt p2) = 2
      ·
        have h := ite_t c14 h
        refine lv_tableIn (off := 72) (tgt := 98) hx hb dX12_lesson_26 (by omega) (by omega) (by rw [c14]; rfl) (by decide) ?_
        refine lv_aload_n hx hb dX12_lesson_98 rfl (lv_at hl 0 rfl) ?_
        refine x_getr (Or.inl fl_X12_23) C hP (by decide) ms_0 rfl dX12_lesson_99 ?_
        refine lv_iload_n hx hb dX12_lesson_102 rfl (lv_at hl 1 rfl) ?_
        refine y_ald C hP (by decide) ms_3 dX12_lesson_103 h (fun h => ?_)
        exact y_iret C hr hlk hP hD hS h (Nat.le_of_ble_eq_true rfl) (Nat.le_of_ble_eq_true rfl) dX12_lesson_104
      have h := ite_e c14 h
      by_cases c15 : (Int32.toInt p2) = 3
      ·
        have h := ite_t c15 h
        refine lv_tableIn (off := 79) (tgt := 105) hx hb dX12_lesson_26 (by omega) (by omega) (by rw [c15]; rfl) (by decide) ?_
        refine lv_aload_n hx hb dX12_lesson_105 rfl (lv_at hl 0 rfl) ?_
        refine x_getr (Or.inl fl_X12_50) C hP (by decide) ms_0 rfl dX12_lesson_106 ?_
        refine lv_iconst (v := 0) hx hb dX12_lesson_109 (by decide) ?_
        refine lv_iload_n hx hb dX12_lesson_110 rfl (lv_at hl 1 rfl) ?_
        refine lv_iadd hx hb dX12_lesson_111 ?_
        refine y_ald C hP (by decide) ms_12 dX12_lesson_112 h (fun h => ?_)
        exact y_iret C hr hlk hP hD hS h (Nat.le_of_ble_eq_true rfl) (Nat.le_of_ble_eq_true rfl) dX12_lesson_113
      have h := ite_e c15 h
      by_cases c16 : (Int32.toInt p2) = 4
      ·
        have h := ite_t c16 h
        refine lv_tableIn (off := 88) (tgt := 114) hx hb dX12_lesson_26 (by omega) (by omega) (by rw [c16]; rfl) (by decide) ?_
        refine lv_aload_n hx hb dX12_lesson_114 rfl (lv_at hl 0 rfl) ?_
        refine x_getr (Or.inl fl_X12_50) C hP (by decide) ms_0 rfl dX12_lesson_115 ?_
        refine lv_bipush (v := 24) hx hb dX12_lesson_118 (by decide) ?_
        refine lv_iload_n hx hb dX12_lesson_120 rfl (lv_at hl 1 rfl) ?_
        refine lv_iadd hx hb dX12_lesson_121 ?_
        refine y_ald C hP (by decide) ms_12 dX12_lesson_122 h (fun h => ?_)
        exact y_iret C hr hlk hP hD hS h (Nat.le_of_ble_eq_true rfl) (Nat.le_of_ble_eq_true rfl) dX12_lesson_123
      have h := ite_e c16 h
      by_cases c17 : (Int32.toInt p2) = 5
      ·
        have h := ite_t c17 h
        refine lv_tableIn (off := 98) (tgt := 124) hx hb dX12_lesson_26 (by omega) (by omega) (by rw [c17]; rfl) (by decide) ?_
        refine lv_aload_n hx hb dX12_lesson_124 rfl (lv_at hl 0 rfl) ?_
        refine x_getr (Or.inl fl_X12_26) C hP (by decide) ms_0 rfl dX12_lesson_125 ?_
        refine lv_iload_n hx hb dX12_lesson_128 rfl (lv_at hl 1 rfl) ?_
        refine y_ald C hP (by decide) ms_4 dX12_lesson_129 h (fun h => ?_)
        exact y_iret C hr hlk hP hD hS h (Nat.le_of_ble_eq_true rfl) (Nat.le_of_ble_eq_true rfl) dX12_lesson_130
      have h := ite_e c17 h
      by_cases c18 : (Int32.toInt p2) = 6
      ·
        have h := ite_t c18 h
        refine lv_tableIn (off := 105) (tgt := 131) hx hb dX12_lesson_26 (by omega) (by omega) (by rw [c18]; rfl) (by decide) ?_
        refine lv_aload_n hx hb dX12_lesson_131 rfl (lv_at hl 0 rfl) ?_
        refine x_getr (Or.inl fl_X12_29) C hP (by decide) ms_0 rfl dX12_lesson_132 ?_
        refine lv_iload_n hx hb dX12_lesson_135 rfl (lv_at hl 1 rfl) ?_
        refine y_ald C hP (by decide) ms_5 dX12_lesson_136 h (fun h => ?_)
        exact y_iret C hr hlk hP hD hS h (Nat.le_of_ble_eq_true rfl) (Nat.le_of_ble_eq_true rfl) dX12_lesson_137
      have h := ite_e c18 h
      by_cases c19 : (Int32.toInt p2) = 7
      ·
        have h := ite_t c19 h
        refine lv_tableIn (off := 112) (tgt := 138) hx hb dX12_lesson_26 (by omega) (by omega) (by rw [c19]; rfl) (by decide) ?_
        refine lv_aload_n hx hb dX12_lesson_138 rfl (lv_at hl 0 rfl) ?_
        refine x_getr (Or.inl fl_X12_32) C hP (by decide) ms_0 rfl dX12_lesson_139 ?_
        refine lv_iload_n hx hb dX12_lesson_142 rfl (lv_at hl 1 rfl) ?_
        refine y_ald C hP (by decide) ms_6 dX12_lesson_143 h (fun h => ?_)
        exact y_iret C hr hlk hP hD hS h (Nat.le_of_ble_eq_true rfl) (Nat.le_of_ble_eq_true rfl) dX12_lesson_144
      have h := ite_e c19 h
      by_cases c20 : (Int32.toInt p2) = 8
      ·
        have h := ite_t c20 h
        refine lv_tableIn (off := 119) (tgt := 145) hx hb dX12_lesson_26 (by omega) (by omega) (by rw [c20]; rfl) (by decide) ?_
        refine lv_aload_n hx hb dX12_lesson_145 rfl (lv_at hl 0 rfl) ?_
        refine lv_iload_n hx hb dX12_lesson_146 rfl (lv_at hl 1 rfl) ?_
        obtain ⟨z_, g22, L23, hf24, h⟩ := cb_some h
        refine x_callVi (rest := []) li_X12_408 C (rX12_waitsSet l G H.size a fu g8 L9 p1 z_ (g22, L23) hf24) (kR rfl) hP hD hS 0 12 rfl (zat (by decide) ms_0) rfl hl.1 rfl (Nat.le_of_ble_eq_true rfl) dX12_lesson_147 (fun x21 u_ H locs e_ hP hD hS => ?_)
        have e_ : x21 = z_ := e_
        subst e_
        have hP : va_P G.1 vwCl (zw G MS 51 a g22 L23) H := hP
        have hD : va_D A (zw G MS 51 a g22 L23) := hD
        exact y_iret C hr hlk hP hD hS h (Nat.le_of_ble_eq_true rfl) (Nat.le_of_ble_eq_true rfl) dX12_lesson_150
      have h := ite_e c20 h
      by_cases c25 : (Int32.toInt p2) = 9
      ·
        have h := ite_t c25 h
        refine lv_tableIn (off := 125) (tgt := 151) hx hb dX12_lesson_26 (by omega) (by omega) (by rw [c25]; rfl) (by decide) ?_
        refine lv_aload_n hx hb dX12_lesson_151 rfl (lv_at hl 0 rfl) ?_
        refine x_getr (Or.inl fl_X12_50) C hP (by decide) ms_0 rfl dX12_lesson_152 ?_
        refine lv_bipush (v := 36) hx hb dX12_lesson_155 (by decide) ?_
        refine lv_iload_n hx hb dX12_lesson_157 rfl (lv_at hl 1 rfl) ?_
        refine lv_iadd hx hb dX12_lesson_158 ?_
        refine y_ald C hP (by decide) ms_12 dX12_lesson_159 h (fun h => ?_)
        exact y_iret C hr hlk hP hD hS h (Nat.le_of_ble_eq_true rfl) (Nat.le_of_ble_eq_true rfl) dX12_lesson_160
      have h := ite_e c25 h
      by_cases c26 : (Int32.toInt p2) = 10
      ·
        have h := ite_t c26 h
        refine lv_tableIn (off := 135) (tgt := 161) hx hb dX12_lesson_26 (by omega) (by omega) (by rw [c26]; rfl) (by decide) ?_
        refine lv_aload_n hx hb dX12_lesson_161 rfl (lv_at hl 0 rfl) ?_
        refine x_getr (Or.inl fl_X12_35) C hP (by decide) ms_0 rfl dX12_lesson_162 ?_
        refine lv_iload_n hx hb dX12_lesson_165 rfl (lv_at hl 1 rfl) ?_
        refine y_ald C hP (by decide) ms_7 dX12_lesson_166 h (fun h => ?_)
        exact y_iret C hr hlk hP hD hS h (Nat.le_of_ble_eq_true rfl) (Nat.le_of_ble_eq_true rfl) dX12_lesson_167
      have h := ite_e c26 h
      refine lv_tableOut (tgt := 168) hx hb dX12_lesson_26 (by omega) (by decide) ?_
      refine lv_aload_n hx hb dX12_lesson_168 rfl (lv_at hl 0 rfl) ?_
      refine x_getr (Or.inl fl_X12_50) C hP (by decide) ms_0 rfl dX12_lesson_169 ?_
      refine lv_bipush (v := 12) hx hb dX12_lesson_172 (by decide) ?_
      refine lv_iload_n hx hb dX12_lesson_174 rfl (lv_at hl 1 rfl) ?_
      refine lv_iadd hx hb dX12_lesson_175 ?_
      refine y_ald C hP (by decide) ms_12 dX12_lesson_176 h (fun h => ?_)
      exact y_iret C hr hlk hP hD hS h (Nat.le_of_ble_eq_true rfl) (Nat.le_of_ble_eq_true rfl) dX12_lesson_177
    ·
      have h := ite_t c11 h
      exact J23 g8 L9 H locs ls h hP hD hS (lv_sub hl [] rfl)
def fX12_day_p22 (fu : Nat) (g : Nat → Nat → Int32) (L : Nat → Nat → Int64) : Option ((Int32) × zS) :=
  some (0, (g, L))
def fX12_day_p88 (fu : Nat) (t0 : Int32) (g : Nat → Nat → Int32) (L : Nat → Nat → Int64) : Option ((Int32) × zS) :=
  some (t0, (g, L))
def fX12_day (fu : Nat) (p1 : Int32) (p2 : Int32) (g : Nat → Nat → Int32) (L : Nat → Nat → Int64) : Option ((Int32) × zS) :=
  sti g 0 0 0 (fun g1 =>
  cb (fX12_isLesson fu p1 g1 L) (fun x2 g3 L4 =>
  if x2 = 0 then fX12_day_p22 fu g3 L4
  else cb (fX12_isWhat fu p2 4 g3 L4) (fun x7 g8 L9 =>
  if x7 = 0 then fX12_day_p22 fu g8 L9
  else cb (fX12_works0 fu g8 L9) (fun x12 g13 L14 =>
  if p2 = 0 then ck p1 12 (
  fX12_day_p88 fu (g13 31 (Int32.toNatClampNeg p1)) g13 L14)
  else if (p2 : Int32) = 1 then ck p1 12 (
  fX12_day_p88 fu (g13 32 (Int32.toNatClampNeg p1)) g13 L14)
  else if (p2 : Int32) = 2 then cb (fX12_late fu p1 g13 L14) (fun x20 g21 L22 =>
  fX12_day_p88 fu x20 g21 L22)
  else if (p2 : Int32) = 3 then ck p1 12 (
  fX12_day_p88 fu (g13 33 (Int32.toNatClampNeg p1)) g13 L14)
  else ck p1 12 (
  fX12_day_p88 fu (g13 34 (Int32.toNatClampNeg p1)) g13 L14)))))
set_option maxHeartbeats 4000000 in
set_option maxRecDepth 100000 in
theorem rX12_day (l : Launch) (G : kG) (sz : Nat) (a : Nat → Nat) (fu : Nat) (g : Nat → Nat → Int32) (L : Nat → Nat → Int64) (p1 : Int32) (p2 : Int32) (res : Int32) (s9 : zS) (h : fX12_day fu p1 p2 g L = some (res, s9)) : kM l yX12_day cX12_day 3 (some .int) { frames := 11, cells := 0, slots := 0, locals := 228 } G [.ref (a 0), .int p1, .int p2] (zw G MS 51 a g L) sz (kQi G (S := Unit) (fun r' _ => r' = res) (fun _ => zw G MS 51 a s9.1 s9.2)) := by
  refine kM.of (by decide) (Nat.le_of_ble_eq_true rfl) ?_
  intro p e s m below meth c A ls H C hr hlk hnm hP hD hS hl
  have C : kC G p s m c cX12_day 3 RX12 A := C
  have hx := C.1
  have hb := C.2.1
  have hl : lv_has ls 3 [(0, .ref (a 0)), (1, .int p1), (2, .int p2)] := hl
  obtain ⟨locs, hlocs⟩ : ∃ q : List Loc, q = [] := ⟨_, rfl⟩
  rw [← hlocs] at hS
  rw [← hlocs]
  unfold fX12_day at h
  refine lv_aload_n hx hb dX12_day_0 rfl (lv_at hl 0 rfl) ?_
  refine lv_iconst (v := 0) hx hb dX12_day_1 (by decide) ?_
  refine y_puti (Or.inl fl_X12_177) ft_X12_0 C hP hD hS (by decide) ms_0 rfl rfl rfl dX12_day_2 h (fun g1 H locs h hP hD hS => ?_)
  refine lv_aload_n hx hb dX12_day_5 rfl (lv_at hl 0 rfl) ?_
  refine lv_iload_n hx hb dX12_day_6 rfl (lv_at hl 1 rfl) ?_
  obtain ⟨z_, g3, L4, hf5, h⟩ := cb_some h
  refine x_callVi (rest := []) li_X12_402 C (rX12_isLesson l G H.size a fu g1 L p1 z_ (g3, L4) hf5) (kR rfl) hP hD hS 0 12 rfl (zat (by decide) ms_0) rfl hl.1 rfl (Nat.le_of_ble_eq_true rfl) dX12_day_7 (fun x2 u_ H locs e_ hP hD hS => ?_)
  have e_ : x2 = z_ := e_
  subst e_
  have hP : va_P G.1 vwCl (zw G MS 51 a g3 L4) H := hP
  have hD : va_D A (zw G MS 51 a g3 L4) := hD
  have J22 : ∀ (g : Nat → Nat → Int32) (L : Nat → Nat → Int64) (H : Heap) (locs : List Loc) (ls : Array Slot), fX12_day_p22 fu g L = some (res, s9) → va_P G.1 vwCl (zw G MS 51 a g L) H → va_D A (zw G MS 51 a g L) → va_S A s.heap H locs → lv_has ls 3 [] → W p l e { frames := 11, cells := 0, slots := 0, locals := 228 } s m [.ref (a 0), .int p1, .int p2].toArray below meth c H locs 0 0 (MQ below ((kQi G (S := Unit) (fun r' _ => r' = res) (fun _ => zw G MS 51 a s9.1 s9.2)) A) [.ref (a 0), .int p1, .int p2].toArray s 0 0 A) (F0 m 22 ls []) := by
    intro g L H locs ls h hP hD hS hl
    unfold fX12_day_p22 at h
    refine lv_iconst (v := 0) hx hb dX12_day_22 (by decide) ?_
    exact y_iret C hr hlk hP hD hS h (Nat.le_of_ble_eq_true rfl) (Nat.le_of_ble_eq_true rfl) dX12_day_23
  refine lv_if_eq (x := x2) (tgt := 22) hx hb dX12_day_10 (by decide) (fun c6 => ?_) (fun c6 => ?_)
  ·
    have h := ite_t c6 h
    exact J22 g3 L4 H locs ls h hP hD hS (lv_sub hl [] rfl)
  ·
    have h := ite_e c6 h
    refine lv_aload_n hx hb dX12_day_13 rfl (lv_at hl 0 rfl) ?_
    refine lv_iload_n hx hb dX12_day_14 rfl (lv_at hl 2 rfl) ?_
    refine lv_iconst (v := 4) hx hb dX12_day_15 (by decide) ?_
    obtain ⟨z_, g8, L9, hf10, h⟩ := cb_some h
    refine x_callVi (rest := []) li_X12_405 C (rX12_isWhat l G H.size a fu g3 L4 p2 4 z_ (g8, L9) hf10) (kR rfl) hP hD hS 0 12 rfl (zat (by decide) ms_0) rfl hl.1 rfl (Nat.le_of_ble_eq_true rfl) dX12_day_16 (fun x7 u_ H locs e_ hP hD hS => ?_)
    have e_ : x7 = z_ := e_
    subst e_
    have hP : va_P G.1 vwCl (zw G MS 51 a g8 L9) H := hP
    have hD : va_D A (zw G MS 51 a g8 L9) := hD
    refine lv_if_ne (x := x7) (tgt := 24) hx hb dX12_day_19 (by decide) (fun c11 => ?_) (fun c11 => ?_)
    ·
      have h := ite_e c11 h
      refine lv_aload_n hx hb dX12_day_24 rfl (lv_at hl 0 rfl) ?_
      obtain ⟨z_, g13, L14, hf15, h⟩ := cb_some h
      refine x_callVv (rest := []) li_X12_386 C (rX12_works0 l G H.size a fu g8 L9 z_ (g13, L14) hf15) (kR rfl) hP hD hS 0 12 rfl (zat (by decide) ms_0) rfl hl.1 rfl (Nat.le_of_ble_eq_true rfl) dX12_day_25 (fun u_ H locs e_ hP hD hS => ?_)
      have hP : va_P G.1 vwCl (zw G MS 51 a g13 L14) H := hP
      have hD : va_D A (zw G MS 51 a g13 L14) := hD
      refine lv_iload_n hx hb dX12_day_28 rfl (lv_at hl 2 rfl) ?_
      have J88 : ∀ (t0 : Int32) (g : Nat → Nat → Int32) (L : Nat → Nat → Int64) (H : Heap) (locs : List Loc) (ls : Array Slot), fX12_day_p88 fu t0 g L = some (res, s9) → va_P G.1 vwCl (zw G MS 51 a g L) H → va_D A (zw G MS 51 a g L) → va_S A s.heap H locs → lv_has ls 3 [] → W p l e { frames := 11, cells := 0, slots := 0, locals := 228 } s m [.ref (a 0), .int p1, .int p2].toArray below meth c H locs 0 0 (MQ below ((kQi G (S := Unit) (fun r' _ => r' = res) (fun _ => zw G MS 51 a s9.1 s9.2)) A) [.ref (a 0), .int p1, .int p2].toArray s 0 0 A) (F0 m 88 ls [.int t0]) := by
        intro t0 g L H locs ls h hP hD hS hl
        unfold fX12_day_p88 at h
        exact y_iret C hr hlk hP hD hS h (Nat.le_of_ble_eq_true rfl) (Nat.le_of_ble_eq_true rfl) dX12_day_88
      refine lv_if_ne (x := p2) (tgt := 41) hx hb dX12_day_29 (by decide) (fun c16 => ?_) (fun c16 => ?_)
      ·
        have h := ite_e c16 h
        refine lv_iload_n hx hb dX12_day_41 rfl (lv_at hl 2 rfl) ?_
        refine lv_iconst (v := 1) hx hb dX12_day_42 (by decide) ?_
        refine lv_icmp_ne (x := p2) (y := 1) (tgt := 55) hx hb dX12_day_43 (by decide) (fun c17 => ?_) (fun c17 => ?_)
        ·
          have h := ite_e c17 h
          refine lv_iload_n hx hb dX12_day_55 rfl (lv_at hl 2 rfl) ?_
          refine lv_iconst (v := 2) hx hb dX12_day_56 (by decide) ?_
          refine lv_icmp_ne (x := p2) (y := 2) (tgt := 68) hx hb dX12_day_57 (by decide) (fun c18 => ?_) (fun c18 => ?_)
          ·
            have h := ite_e c18 h
            refine lv_iload_n hx hb dX12_day_68 rfl (lv_at hl 2 rfl) ?_
            refine lv_iconst (v := 3) hx hb dX12_day_69 (by decide) ?_
            refine lv_icmp_ne (x := p2) (y := 3) (tgt := 82) hx hb dX12_day_70 (by decide) (fun c19 => ?_) (fun c19 => ?_)
            ·
              have h := ite_e c19 h
              refine lv_aload_n hx hb dX12_day_82 rfl (lv_at hl 0 rfl) ?_
              refine x_getr (Or.inl fl_X12_123) C hP (by decide) ms_0 rfl dX12_day_83 ?_
              refine lv_iload_n hx hb dX12_day_86 rfl (lv_at hl 1 rfl) ?_
              refine y_ald C hP (by decide) ms_34 dX12_day_87 h (fun h => ?_)
              exact J88 (g13 34 (Int32.toNatClampNeg p1)) g13 L14 H locs ls h hP hD hS (lv_sub hl [] rfl)
            ·
              have h := ite_t c19 h
              refine lv_aload_n hx hb dX12_day_73 rfl (lv_at hl 0 rfl) ?_
              refine x_getr (Or.inl fl_X12_120) C hP (by decide) ms_0 rfl dX12_day_74 ?_
              refine lv_iload_n hx hb dX12_day_77 rfl (lv_at hl 1 rfl) ?_
              refine y_ald C hP (by decide) ms_33 dX12_day_78 h (fun h => ?_)
              refine lv_goto (tgt := 88) hx hb dX12_day_79 (by decide) ?_
              exact J88 (g13 33 (Int32.toNatClampNeg p1)) g13 L14 H locs ls h hP hD hS (lv_sub hl [] rfl)
          ·
            have h := ite_t c18 h
            refine lv_aload_n hx hb dX12_day_60 rfl (lv_at hl 0 rfl) ?_
            refine lv_iload_n hx hb dX12_day_61 rfl (lv_at hl 1 rfl) ?_
            obtain ⟨z_, g21, L22, hf23, h⟩ := cb_some h
            refine x_callVi (rest := []) li_X12_389 C (rX12_late l G H.size a fu g13 L14 p1 z_ (g21, L22) hf23) (kR rfl) hP hD hS 0 12 rfl (zat (by decide) ms_0) rfl hl.1 rfl (Nat.le_of_ble_eq_true rfl) dX12_day_62 (fun x20 u_ H locs e_ hP hD hS => ?_)
            have e_ : x20 = z_ := e_
            subst e_
            have hP : va_P G.1 vwCl (zw G MS 51 a g21 L22) H := hP
            have hD : va_D A (zw G MS 51 a g21 L22) := hD
            refine lv_goto (tgt := 88) hx hb dX12_day_65 (by decide) ?_
            exact J88 x20 g21 L22 H locs ls h hP hD hS (lv_sub hl [] rfl)
        ·
          have h := ite_t c17 h
          refine lv_aload_n hx hb dX12_day_46 rfl (lv_at hl 0 rfl) ?_
          refine x_getr (Or.inl fl_X12_117) C hP (by decide) ms_0 rfl dX12_day_47 ?_
          refine lv_iload_n hx hb dX12_day_50 rfl (lv_at hl 1 rfl) ?_
          refine y_ald C hP (by decide) ms_32 dX12_day_51 h (fun h => ?_)
          refine lv_goto (tgt := 88) hx hb dX12_day_52 (by decide) ?_
          exact J88 (g13 32 (Int32.toNatClampNeg p1)) g13 L14 H locs ls h hP hD hS (lv_sub hl [] rfl)
      ·
        have h := ite_t c16 h
        refine lv_aload_n hx hb dX12_day_32 rfl (lv_at hl 0 rfl) ?_
        refine x_getr (Or.inl fl_X12_114) C hP (by decide) ms_0 rfl dX12_day_33 ?_
        refine lv_iload_n hx hb dX12_day_36 rfl (lv_at hl 1 rfl) ?_
        refine y_ald C hP (by decide) ms_31 dX12_day_37 h (fun h => ?_)
        refine lv_goto (tgt := 88) hx hb dX12_day_38 (by decide) ?_
        exact J88 (g13 31 (Int32.toNatClampNeg p1)) g13 L14 H locs ls h hP hD hS (lv_sub hl [] rfl)
    ·
      have h := ite_t c11 h
      exact J22 g8 L9 H locs ls h hP hD hS (lv_sub hl [] rfl)
def fX12_chain_p30 (fu : Nat) (g : Nat → Nat → Int32) (L : Nat → Nat → Int64) : Option ((Int32) × zS) :=
  some (0, (g, L))
def fX12_chain_p65 (fu : Nat) (v3 : Int32) (g : Nat → Nat → Int32) (L : Nat → Nat → Int64) : Option ((Int32) × zS) :=
  some (v3, (g, L))
def fX12_chain_s41 (fu : Nat) (v2 : Int32) (k41 : Int32 × Int32 × (Nat → Nat → Int32) × (Nat → Nat → Int64) → Option ((Int32) × zS)) (v3 : Int32) (v4 : Int32) (g : Nat → Nat → Int32) (L : Nat → Nat → Int64) : Option ((Int32) × zS) :=
  if v2 ≤ (v4 : Int32) then fX12_chain_p65 fu v3 g L
  else if (v3 : Int32) = (-1) then fX12_chain_p65 fu v3 g L
  else ck v3 12 (
  lti (g 34 (Int32.toNatClampNeg v3)) (fun x18 =>
  k41 (x18, (v4 + 1), g, L)))
def fX12_chain_l41 (fu : Nat) (v2 : Int32) (v3 : Int32) (v4 : Int32) (g : Nat → Nat → Int32) (L : Nat → Nat → Int64) : Option ((Int32) × zS) :=
  whileK (fun k v => fX12_chain_s41 fu v2 k v.1 v.2.1 v.2.2.1 v.2.2.2) fu (v3, v4, g, L)
def fX12_chain_p23 (fu : Nat) (v1 : Int32) (v2 : Int32) (t0 : Int32) (g : Nat → Nat → Int32) (L : Nat → Nat → Int64) : Option ((Int32) × zS) :=
  cb (fX12_right fu t0 1 g L) (fun x7 g8 L9 =>
  if x7 = 0 then fX12_chain_p30 fu g8 L9
  else cb (fX12_works0 fu g8 L9) (fun x12 g13 L14 =>
  fX12_chain_l41 fu v2 v1 0 g13 L14))
def fX12_chain (fu : Nat) (p1 : Int32) (p2 : Int32) (g : Nat → Nat → Int32) (L : Nat → Nat → Int64) : Option ((Int32) × zS) :=
  sti g 0 0 0 (fun g1 =>
  cb (fX12_isLesson fu p1 g1 L) (fun x2 g3 L4 =>
  if x2 = 0 then fX12_chain_p30 fu g3 L4
  else if p2 < 0 then fX12_chain_p23 fu p1 p2 0 g3 L4
  else fX12_chain_p23 fu p1 p2 1 g3 L4))
set_option maxHeartbeats 4000000 in
set_option maxRecDepth 100000 in
theorem rX12_chain (l : Launch) (G : kG) (sz : Nat) (a : Nat → Nat) (fu : Nat) (g : Nat → Nat → Int32) (L : Nat → Nat → Int64) (p1 : Int32) (p2 : Int32) (res : Int32) (s9 : zS) (h : fX12_chain fu p1 p2 g L = some (res, s9)) : kM l yX12_chain cX12_chain 5 (some .int) { frames := 11, cells := 0, slots := 0, locals := 228 } G [.ref (a 0), .int p1, .int p2] (zw G MS 51 a g L) sz (kQi G (S := Unit) (fun r' _ => r' = res) (fun _ => zw G MS 51 a s9.1 s9.2)) := by
  refine kM.of (by decide) (Nat.le_of_ble_eq_true rfl) ?_
  intro p e s m below meth c A ls H C hr hlk hnm hP hD hS hl
  have C : kC G p s m c cX12_chain 5 RX12 A := C
  have hx := C.1
  have hb := C.2.1
  have hl : lv_has ls 5 [(0, .ref (a 0)), (1, .int p1), (2, .int p2)] := hl
  obtain ⟨locs, hlocs⟩ : ∃ q : List Loc, q = [] := ⟨_, rfl⟩
  rw [← hlocs] at hS
  rw [← hlocs]
  unfold fX12_chain at h
  refine lv_aload_n hx hb dX12_chain_0 rfl (lv_at hl 0 rfl) ?_
  refine lv_iconst (v := 0) hx hb dX12_chain_1 (by decide) ?_
  refine y_puti (Or.inl fl_X12_177) ft_X12_0 C hP hD hS (by decide) ms_0 rfl rfl rfl dX12_chain_2 h (fun g1 H locs h hP hD hS => ?_)
  refine lv_aload_n hx hb dX12_chain_5 rfl (lv_at hl 0 rfl) ?_
  refine lv_iload_n hx hb dX12_chain_6 rfl (lv_at hl 1 rfl) ?_
  obtain ⟨z_, g3, L4, hf5, h⟩ := cb_some h
  refine x_callVi (rest := []) li_X12_402 C (rX12_isLesson l G H.size a fu g1 L p1 z_ (g3, L4) hf5) (kR rfl) hP hD hS 0 12 rfl (zat (by decide) ms_0) rfl hl.1 rfl (Nat.le_of_ble_eq_true rfl) dX12_chain_7 (fun x2 u_ H locs e_ hP hD hS => ?_)
  have e_ : x2 = z_ := e_
  subst e_
  have hP : va_P G.1 vwCl (zw G MS 51 a g3 L4) H := hP
  have hD : va_D A (zw G MS 51 a g3 L4) := hD
  have J30 : ∀ (g : Nat → Nat → Int32) (L : Nat → Nat → Int64) (H : Heap) (locs : List Loc) (ls : Array Slot), fX12_chain_p30 fu g L = some (res, s9) → va_P G.1 vwCl (zw G MS 51 a g L) H → va_D A (zw G MS 51 a g L) → va_S A s.heap H locs → lv_has ls 5 [] → W p l e { frames := 11, cells := 0, slots := 0, locals := 228 } s m [.ref (a 0), .int p1, .int p2].toArray below meth c H locs 0 0 (MQ below ((kQi G (S := Unit) (fun r' _ => r' = res) (fun _ => zw G MS 51 a s9.1 s9.2)) A) [.ref (a 0), .int p1, .int p2].toArray s 0 0 A) (F0 m 30 ls []) := by
    intro g L H locs ls h hP hD hS hl
    unfold fX12_chain_p30 at h
    refine lv_iconst (v := 0) hx hb dX12_chain_30 (by decide) ?_
    exact y_iret C hr hlk hP hD hS h (Nat.le_of_ble_eq_true rfl) (Nat.le_of_ble_eq_true rfl) dX12_chain_31
  refine lv_if_eq (x := x2) (tgt := 30) hx hb dX12_chain_10 (by decide) (fun c6 => ?_) (fun c6 => ?_)
  ·
    have h := ite_t c6 h
    exact J30 g3 L4 H locs ls h hP hD hS (lv_sub hl [] rfl)
  ·
    have h := ite_e c6 h
    refine lv_aload_n hx hb dX12_chain_13 rfl (lv_at hl 0 rfl) ?_
    refine lv_iload_n hx hb dX12_chain_14 rfl (lv_at hl 2 rfl) ?_
    have J23 : ∀ (v1 : Int32) (v2 : Int32) (t0 : Int32) (g : Nat → Nat → Int32) (L : Nat → Nat → Int64) (H : Heap) (locs : List Loc) (ls : Array Slot), fX12_chain_p23 fu v1 v2 t0 g L = some (res, s9) → va_P G.1 vwCl (zw G MS 51 a g L) H → va_D A (zw G MS 51 a g L) → va_S A s.heap H locs → lv_has ls 5 [(0, .ref (a 0)), (1, .int v1), (2, .int v2)] → W p l e { frames := 11, cells := 0, slots := 0, locals := 228 } s m [.ref (a 0), .int p1, .int p2].toArray below meth c H locs 0 0 (MQ below ((kQi G (S := Unit) (fun r' _ => r' = res) (fun _ => zw G MS 51 a s9.1 s9.2)) A) [.ref (a 0), .int p1, .int p2].toArray s 0 0 A) (F0 m 23 ls [.int t0, .ref (a 0)]) := by
      intro v1 v2 t0 g L H locs ls h hP hD hS hl
      unfold fX12_chain_p23 at h
      refine lv_iconst (v := 1) hx hb dX12_chain_23 (by decide) ?_
      obtain ⟨z_, g8, L9, hf10, h⟩ := cb_some h
      refine x_callVi (rest := []) li_X12_328 C (rX12_right l G H.size a fu g L t0 1 z_ (g8, L9) hf10) (kR rfl) hP hD hS 0 12 rfl (zat (by decide) ms_0) rfl hl.1 rfl (Nat.le_of_ble_eq_true rfl) dX12_chain_24 (fun x7 u_ H locs e_ hP hD hS => ?_)
      have e_ : x7 = z_ := e_
      subst e_
      have hP : va_P G.1 vwCl (zw G MS 51 a g8 L9) H := hP
      have hD : va_D A (zw G MS 51 a g8 L9) := hD
      refine lv_if_ne (x := x7) (tgt := 32) hx hb dX12_chain_27 (by decide) (fun c11 => ?_) (fun c11 => ?_)
      ·
        have h := ite_e c11 h
        refine lv_aload_n hx hb dX12_chain_32 rfl (lv_at hl 0 rfl) ?_
        obtain ⟨z_, g13, L14, hf15, h⟩ := cb_some h
        refine x_callVv (rest := []) li_X12_386 C (rX12_works0 l G H.size a fu g8 L9 z_ (g13, L14) hf15) (kR rfl) hP hD hS 0 12 rfl (zat (by decide) ms_0) rfl hl.1 rfl (Nat.le_of_ble_eq_true rfl) dX12_chain_33 (fun u_ H locs e_ hP hD hS => ?_)
        have hP : va_P G.1 vwCl (zw G MS 51 a g13 L14) H := hP
        have hD : va_D A (zw G MS 51 a g13 L14) := hD
        refine lv_iload_n hx hb dX12_chain_36 rfl (lv_at hl 1 rfl) ?_
        refine lv_istore_n (lv' := [(3, .int v1), (0, .ref (a 0)), (1, .int v1), (2, .int v2)]) hx hb dX12_chain_37 rfl hl (by decide) rfl (fun ls hl => ?_)
        refine lv_iconst (v := 0) hx hb dX12_chain_38 (by decide) ?_
        refine lv_istore (lv' := [(4, .int 0), (3, .int v1), (0, .ref (a 0)), (1, .int v1), (2, .int v2)]) hx hb dX12_chain_39 hl (by decide) rfl (fun ls hl => ?_)
        have lp41 : ∀ (v2 : Int32), ∀ (n : Nat) (v : Int32 × Int32 × (Nat → Nat → Int32) × (Nat → Nat → Int64)), whileK (fun k v => fX12_chain_s41 fu v2 k v.1 v.2.1 v.2.2.1 v.2.2.2) n v = some (res, s9) → ∀ (H : Heap) (locs : List Loc) (ls : Array Slot), va_P G.1 vwCl (zw G MS 51 a (v.2.2.1) (v.2.2.2)) H → va_D A (zw G MS 51 a (v.2.2.1) (v.2.2.2)) → va_S A s.heap H locs → lv_has ls 5 [(0, .ref (a 0)), (2, .int v2), (3, .int (v.1)), (4, .int (v.2.1))] → W p l e { frames := 11, cells := 0, slots := 0, locals := 228 } s m [.ref (a 0), .int p1, .int p2].toArray below meth c H locs 0 0 (MQ below ((kQi G (S := Unit) (fun r' _ => r' = res) (fun _ => zw G MS 51 a s9.1 s9.2)) A) [.ref (a 0), .int p1, .int p2].toArray s 0 0 A) (F0 m 41 ls []) := by
          intro v2
          refine while_ind (fun k41 ih41 v h => ?_)
          obtain ⟨v3, v4, g, L⟩ := v
          intro H locs ls hP hD hS hl
          have h : fX12_chain_s41 fu v2 k41 v3 v4 g L = some (res, s9) := h
          have hP : va_P G.1 vwCl (zw G MS 51 a g L) H := hP
          have hD : va_D A (zw G MS 51 a g L) := hD
          have hl : lv_has ls 5 [(0, .ref (a 0)), (2, .int v2), (3, .int v3), (4, .int v4)] := hl
          show W p l e { frames := 11, cells := 0, slots := 0, locals := 228 } s m [.ref (a 0), .int p1, .int p2].toArray below meth c H locs 0 0 (MQ below ((kQi G (S := Unit) (fun r' _ => r' = res) (fun _ => zw G MS 51 a s9.1 s9.2)) A) [.ref (a 0), .int p1, .int p2].toArray s 0 0 A) (F0 m 41 ls [])
          unfold fX12_chain_s41 at h
          refine lv_iload hx hb dX12_chain_41 (lv_at hl 3 rfl) ?_
          refine lv_iload_n hx hb dX12_chain_43 rfl (lv_at hl 1 rfl) ?_
          have J65 : ∀ (v3 : Int32) (g : Nat → Nat → Int32) (L : Nat → Nat → Int64) (H : Heap) (locs : List Loc) (ls : Array Slot), fX12_chain_p65 fu v3 g L = some (res, s9) → va_P G.1 vwCl (zw G MS 51 a g L) H → va_D A (zw G MS 51 a g L) → va_S A s.heap H locs → lv_has ls 5 [(3, .int v3)] → W p l e { frames := 11, cells := 0, slots := 0, locals := 228 } s m [.ref (a 0), .int p1, .int p2].toArray below meth c H locs 0 0 (MQ below ((kQi G (S := Unit) (fun r' _ => r' = res) (fun _ => zw G MS 51 a s9.1 s9.2)) A) [.ref (a 0), .int p1, .int p2].toArray s 0 0 A) (F0 m 65 ls []) := by
            intro v3 g L H locs ls h hP hD hS hl
            unfold fX12_chain_p65 at h
            refine lv_iload_n hx hb dX12_chain_65 rfl (lv_at hl 0 rfl) ?_
            exact y_iret C hr hlk hP hD hS h (Nat.le_of_ble_eq_true rfl) (Nat.le_of_ble_eq_true rfl) dX12_chain_66
          refine lv_icmp_ge (x := v4) (y := v2) (tgt := 65) hx hb dX12_chain_44 (by decide) (fun c16 => ?_) (fun c16 => ?_)
          ·
            have h := ite_t c16 h
            exact J65 v3 g L H locs ls h hP hD hS (lv_sub hl [2] rfl)
          ·
            have h := ite_e c16 h
            refine lv_iload_n hx hb dX12_chain_47 rfl (lv_at hl 2 rfl) ?_
            refine lv_iconst (v := -1) hx hb dX12_chain_48 (by decide) ?_
            refine lv_icmp_eq (x := v3) (y := (-1)) (tgt := 65) hx hb dX12_chain_49 (by decide) (fun c17 => ?_) (fun c17 => ?_)
            ·
              have h := ite_t c17 h
              exact J65 v3 g L H locs ls h hP hD hS (lv_sub hl [2] rfl)
            ·
              have h := ite_e c17 h
              refine lv_aload_n hx hb dX12_chain_52 rfl (lv_at hl 0 rfl) ?_
              refine x_getr (Or.inl fl_X12_123) C hP (by decide) ms_0 rfl dX12_chain_53 ?_
              refine lv_iload_n hx hb dX12_chain_56 rfl (lv_at hl 2 rfl) ?_
              refine y_ald C hP (by decide) ms_34 dX12_chain_57 h (fun h => ?_)
              refine y_let h (fun x18 h => ?_)
              refine lv_istore_n (lv' := [(3, .int x18), (0, .ref (a 0)), (2, .int v2), (4, .int v4)]) hx hb dX12_chain_58 rfl hl (by decide) rfl (fun ls hl => ?_)
              refine lv_iinc (v := (v4 + 1)) (lv' := [(4, .int (v4 + 1)), (3, .int x18), (0, .ref (a 0)), (2, .int v2)]) hx hb dX12_chain_59 hl (k := 3) rfl rfl (by decide) rfl (fun ls hl => ?_)
              refine lv_goto (tgt := 41) hx hb dX12_chain_62 (by decide) ?_
              exact ih41 (x18, (v4 + 1), g, L) h H locs ls hP hD hS (lv_sub hl [2, 3, 1, 0] rfl)
        exact lp41 v2 fu (v1, 0, g13, L14) h H locs ls hP hD hS (lv_sub hl [2, 4, 1, 0] rfl)
      ·
        have h := ite_t c11 h
        exact J30 g8 L9 H locs ls h hP hD hS (lv_sub hl [] rfl)
    refine lv_if_lt (x := p2) (tgt := 22) hx hb dX12_chain_15 (by decide) (fun c19 => ?_) (fun c19 => ?_)
    ·
      have h := ite_t c19 h
      refine lv_iconst (v := 0) hx hb dX12_chain_22 (by decide) ?_
      exact J23 p1 p2 0 g3 L4 H locs ls h hP hD hS (lv_sub hl [0, 1, 2] rfl)
    ·
      have h := ite_e c19 h
      refine lv_iconst (v := 1) hx hb dX12_chain_18 (by decide) ?_
      refine lv_goto (tgt := 23) hx hb dX12_chain_19 (by decide) ?_
      exact J23 p1 p2 1 g3 L4 H locs ls h hP hD hS (lv_sub hl [0, 1, 2] rfl)
